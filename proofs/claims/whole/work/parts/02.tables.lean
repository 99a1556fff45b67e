/-! tables of the kinds of cells: 0..12 the objects of the classes RX0 .. RX12, then the arrays, one kind for each field that holds an array
0 Auction
1 Church
2 Household
3 Ledger
4 Parish
5 Right
6 Rings
7 Rows
8 Seating
9 Sundays
10 Usher
11 PewRank
12 PewRankModel
13 Auction.bench [8]
14 Auction.from [8]
15 Auction.units [8]
16 Auction.years [8]
17 Auction.offered [96]
18 Auction.best [3328]
19 Auction.ahead [256]
20 Auction.winning [12]
21 Auction.lotOf [12]
22 Auction.priceOf [12]
23 Church.pillarX [8]
24 Church.pillarY [8]
25 Church.pillarHalf [8]
26 Church.benchX [8]
27 Church.benchY [8]
28 Church.benchUnits [8]
29 Church.isGallery [8]
30 Church.hearing [256]
31 Church.inWay [256]
32 Ledger.rights [100]
33 Ledger.plotOwners [1600]
34 Ledger.bestAt [256]
35 Parish.households [12]
36 Rings.looksAt [12]
37 Rings.to [12]
38 Rows.numbers [240]
39 Rows.lengths [4]
40 Rows.widths [4]
41 Seating.spot [12]
42 Seating.width [12]
43 Seating.worth [12]
44 Seating.byRight [12]
45 Sundays.isSpare [256]
46 Sundays.isTaken [256]
47 Sundays.spotOf [60]
48 Usher.reach [257]
49 Usher.order [12]
50 Usher.waiting [12]
51 Usher.best [3341]
52 PewRank.history [200]
53 PewRank.owner [256]
54 PewRankModel.width [4]
55 PewRankModel.size [4]
56 PewRankModel.numbers [240]
57 PewRankModel.moved [60]
58 PewRankModel.px [8]
59 PewRankModel.py [8]
60 PewRankModel.half [8]
61 PewRankModel.bx [8]
62 PewRankModel.by [8]
63 PewRankModel.units [8]
64 PewRankModel.isGallery [8]
65 PewRankModel.rank [12]
66 PewRankModel.wide [12]
67 PewRankModel.deaf [12]
68 PewRankModel.isGone [12]
69 PewRankModel.plots [1600]
70 PewRankModel.kind [100]
71 PewRankModel.holder [100]
72 PewRankModel.rBench [100]
73 PewRankModel.rFrom [100]
74 PewRankModel.rUnits [100]
75 PewRankModel.since [100]
76 PewRankModel.first [100]
77 PewRankModel.until [100]
78 PewRankModel.untilWas [100]
79 PewRankModel.endKnown [100]
80 PewRankModel.known [100]
81 PewRankModel.toHeirs [100]
82 PewRankModel.price [100]
83 PewRankModel.lotBench [8]
84 PewRankModel.lotFrom [8]
85 PewRankModel.lotUnits [8]
86 PewRankModel.lotYears [8]
87 PewRankModel.offer [96]
88 PewRankModel.seatBench [2400]
89 PewRankModel.seatUnit [2400]
90 PewRankModel.seatUnits [2400]
91 PewRankModel.seatWorth [2400]
92 PewRankModel.byRight [2400]
93 PewRankModel.hears [256]
94 PewRankModel.sees [256]
95 PewRankModel.sums [3328]
96 PewRankModel.gotLot [12]
97 PewRankModel.got [12]
98 PewRankModel.pays [12]
99 PewRankModel.sitBench [12]
100 PewRankModel.sitUnit [12]
101 PewRankModel.sitWorth [12]
102 PewRankModel.order [12]
103 PewRankModel.rest [12]
104 PewRankModel.sitRight [12]
105 PewRankModel.owner [256]
106 PewRankModel.isSat [256]
107 PewRankModel.best [3341]
108 PewRankModel.looksAt [12]
109 PewRankModel.wouldSit [12]
110 PewRankModel.isIn [12]
111 PewRankModel.isRing [12]
112 PewRankModel.sat [60]
113 PewRankModel.isKept [256]
-/
abbrev classes : List vw_C := [(RX0, TX0, 13), (RX1, TX1, 14), (RX2, TX2, 5), (RX3, TX3, 5), (RX4, TX4, 2), (RX5, TX5, 13), (RX6, TX6, 4), (RX7, TX7, 3), (RX8, TX8, 5), (RX9, TX9, 9), (RX10, TX10, 7), (RX11, TX11, 15), (RX12, TX12, 79)]
def nfL : List Nat := [13, 14, 5, 5, 2, 13, 4, 3, 5, 9, 7, 15, 79]
def nf (c : Nat) : Nat := nfL.getD c 0
def ftL : List (List Nat) := [[0, 2, 2, 2, 2, 2, 2, 2, 2, 3, 2, 2, 0], [0, 0, 0, 0, 2, 2, 2, 0, 2, 2, 2, 2, 2, 2], [0, 0, 0, 3, 0], [2, 0, 0, 2, 2], [2, 0], [0, 0, 0, 0, 0, 0, 0, 0, 0, 3, 0, 0, 0], [2, 2, 2, 2], [2, 2, 2], [2, 2, 2, 2, 0], [2, 2, 2, 2, 2, 2, 0, 0, 2], [2, 2, 2, 2, 2, 0, 2], [2, 2, 2, 2, 2, 2, 2, 2, 2, 2, 2, 0, 0, 0, 1], [0, 2, 2, 2, 2, 0, 0, 0, 0, 0, 0, 0, 1, 0, 0, 0, 0, 0, 2, 2, 2, 2, 2, 2, 2, 2, 2, 2, 2, 2, 2, 2, 2, 2, 2, 2, 2, 2, 2, 2, 2, 2, 2, 2, 2, 2, 2, 2, 2, 2, 2, 2, 2, 2, 2, 2, 3, 2, 2, 2, 0, 1, 2, 2, 2, 2, 2, 2, 2, 2, 2, 2, 2, 2, 2, 3, 2, 0, 2]]
/-- the type of field j of class c: 0 int, 3 boolean, 1 long, 2 a reference -/
def ft (c j : Nat) : Nat := (ftL.getD c []).getD j 0
def rkL : List (List Nat) := [[0, 13, 14, 15, 16, 17, 18, 19, 20, 0, 21, 22, 0], [0, 0, 0, 0, 23, 24, 25, 0, 26, 27, 28, 29, 30, 31], [0, 0, 0, 0, 0], [32, 0, 0, 33, 34], [35, 0], [0, 0, 0, 0, 0, 0, 0, 0, 0, 0, 0, 0, 0], [1, 4, 36, 37], [38, 39, 40], [41, 42, 43, 44, 0], [1, 4, 10, 45, 46, 8, 0, 0, 47], [1, 4, 48, 49, 50, 0, 51], [1, 4, 3, 10, 0, 6, 9, 7, 52, 8, 53, 0, 0, 0, 0], [0, 54, 55, 56, 57, 0, 0, 0, 0, 0, 0, 0, 0, 0, 0, 0, 0, 0, 58, 59, 60, 61, 62, 63, 64, 65, 66, 67, 68, 69, 70, 71, 72, 73, 74, 75, 76, 77, 78, 79, 80, 81, 82, 83, 84, 85, 86, 87, 88, 89, 90, 91, 92, 93, 94, 95, 0, 96, 97, 98, 0, 0, 99, 100, 101, 102, 103, 104, 105, 106, 107, 108, 109, 110, 111, 0, 112, 0, 113]]
/-- the kind of the cells that field j of class c refers to -/
def rk (c j : Nat) : Nat := (rkL.getD c []).getD j 0
/-- the kind of the cells that an array of type t refers to -/
def ek (t : Nat) : Nat := if t = 3 then 8 else if t = 4 then 5 else 2
def kdL : List (Nat ⊕ (Nat × Nat)) := [.inl 0, .inl 1, .inl 2, .inl 3, .inl 4, .inl 5, .inl 6, .inl 7, .inl 8, .inl 9, .inl 10, .inl 11, .inl 12, .inr (0, 8), .inr (0, 8), .inr (0, 8), .inr (0, 8), .inr (0, 96), .inr (0, 3328), .inr (0, 256), .inr (0, 12), .inr (0, 12), .inr (0, 12), .inr (0, 8), .inr (0, 8), .inr (0, 8), .inr (0, 8), .inr (0, 8), .inr (0, 8), .inr (1, 8), .inr (0, 256), .inr (0, 256), .inr (4, 100), .inr (0, 1600), .inr (0, 256), .inr (5, 12), .inr (0, 12), .inr (0, 12), .inr (2, 240), .inr (0, 4), .inr (0, 4), .inr (0, 12), .inr (0, 12), .inr (0, 12), .inr (1, 12), .inr (1, 256), .inr (1, 256), .inr (0, 60), .inr (0, 257), .inr (0, 12), .inr (0, 12), .inr (2, 3341), .inr (3, 200), .inr (0, 256), .inr (0, 4), .inr (0, 4), .inr (2, 240), .inr (2, 60), .inr (0, 8), .inr (0, 8), .inr (0, 8), .inr (0, 8), .inr (0, 8), .inr (0, 8), .inr (1, 8), .inr (0, 12), .inr (0, 12), .inr (0, 12), .inr (1, 12), .inr (0, 1600), .inr (0, 100), .inr (0, 100), .inr (0, 100), .inr (0, 100), .inr (0, 100), .inr (0, 100), .inr (0, 100), .inr (0, 100), .inr (0, 100), .inr (0, 100), .inr (0, 100), .inr (1, 100), .inr (2, 100), .inr (0, 8), .inr (0, 8), .inr (0, 8), .inr (0, 8), .inr (0, 96), .inr (0, 2400), .inr (0, 2400), .inr (0, 2400), .inr (0, 2400), .inr (1, 2400), .inr (0, 256), .inr (1, 256), .inr (2, 3328), .inr (0, 12), .inr (0, 12), .inr (2, 12), .inr (0, 12), .inr (0, 12), .inr (0, 12), .inr (0, 12), .inr (0, 12), .inr (1, 12), .inr (0, 256), .inr (1, 256), .inr (2, 3341), .inr (0, 12), .inr (0, 12), .inr (1, 12), .inr (1, 12), .inr (0, 60), .inr (1, 256)]
def kd (k : Nat) : Nat ⊕ (Nat × Nat) := kdL.getD k (.inl 0)
/-- the fields of the cells that are made once, that always hold the cell 0 of their kind -/
def lyL : List (Nat × Nat) := [(0, 1), (0, 2), (0, 3), (0, 4), (0, 5), (0, 6), (0, 7), (0, 8), (0, 10), (0, 11), (1, 4), (1, 5), (1, 6), (1, 8), (1, 9), (1, 10), (1, 11), (1, 12), (1, 13), (3, 0), (3, 3), (3, 4), (4, 0), (6, 0), (6, 1), (6, 2), (6, 3), (7, 0), (7, 1), (7, 2), (9, 0), (9, 1), (9, 2), (9, 3), (9, 4), (9, 8), (10, 0), (10, 1), (10, 2), (10, 3), (10, 4), (10, 6), (11, 0), (11, 1), (11, 2), (11, 3), (11, 4), (11, 5), (11, 6), (11, 7), (11, 8), (11, 9), (11, 10), (12, 1), (12, 2), (12, 3), (12, 4), (12, 18), (12, 19), (12, 20), (12, 21), (12, 22), (12, 23), (12, 24), (12, 25), (12, 26), (12, 27), (12, 28), (12, 29), (12, 30), (12, 31), (12, 32), (12, 33), (12, 34), (12, 35), (12, 36), (12, 37), (12, 38), (12, 39), (12, 40), (12, 41), (12, 42), (12, 43), (12, 44), (12, 45), (12, 46), (12, 47), (12, 48), (12, 49), (12, 50), (12, 51), (12, 52), (12, 53), (12, 54), (12, 55), (12, 57), (12, 58), (12, 59), (12, 62), (12, 63), (12, 64), (12, 65), (12, 66), (12, 67), (12, 68), (12, 69), (12, 70), (12, 71), (12, 72), (12, 73), (12, 74), (12, 76), (12, 78)]
def lyf (k i : Nat) : Bool := lyL.all fun q => !(q.1 == k && q.2 == i)
def lyk (k : Nat) : Bool := lyL.all fun q => !(q.1 == k)
def nst : List (String × Nat × MethodName × String) := [("PewRank", 9, ⟨"PewRank$Church", "<init>", "()V"⟩, "PewRank"), ("PewRank", 18, ⟨"PewRank$Parish", "<init>", "()V"⟩, "PewRank"), ("PewRank", 41, ⟨"PewRank$Auction", "<init>", "()V"⟩, "PewRank"), ("PewRank$Ledger", 34, ⟨"PewRank", "isYear", "(I)Z"⟩, "PewRank")]
def tbz : List Cond := lw_tbl.filter goodWord
theorem tbz_in {w : Cond} (h : w ∈ lw_tbl) (hg : goodWord w = true) : w ∈ tbz := List.mem_filter.mpr ⟨h, hg⟩
theorem tbz_tb {w : Cond} (h : w ∈ tables_1) (hg : goodWord w = true) : w ∈ tbz := tbz_in (List.mem_append_right _ h) hg
theorem tbz_good {y : MethodName} {cc : ByteArray} {n : Nat} {r : Option FieldType} (h : Cond.code y cc n r ∈ tbz) : GoodIn tbz (.code y cc n r :: tbz) := by
  intro w hw
  have hm : w ∈ tbz := by
    rcases List.mem_cons.mp hw with e | e
    · rw [e]; exact h
    · exact e
  exact ⟨hm, good_of_word (List.mem_filter.mp hm).2⟩
