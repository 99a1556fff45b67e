theorem mt_use {α β : Type} {o : Option α} {f : α → Option β} {z : β} (hF : mt o none f = some z) : ∃ y, o = some y ∧ f y = some z := by
  cases o with
  | none => cases hF
  | some y => exact ⟨y, rfl, hF⟩
theorem mtN {α γ : Type} {n : γ} {f : α → γ} {z : γ} (hF : mt none n f = z) : n = z := hF
theorem mtS {α γ : Type} {y : α} {n : γ} {f : α → γ} {z : γ} (hF : mt (some y) n f = z) : f y = z := hF
theorem msR {ρ τ γ : Type} {y : τ} {f : ρ → γ} {g : τ → γ} {z : γ} (hF : ms (.inr y) f g = z) : g y = z := hF
theorem lb_ex {α γ : Type} {e : α} {f : α → γ} {z : γ} (hF : lb e f = z) : ∃ x, x = e ∧ f x = z := ⟨e, rfl, hF⟩
def mxI (a b : Int32) : Int32 := if a < b then b else a
def mnI (a b : Int32) : Int32 := if b < a then b else a
def mxJ (a b : Int64) : Int64 := if b < a then a else b
def sgI (x : Int32) : Int32 := (x >>> ((31 : Int32) &&& 31)) ||| (((-x).toUInt32 >>> ((31 : Int32).toUInt32 &&& Int32.toUInt32 31)).toInt32)
theorem ly0_1 : (0, 1) ∈ lyL := List.mem_of_getElem? (i := 0) rfl
theorem ly0_2 : (0, 2) ∈ lyL := List.mem_of_getElem? (i := 1) rfl
theorem ly0_3 : (0, 3) ∈ lyL := List.mem_of_getElem? (i := 2) rfl
theorem ly0_4 : (0, 4) ∈ lyL := List.mem_of_getElem? (i := 3) rfl
theorem ly0_5 : (0, 5) ∈ lyL := List.mem_of_getElem? (i := 4) rfl
theorem ly0_6 : (0, 6) ∈ lyL := List.mem_of_getElem? (i := 5) rfl
theorem ly0_7 : (0, 7) ∈ lyL := List.mem_of_getElem? (i := 6) rfl
theorem ly0_8 : (0, 8) ∈ lyL := List.mem_of_getElem? (i := 7) rfl
theorem ly0_10 : (0, 10) ∈ lyL := List.mem_of_getElem? (i := 8) rfl
theorem ly0_11 : (0, 11) ∈ lyL := List.mem_of_getElem? (i := 9) rfl
theorem ly1_4 : (1, 4) ∈ lyL := List.mem_of_getElem? (i := 10) rfl
theorem ly1_5 : (1, 5) ∈ lyL := List.mem_of_getElem? (i := 11) rfl
theorem ly1_6 : (1, 6) ∈ lyL := List.mem_of_getElem? (i := 12) rfl
theorem ly1_8 : (1, 8) ∈ lyL := List.mem_of_getElem? (i := 13) rfl
theorem ly1_9 : (1, 9) ∈ lyL := List.mem_of_getElem? (i := 14) rfl
theorem ly1_10 : (1, 10) ∈ lyL := List.mem_of_getElem? (i := 15) rfl
theorem ly1_11 : (1, 11) ∈ lyL := List.mem_of_getElem? (i := 16) rfl
theorem ly1_12 : (1, 12) ∈ lyL := List.mem_of_getElem? (i := 17) rfl
theorem ly1_13 : (1, 13) ∈ lyL := List.mem_of_getElem? (i := 18) rfl
theorem ly3_0 : (3, 0) ∈ lyL := List.mem_of_getElem? (i := 19) rfl
theorem ly3_3 : (3, 3) ∈ lyL := List.mem_of_getElem? (i := 20) rfl
theorem ly3_4 : (3, 4) ∈ lyL := List.mem_of_getElem? (i := 21) rfl
theorem ly4_0 : (4, 0) ∈ lyL := List.mem_of_getElem? (i := 22) rfl
theorem ly6_0 : (6, 0) ∈ lyL := List.mem_of_getElem? (i := 23) rfl
theorem ly6_1 : (6, 1) ∈ lyL := List.mem_of_getElem? (i := 24) rfl
theorem ly6_2 : (6, 2) ∈ lyL := List.mem_of_getElem? (i := 25) rfl
theorem ly6_3 : (6, 3) ∈ lyL := List.mem_of_getElem? (i := 26) rfl
theorem ly7_0 : (7, 0) ∈ lyL := List.mem_of_getElem? (i := 27) rfl
theorem ly7_1 : (7, 1) ∈ lyL := List.mem_of_getElem? (i := 28) rfl
theorem ly7_2 : (7, 2) ∈ lyL := List.mem_of_getElem? (i := 29) rfl
theorem ly9_0 : (9, 0) ∈ lyL := List.mem_of_getElem? (i := 30) rfl
theorem ly9_1 : (9, 1) ∈ lyL := List.mem_of_getElem? (i := 31) rfl
theorem ly9_2 : (9, 2) ∈ lyL := List.mem_of_getElem? (i := 32) rfl
theorem ly9_3 : (9, 3) ∈ lyL := List.mem_of_getElem? (i := 33) rfl
theorem ly9_4 : (9, 4) ∈ lyL := List.mem_of_getElem? (i := 34) rfl
theorem ly9_8 : (9, 8) ∈ lyL := List.mem_of_getElem? (i := 35) rfl
theorem ly10_0 : (10, 0) ∈ lyL := List.mem_of_getElem? (i := 36) rfl
theorem ly10_1 : (10, 1) ∈ lyL := List.mem_of_getElem? (i := 37) rfl
theorem ly10_2 : (10, 2) ∈ lyL := List.mem_of_getElem? (i := 38) rfl
theorem ly10_3 : (10, 3) ∈ lyL := List.mem_of_getElem? (i := 39) rfl
theorem ly10_4 : (10, 4) ∈ lyL := List.mem_of_getElem? (i := 40) rfl
theorem ly10_6 : (10, 6) ∈ lyL := List.mem_of_getElem? (i := 41) rfl
theorem ly11_0 : (11, 0) ∈ lyL := List.mem_of_getElem? (i := 42) rfl
theorem ly11_1 : (11, 1) ∈ lyL := List.mem_of_getElem? (i := 43) rfl
theorem ly11_2 : (11, 2) ∈ lyL := List.mem_of_getElem? (i := 44) rfl
theorem ly11_3 : (11, 3) ∈ lyL := List.mem_of_getElem? (i := 45) rfl
theorem ly11_4 : (11, 4) ∈ lyL := List.mem_of_getElem? (i := 46) rfl
theorem ly11_5 : (11, 5) ∈ lyL := List.mem_of_getElem? (i := 47) rfl
theorem ly11_6 : (11, 6) ∈ lyL := List.mem_of_getElem? (i := 48) rfl
theorem ly11_7 : (11, 7) ∈ lyL := List.mem_of_getElem? (i := 49) rfl
theorem ly11_8 : (11, 8) ∈ lyL := List.mem_of_getElem? (i := 50) rfl
theorem ly11_9 : (11, 9) ∈ lyL := List.mem_of_getElem? (i := 51) rfl
theorem ly11_10 : (11, 10) ∈ lyL := List.mem_of_getElem? (i := 52) rfl
theorem ly12_1 : (12, 1) ∈ lyL := List.mem_of_getElem? (i := 53) rfl
theorem ly12_2 : (12, 2) ∈ lyL := List.mem_of_getElem? (i := 54) rfl
theorem ly12_3 : (12, 3) ∈ lyL := List.mem_of_getElem? (i := 55) rfl
theorem ly12_4 : (12, 4) ∈ lyL := List.mem_of_getElem? (i := 56) rfl
theorem ly12_18 : (12, 18) ∈ lyL := List.mem_of_getElem? (i := 57) rfl
theorem ly12_19 : (12, 19) ∈ lyL := List.mem_of_getElem? (i := 58) rfl
theorem ly12_20 : (12, 20) ∈ lyL := List.mem_of_getElem? (i := 59) rfl
theorem ly12_21 : (12, 21) ∈ lyL := List.mem_of_getElem? (i := 60) rfl
theorem ly12_22 : (12, 22) ∈ lyL := List.mem_of_getElem? (i := 61) rfl
theorem ly12_23 : (12, 23) ∈ lyL := List.mem_of_getElem? (i := 62) rfl
theorem ly12_24 : (12, 24) ∈ lyL := List.mem_of_getElem? (i := 63) rfl
theorem ly12_25 : (12, 25) ∈ lyL := List.mem_of_getElem? (i := 64) rfl
theorem ly12_26 : (12, 26) ∈ lyL := List.mem_of_getElem? (i := 65) rfl
theorem ly12_27 : (12, 27) ∈ lyL := List.mem_of_getElem? (i := 66) rfl
theorem ly12_28 : (12, 28) ∈ lyL := List.mem_of_getElem? (i := 67) rfl
theorem ly12_29 : (12, 29) ∈ lyL := List.mem_of_getElem? (i := 68) rfl
theorem ly12_30 : (12, 30) ∈ lyL := List.mem_of_getElem? (i := 69) rfl
theorem ly12_31 : (12, 31) ∈ lyL := List.mem_of_getElem? (i := 70) rfl
theorem ly12_32 : (12, 32) ∈ lyL := List.mem_of_getElem? (i := 71) rfl
theorem ly12_33 : (12, 33) ∈ lyL := List.mem_of_getElem? (i := 72) rfl
theorem ly12_34 : (12, 34) ∈ lyL := List.mem_of_getElem? (i := 73) rfl
theorem ly12_35 : (12, 35) ∈ lyL := List.mem_of_getElem? (i := 74) rfl
theorem ly12_36 : (12, 36) ∈ lyL := List.mem_of_getElem? (i := 75) rfl
theorem ly12_37 : (12, 37) ∈ lyL := List.mem_of_getElem? (i := 76) rfl
theorem ly12_38 : (12, 38) ∈ lyL := List.mem_of_getElem? (i := 77) rfl
theorem ly12_39 : (12, 39) ∈ lyL := List.mem_of_getElem? (i := 78) rfl
theorem ly12_40 : (12, 40) ∈ lyL := List.mem_of_getElem? (i := 79) rfl
theorem ly12_41 : (12, 41) ∈ lyL := List.mem_of_getElem? (i := 80) rfl
theorem ly12_42 : (12, 42) ∈ lyL := List.mem_of_getElem? (i := 81) rfl
theorem ly12_43 : (12, 43) ∈ lyL := List.mem_of_getElem? (i := 82) rfl
theorem ly12_44 : (12, 44) ∈ lyL := List.mem_of_getElem? (i := 83) rfl
theorem ly12_45 : (12, 45) ∈ lyL := List.mem_of_getElem? (i := 84) rfl
theorem ly12_46 : (12, 46) ∈ lyL := List.mem_of_getElem? (i := 85) rfl
theorem ly12_47 : (12, 47) ∈ lyL := List.mem_of_getElem? (i := 86) rfl
theorem ly12_48 : (12, 48) ∈ lyL := List.mem_of_getElem? (i := 87) rfl
theorem ly12_49 : (12, 49) ∈ lyL := List.mem_of_getElem? (i := 88) rfl
theorem ly12_50 : (12, 50) ∈ lyL := List.mem_of_getElem? (i := 89) rfl
theorem ly12_51 : (12, 51) ∈ lyL := List.mem_of_getElem? (i := 90) rfl
theorem ly12_52 : (12, 52) ∈ lyL := List.mem_of_getElem? (i := 91) rfl
theorem ly12_53 : (12, 53) ∈ lyL := List.mem_of_getElem? (i := 92) rfl
theorem ly12_54 : (12, 54) ∈ lyL := List.mem_of_getElem? (i := 93) rfl
theorem ly12_55 : (12, 55) ∈ lyL := List.mem_of_getElem? (i := 94) rfl
theorem ly12_57 : (12, 57) ∈ lyL := List.mem_of_getElem? (i := 95) rfl
theorem ly12_58 : (12, 58) ∈ lyL := List.mem_of_getElem? (i := 96) rfl
theorem ly12_59 : (12, 59) ∈ lyL := List.mem_of_getElem? (i := 97) rfl
theorem ly12_62 : (12, 62) ∈ lyL := List.mem_of_getElem? (i := 98) rfl
theorem ly12_63 : (12, 63) ∈ lyL := List.mem_of_getElem? (i := 99) rfl
theorem ly12_64 : (12, 64) ∈ lyL := List.mem_of_getElem? (i := 100) rfl
theorem ly12_65 : (12, 65) ∈ lyL := List.mem_of_getElem? (i := 101) rfl
theorem ly12_66 : (12, 66) ∈ lyL := List.mem_of_getElem? (i := 102) rfl
theorem ly12_67 : (12, 67) ∈ lyL := List.mem_of_getElem? (i := 103) rfl
theorem ly12_68 : (12, 68) ∈ lyL := List.mem_of_getElem? (i := 104) rfl
theorem ly12_69 : (12, 69) ∈ lyL := List.mem_of_getElem? (i := 105) rfl
theorem ly12_70 : (12, 70) ∈ lyL := List.mem_of_getElem? (i := 106) rfl
theorem ly12_71 : (12, 71) ∈ lyL := List.mem_of_getElem? (i := 107) rfl
theorem ly12_72 : (12, 72) ∈ lyL := List.mem_of_getElem? (i := 108) rfl
theorem ly12_73 : (12, 73) ∈ lyL := List.mem_of_getElem? (i := 109) rfl
theorem ly12_74 : (12, 74) ∈ lyL := List.mem_of_getElem? (i := 110) rfl
theorem ly12_76 : (12, 76) ∈ lyL := List.mem_of_getElem? (i := 111) rfl
theorem ly12_78 : (12, 78) ∈ lyL := List.mem_of_getElem? (i := 112) rfl
theorem dJ6_signum_0f7a4_0 : decode cJ6_signum_0f7a4 0 = .ok (.iload_n 0, 1) := by decide +kernel
theorem dJ6_signum_0f7a4_1 : decode cJ6_signum_0f7a4 1 = .ok (.bipush 31, 2) := by decide +kernel
theorem dJ6_signum_0f7a4_3 : decode cJ6_signum_0f7a4 3 = .ok (.ishr, 1) := by decide +kernel
theorem dJ6_signum_0f7a4_4 : decode cJ6_signum_0f7a4 4 = .ok (.iload_n 0, 1) := by decide +kernel
theorem dJ6_signum_0f7a4_5 : decode cJ6_signum_0f7a4 5 = .ok (.ineg, 1) := by decide +kernel
theorem dJ6_signum_0f7a4_6 : decode cJ6_signum_0f7a4 6 = .ok (.bipush 31, 2) := by decide +kernel
theorem dJ6_signum_0f7a4_8 : decode cJ6_signum_0f7a4 8 = .ok (.iushr, 1) := by decide +kernel
theorem dJ6_signum_0f7a4_9 : decode cJ6_signum_0f7a4 9 = .ok (.ior, 1) := by decide +kernel
theorem dJ6_signum_0f7a4_10 : decode cJ6_signum_0f7a4 10 = .ok (.ireturn, 1) := by decide +kernel
theorem dJ7_fill_53178_0 : decode cJ7_fill_53178 0 = .ok (.iconst 0, 1) := by decide +kernel
theorem dJ7_fill_53178_1 : decode cJ7_fill_53178 1 = .ok (.istore_n 2, 1) := by decide +kernel
theorem dJ7_fill_53178_2 : decode cJ7_fill_53178 2 = .ok (.aload_n 0, 1) := by decide +kernel
theorem dJ7_fill_53178_3 : decode cJ7_fill_53178 3 = .ok (.arraylength, 1) := by decide +kernel
theorem dJ7_fill_53178_4 : decode cJ7_fill_53178 4 = .ok (.istore_n 3, 1) := by decide +kernel
theorem dJ7_fill_53178_5 : decode cJ7_fill_53178 5 = .ok (.iload_n 2, 1) := by decide +kernel
theorem dJ7_fill_53178_6 : decode cJ7_fill_53178 6 = .ok (.iload_n 3, 1) := by decide +kernel
theorem dJ7_fill_53178_7 : decode cJ7_fill_53178 7 = .ok (.if_icmp .ge 13, 3) := by decide +kernel
theorem dJ7_fill_53178_10 : decode cJ7_fill_53178 10 = .ok (.aload_n 0, 1) := by decide +kernel
theorem dJ7_fill_53178_11 : decode cJ7_fill_53178 11 = .ok (.iload_n 2, 1) := by decide +kernel
theorem dJ7_fill_53178_12 : decode cJ7_fill_53178 12 = .ok (.iload_n 1, 1) := by decide +kernel
theorem dJ7_fill_53178_13 : decode cJ7_fill_53178 13 = .ok (.iastore, 1) := by decide +kernel
theorem dJ7_fill_53178_14 : decode cJ7_fill_53178 14 = .ok (.iinc 2 1, 3) := by decide +kernel
theorem dJ7_fill_53178_17 : decode cJ7_fill_53178 17 = .ok (.goto (-12), 3) := by decide +kernel
theorem dJ7_fill_53178_20 : decode cJ7_fill_53178 20 = .ok (.return_, 1) := by decide +kernel
theorem dJ7_fill_fda19_0 : decode cJ7_fill_fda19 0 = .ok (.aload_n 0, 1) := by decide +kernel
theorem dJ7_fill_fda19_1 : decode cJ7_fill_fda19 1 = .ok (.arraylength, 1) := by decide +kernel
theorem dJ7_fill_fda19_2 : decode cJ7_fill_fda19 2 = .ok (.iload_n 1, 1) := by decide +kernel
theorem dJ7_fill_fda19_3 : decode cJ7_fill_fda19 3 = .ok (.iload_n 2, 1) := by decide +kernel
theorem dJ7_fill_fda19_4 : decode cJ7_fill_fda19 4 = .ok (.invokestatic 13, 3) := by decide +kernel
theorem dJ7_fill_fda19_7 : decode cJ7_fill_fda19 7 = .ok (.iload_n 1, 1) := by decide +kernel
theorem dJ7_fill_fda19_8 : decode cJ7_fill_fda19 8 = .ok (.istore 4, 2) := by decide +kernel
theorem dJ7_fill_fda19_10 : decode cJ7_fill_fda19 10 = .ok (.iload 4, 2) := by decide +kernel
theorem dJ7_fill_fda19_12 : decode cJ7_fill_fda19 12 = .ok (.iload_n 2, 1) := by decide +kernel
theorem dJ7_fill_fda19_13 : decode cJ7_fill_fda19 13 = .ok (.if_icmp .ge 14, 3) := by decide +kernel
theorem dJ7_fill_fda19_16 : decode cJ7_fill_fda19 16 = .ok (.aload_n 0, 1) := by decide +kernel
theorem dJ7_fill_fda19_17 : decode cJ7_fill_fda19 17 = .ok (.iload 4, 2) := by decide +kernel
theorem dJ7_fill_fda19_19 : decode cJ7_fill_fda19 19 = .ok (.iload_n 3, 1) := by decide +kernel
theorem dJ7_fill_fda19_20 : decode cJ7_fill_fda19 20 = .ok (.iastore, 1) := by decide +kernel
theorem dJ7_fill_fda19_21 : decode cJ7_fill_fda19 21 = .ok (.iinc 4 1, 3) := by decide +kernel
theorem dJ7_fill_fda19_24 : decode cJ7_fill_fda19 24 = .ok (.goto (-14), 3) := by decide +kernel
theorem dJ7_fill_fda19_27 : decode cJ7_fill_fda19 27 = .ok (.return_, 1) := by decide +kernel
theorem dJ7_fill_bad5a_0 : decode cJ7_fill_bad5a 0 = .ok (.aload_n 0, 1) := by decide +kernel
theorem dJ7_fill_bad5a_1 : decode cJ7_fill_bad5a 1 = .ok (.arraylength, 1) := by decide +kernel
theorem dJ7_fill_bad5a_2 : decode cJ7_fill_bad5a 2 = .ok (.iload_n 1, 1) := by decide +kernel
theorem dJ7_fill_bad5a_3 : decode cJ7_fill_bad5a 3 = .ok (.iload_n 2, 1) := by decide +kernel
theorem dJ7_fill_bad5a_4 : decode cJ7_fill_bad5a 4 = .ok (.invokestatic 13, 3) := by decide +kernel
theorem dJ7_fill_bad5a_7 : decode cJ7_fill_bad5a 7 = .ok (.iload_n 1, 1) := by decide +kernel
theorem dJ7_fill_bad5a_8 : decode cJ7_fill_bad5a 8 = .ok (.istore 5, 2) := by decide +kernel
theorem dJ7_fill_bad5a_10 : decode cJ7_fill_bad5a 10 = .ok (.iload 5, 2) := by decide +kernel
theorem dJ7_fill_bad5a_12 : decode cJ7_fill_bad5a 12 = .ok (.iload_n 2, 1) := by decide +kernel
theorem dJ7_fill_bad5a_13 : decode cJ7_fill_bad5a 13 = .ok (.if_icmp .ge 14, 3) := by decide +kernel
theorem dJ7_fill_bad5a_16 : decode cJ7_fill_bad5a 16 = .ok (.aload_n 0, 1) := by decide +kernel
theorem dJ7_fill_bad5a_17 : decode cJ7_fill_bad5a 17 = .ok (.iload 5, 2) := by decide +kernel
theorem dJ7_fill_bad5a_19 : decode cJ7_fill_bad5a 19 = .ok (.lload_n 3, 1) := by decide +kernel
theorem dJ7_fill_bad5a_20 : decode cJ7_fill_bad5a 20 = .ok (.lastore, 1) := by decide +kernel
theorem dJ7_fill_bad5a_21 : decode cJ7_fill_bad5a 21 = .ok (.iinc 5 1, 3) := by decide +kernel
theorem dJ7_fill_bad5a_24 : decode cJ7_fill_bad5a 24 = .ok (.goto (-14), 3) := by decide +kernel
theorem dJ7_fill_bad5a_27 : decode cJ7_fill_bad5a 27 = .ok (.return_, 1) := by decide +kernel
theorem dJ7_rangeCheck_23922_0 : decode cJ7_rangeCheck_23922 0 = .ok (.iload_n 1, 1) := by decide +kernel
theorem dJ7_rangeCheck_23922_1 : decode cJ7_rangeCheck_23922 1 = .ok (.iload_n 2, 1) := by decide +kernel
theorem dJ7_rangeCheck_23922_2 : decode cJ7_rangeCheck_23922 2 = .ok (.if_icmp .le 44, 3) := by decide +kernel
theorem dJ7_rangeCheck_23922_46 : decode cJ7_rangeCheck_23922 46 = .ok (.iload_n 1, 1) := by decide +kernel
theorem dJ7_rangeCheck_23922_47 : decode cJ7_rangeCheck_23922 47 = .ok (.ifCond .ge 12, 3) := by decide +kernel
theorem dJ7_rangeCheck_23922_59 : decode cJ7_rangeCheck_23922 59 = .ok (.iload_n 2, 1) := by decide +kernel
theorem dJ7_rangeCheck_23922_60 : decode cJ7_rangeCheck_23922 60 = .ok (.iload_n 0, 1) := by decide +kernel
theorem dJ7_rangeCheck_23922_61 : decode cJ7_rangeCheck_23922 61 = .ok (.if_icmp .le 12, 3) := by decide +kernel
theorem dJ7_rangeCheck_23922_73 : decode cJ7_rangeCheck_23922 73 = .ok (.return_, 1) := by decide +kernel
section MathRows
variable {X : Cz} {M : Mi} {b : Bool} {h0 : Hp} {pc : Nat} {ls : List (Nat × AV)} {st : List AV} {h : Hp} {r : Option AV} {h1 : Hp}
theorem v_J9_max_7cf53 {x y : Int32} {idx : Nat} (hl : Cond.methodLink M.1.cls idx yJ9_max_7cf53 ∈ tbz) (hfr : 1 ≤ M.2.2.2.2.1) (hlo : stw st + 13 ≤ M.2.2.2.2.2) (hd : decode M.2.1 pc = .ok (.invokestatic idx, 3)) (kk : V X M b h0 (pc + 3) ls (zi (mxI x y) :: st) h r h1) : V X M b h0 pc ls (zi y :: zi x :: st) h r h1 := by
  refine ⟨kk.1, fun l p e s m args below meth c' H locs L ad ad0 P => ?_⟩
  have hts := P.1.2.2.2.1
  have hle : gC h0 ≤ gC h ∧ gS h0 ≤ gS h := ⟨P.2.2.2.2.2.2.2.2.1, P.2.2.2.2.2.2.2.2.2.1⟩
  have k1 := kk.1.1
  have k2 := kk.1.2.1
  exact va_mmax P.1.1 P.1.2.1 (P.1.2.2.2.2.2.1.trans P.2.2.2.2.2.1.1.symm) P.1.2.2.2.2.1 (hts _ hl) (hts _ sxJ9_max_7cf53) (hts _ lcJ9_max_7cf53.2.1) (hts _ lcJ9_max_7cf53.1) hfr (by rw [stw_eq]; exact hlo) (by show gC h - gC h0 ≤ gC h1 - gC h0; omega) (by show gS h - gS h0 ≤ gS h1 - gS h0; omega) hd (kk.2 l p e s m args below meth c' H locs L ad ad0 (P.ns (lzs_c (lz_i h _) P.hs.t.t)))
theorem v_J9_min_7cf53 {x y : Int32} {idx : Nat} (hl : Cond.methodLink M.1.cls idx yJ9_min_7cf53 ∈ tbz) (hfr : 1 ≤ M.2.2.2.2.1) (hlo : stw st + 13 ≤ M.2.2.2.2.2) (hd : decode M.2.1 pc = .ok (.invokestatic idx, 3)) (kk : V X M b h0 (pc + 3) ls (zi (mnI x y) :: st) h r h1) : V X M b h0 pc ls (zi y :: zi x :: st) h r h1 := by
  refine ⟨kk.1, fun l p e s m args below meth c' H locs L ad ad0 P => ?_⟩
  have hts := P.1.2.2.2.1
  have hle : gC h0 ≤ gC h ∧ gS h0 ≤ gS h := ⟨P.2.2.2.2.2.2.2.2.1, P.2.2.2.2.2.2.2.2.2.1⟩
  have k1 := kk.1.1
  have k2 := kk.1.2.1
  exact va_mmin P.1.1 P.1.2.1 (P.1.2.2.2.2.2.1.trans P.2.2.2.2.2.1.1.symm) P.1.2.2.2.2.1 (hts _ hl) (hts _ sxJ9_min_7cf53) (hts _ lcJ9_min_7cf53.2.1) (hts _ lcJ9_min_7cf53.1) hfr (by rw [stw_eq]; exact hlo) (by show gC h - gC h0 ≤ gC h1 - gC h0; omega) (by show gS h - gS h0 ≤ gS h1 - gS h0; omega) hd (kk.2 l p e s m args below meth c' H locs L ad ad0 (P.ns (lzs_c (lz_i h _) P.hs.t.t)))
theorem v_J9_max_f86c9 {x y : Int64} {idx : Nat} (hl : Cond.methodLink M.1.cls idx yJ9_max_f86c9 ∈ tbz) (hfr : 1 ≤ M.2.2.2.2.1) (hlo : stw st + 15 ≤ M.2.2.2.2.2) (hd : decode M.2.1 pc = .ok (.invokestatic idx, 3)) (kk : V X M b h0 (pc + 3) ls (zj (mxJ x y) :: st) h r h1) : V X M b h0 pc ls (zj y :: zj x :: st) h r h1 := by
  refine ⟨kk.1, fun l p e s m args below meth c' H locs L ad ad0 P => ?_⟩
  have hts := P.1.2.2.2.1
  have hle : gC h0 ≤ gC h ∧ gS h0 ≤ gS h := ⟨P.2.2.2.2.2.2.2.2.1, P.2.2.2.2.2.2.2.2.2.1⟩
  have k1 := kk.1.1
  have k2 := kk.1.2.1
  exact va_mmax_long P.1.1 P.1.2.1 (P.1.2.2.2.2.2.1.trans P.2.2.2.2.2.1.1.symm) P.1.2.2.2.2.1 (hts _ hl) (hts _ sxJ9_max_f86c9) (hts _ lcJ9_max_f86c9.2.1) (hts _ lcJ9_max_f86c9.1) hfr (by rw [stw_eq]; exact hlo) (by show gC h - gC h0 ≤ gC h1 - gC h0; omega) (by show gS h - gS h0 ≤ gS h1 - gS h0; omega) hd (kk.2 l p e s m args below meth c' H locs L ad ad0 (P.ns (lzs_c (lz_j h _) P.hs.t.t)))
end MathRows
theorem tJ6_signum_0f7a4 {X : Cz} {b : Bool} (a0 : Int32) (h : Hp) : Ct X mJ6_signum_0f7a4 b [zi a0] h (some (zi (sgI a0))) h := by
  refine Ct_of (by decide) (Nat.le_of_ble_eq_true rfl) (ls := [(0, zi a0)]) rfl ?_
  refine v_iload_n (j := 0) dJ6_signum_0f7a4_0 rfl ?_
  refine v_bipush (v := 31) dJ6_signum_0f7a4_1 (by decide) ?_
  refine v_ishr dJ6_signum_0f7a4_3 ?_
  refine v_iload_n (j := 0) dJ6_signum_0f7a4_4 rfl ?_
  refine v_ineg dJ6_signum_0f7a4_5 ?_
  refine v_bipush (v := 31) dJ6_signum_0f7a4_6 (by decide) ?_
  refine v_iushr dJ6_signum_0f7a4_8 ?_
  refine v_ior dJ6_signum_0f7a4_9 ?_
  exact v_iret rfl dJ6_signum_0f7a4_10
/-- Arrays.fill -/
def flI (h : Hp) (k n a e : Nat) (v : Int32) : Hp := (fun x y c => if x = k ∧ y = n ∧ a ≤ c ∧ c < e then v else h.1 x y c, h.2)
def flJ (h : Hp) (k n a e : Nat) (v : Int64) : Hp := (h.1, fun x y c => if x = k ∧ y = n ∧ a ≤ c ∧ c < e then v else h.2.1 x y c, h.2.2)
theorem flI_z (h : Hp) (k n a e : Nat) (v : Int32) (he : e ≤ a) : flI h k n a e v = h := by
  unfold flI
  refine Prod.ext ?_ rfl
  funext x y c
  exact if_neg fun q => by omega
theorem flJ_z (h : Hp) (k n a e : Nat) (v : Int64) (he : e ≤ a) : flJ h k n a e v = h := by
  unfold flJ
  refine Prod.ext rfl (Prod.ext ?_ rfl)
  funext x y c
  exact if_neg fun q => by omega
theorem flI_s (h : Hp) (k n a e : Nat) (v : Int32) (he : a < e) : flI (sI h k n a v) k n (a + 1) e v = flI h k n a e v := by
  unfold flI sI
  refine Prod.ext ?_ rfl
  funext x y c
  dsimp only
  by_cases q1 : x = k ∧ y = n ∧ a + 1 ≤ c ∧ c < e
  · rw [if_pos q1, if_pos ⟨q1.1, q1.2.1, by omega, q1.2.2.2⟩]
  · rw [if_neg q1]
    by_cases q2 : x = k ∧ y = n ∧ c = a
    · rw [if_pos q2, if_pos ⟨q2.1, q2.2.1, by omega, by omega⟩]
    · rw [if_neg q2, if_neg]
      rintro ⟨r1, r2, r3, r4⟩
      by_cases q3 : c = a
      · exact q2 ⟨r1, r2, q3⟩
      · exact q1 ⟨r1, r2, by omega, r4⟩
theorem flJ_s (h : Hp) (k n a e : Nat) (v : Int64) (he : a < e) : flJ (sJ h k n a v) k n (a + 1) e v = flJ h k n a e v := by
  unfold flJ sJ
  refine Prod.ext rfl (Prod.ext ?_ rfl)
  funext x y c
  dsimp only
  by_cases q1 : x = k ∧ y = n ∧ a + 1 ≤ c ∧ c < e
  · rw [if_pos q1, if_pos ⟨q1.1, q1.2.1, by omega, q1.2.2.2⟩]
  · rw [if_neg q1]
    by_cases q2 : x = k ∧ y = n ∧ c = a
    · rw [if_pos q2, if_pos ⟨q2.1, q2.2.1, by omega, by omega⟩]
    · rw [if_neg q2, if_neg]
      rintro ⟨r1, r2, r3, r4⟩
      by_cases q3 : c = a
      · exact q2 ⟨r1, r2, q3⟩
      · exact q1 ⟨r1, r2, by omega, r4⟩
theorem i32_succ {i : Int32} {n : Int} (h : i.toInt < n) (hn : n ≤ 2147483647) : (i + 1).toInt = i.toInt + 1 := by
  have h1 := Int32.le_toInt i
  rw [Int32.toInt_add]
  have : (1 : Int32).toInt = 1 := by decide
  rw [this]
  exact Int.bmod_eq_of_le (by omega) (by omega)
theorem i32_le {x y : Int32} : x ≤ y ↔ x.toInt ≤ y.toInt := Int32.le_iff_toInt_le
theorem i32_lt {x y : Int32} : x < y ↔ x.toInt < y.toInt := Int32.lt_iff_toInt_lt
theorem tJ7_fill_53178_L {X : Cz} {b : Bool} {h0 : Hp} {k n len : Nat} (hk : kd k = .inr (0, len)) (v : Int32) (e : Int32) (he : e.toInt ≤ (len : Int)) (hl : (len : Int) ≤ 2147483647) : ∀ (m : Nat) (i : Int32) (h : Hp), 0 ≤ i.toInt → i.toInt ≤ e.toInt → (e.toInt - i.toInt).toNat ≤ m → V X mJ7_fill_53178 b h0 5 [(2, zi i), (0, zr k n), (1, zi v), (3, zi e)] [] h none (flI h k n (ix i) e.toInt.toNat v) := by
  intro m
  induction m with
  | zero =>
    intro i h q1 q2 q3
    rw [flI_z _ _ _ _ _ _ (by unfold ix; omega)]
    refine v_iload_n (j := 0) dJ7_fill_53178_5 rfl ?_
    refine v_iload_n (j := 3) dJ7_fill_53178_6 rfl ?_
    refine v_icmp_ge dJ7_fill_53178_7 (by decide : _ = ((20 : Nat) : Int)) (fun q => ?_) (fun q => ?_)
    · exact v_vret rfl dJ7_fill_53178_20
    · exact absurd (i32_le.mpr (by omega)) q
  | succ m ih =>
    intro i h q1 q2 q3
    refine v_iload_n (j := 0) dJ7_fill_53178_5 rfl ?_
    refine v_iload_n (j := 3) dJ7_fill_53178_6 rfl ?_
    refine v_icmp_ge dJ7_fill_53178_7 (by decide : _ = ((20 : Nat) : Int)) (fun q => ?_) (fun q => ?_)
    · have := i32_le.mp q
      rw [flI_z _ _ _ _ _ _ (by unfold ix; omega)]
      exact v_vret rfl dJ7_fill_53178_20
    · have hlt : i.toInt < e.toInt := Int.not_le.mp fun z => q (i32_le.mpr z)
      refine v_aload_n (j := 1) dJ7_fill_53178_10 rfl ?_
      refine v_iload_n (j := 0) dJ7_fill_53178_11 rfl ?_
      refine v_iload_n (j := 2) dJ7_fill_53178_12 rfl ?_
      refine v_iast hk ⟨q1, by omega⟩ dJ7_fill_53178_13 ?_
      obtain ⟨i2, e2⟩ : ∃ y : Int32, y = i + 1 := ⟨_, rfl⟩
      have e3 : i2.toInt = i.toInt + 1 := by rw [e2]; exact i32_succ hlt (by omega)
      refine v_iinc (j := 0) (v := i2) (ls' := [(2, zi i2), (0, zr k n), (1, zi v), (3, zi e)]) dJ7_fill_53178_14 rfl (by rw [e2]; rfl) (by decide) rfl ?_
      refine v_goto (tgt := 5) dJ7_fill_53178_17 (by decide) ?_
      have K := ih i2 (sI h k n (ix i) v) (by omega) (by omega) (by omega)
      rw [show ix i2 = ix i + 1 by unfold ix; omega, flI_s _ _ _ _ _ _ (by unfold ix; omega)] at K
      exact K
theorem tJ7_fill_fda19_L {X : Cz} {b : Bool} {h0 : Hp} {k n len : Nat} (hk : kd k = .inr (0, len)) (v : Int32) (e : Int32) (he : e.toInt ≤ (len : Int)) (hl : (len : Int) ≤ 2147483647) : ∀ (m : Nat) (i : Int32) (h : Hp), 0 ≤ i.toInt → i.toInt ≤ e.toInt → (e.toInt - i.toInt).toNat ≤ m → V X mJ7_fill_fda19 b h0 10 [(4, zi i), (0, zr k n), (2, zi e), (3, zi v)] [] h none (flI h k n (ix i) e.toInt.toNat v) := by
  intro m
  induction m with
  | zero =>
    intro i h q1 q2 q3
    rw [flI_z _ _ _ _ _ _ (by unfold ix; omega)]
    refine v_iload (j := 0) dJ7_fill_fda19_10 rfl ?_
    refine v_iload_n (j := 2) dJ7_fill_fda19_12 rfl ?_
    refine v_icmp_ge dJ7_fill_fda19_13 (by decide : _ = ((27 : Nat) : Int)) (fun q => ?_) (fun q => ?_)
    · exact v_vret rfl dJ7_fill_fda19_27
    · exact absurd (i32_le.mpr (by omega)) q
  | succ m ih =>
    intro i h q1 q2 q3
    refine v_iload (j := 0) dJ7_fill_fda19_10 rfl ?_
    refine v_iload_n (j := 2) dJ7_fill_fda19_12 rfl ?_
    refine v_icmp_ge dJ7_fill_fda19_13 (by decide : _ = ((27 : Nat) : Int)) (fun q => ?_) (fun q => ?_)
    · have := i32_le.mp q
      rw [flI_z _ _ _ _ _ _ (by unfold ix; omega)]
      exact v_vret rfl dJ7_fill_fda19_27
    · have hlt : i.toInt < e.toInt := Int.not_le.mp fun z => q (i32_le.mpr z)
      refine v_aload_n (j := 1) dJ7_fill_fda19_16 rfl ?_
      refine v_iload (j := 0) dJ7_fill_fda19_17 rfl ?_
      refine v_iload_n (j := 3) dJ7_fill_fda19_19 rfl ?_
      refine v_iast hk ⟨q1, by omega⟩ dJ7_fill_fda19_20 ?_
      obtain ⟨i2, e2⟩ : ∃ y : Int32, y = i + 1 := ⟨_, rfl⟩
      have e3 : i2.toInt = i.toInt + 1 := by rw [e2]; exact i32_succ hlt (by omega)
      refine v_iinc (j := 0) (v := i2) (ls' := [(4, zi i2), (0, zr k n), (2, zi e), (3, zi v)]) dJ7_fill_fda19_21 rfl (by rw [e2]; rfl) (by decide) rfl ?_
      refine v_goto (tgt := 10) dJ7_fill_fda19_24 (by decide) ?_
      have K := ih i2 (sI h k n (ix i) v) (by omega) (by omega) (by omega)
      rw [show ix i2 = ix i + 1 by unfold ix; omega, flI_s _ _ _ _ _ _ (by unfold ix; omega)] at K
      exact K
theorem tJ7_fill_bad5a_L {X : Cz} {b : Bool} {h0 : Hp} {k n len : Nat} (hk : kd k = .inr (2, len)) (v : Int64) (e : Int32) (he : e.toInt ≤ (len : Int)) (hl : (len : Int) ≤ 2147483647) : ∀ (m : Nat) (i : Int32) (h : Hp), 0 ≤ i.toInt → i.toInt ≤ e.toInt → (e.toInt - i.toInt).toNat ≤ m → V X mJ7_fill_bad5a b h0 10 [(5, zi i), (0, zr k n), (2, zi e), (3, zj v)] [] h none (flJ h k n (ix i) e.toInt.toNat v) := by
  intro m
  induction m with
  | zero =>
    intro i h q1 q2 q3
    rw [flJ_z _ _ _ _ _ _ (by unfold ix; omega)]
    refine v_iload (j := 0) dJ7_fill_bad5a_10 rfl ?_
    refine v_iload_n (j := 2) dJ7_fill_bad5a_12 rfl ?_
    refine v_icmp_ge dJ7_fill_bad5a_13 (by decide : _ = ((27 : Nat) : Int)) (fun q => ?_) (fun q => ?_)
    · exact v_vret rfl dJ7_fill_bad5a_27
    · exact absurd (i32_le.mpr (by omega)) q
  | succ m ih =>
    intro i h q1 q2 q3
    refine v_iload (j := 0) dJ7_fill_bad5a_10 rfl ?_
    refine v_iload_n (j := 2) dJ7_fill_bad5a_12 rfl ?_
    refine v_icmp_ge dJ7_fill_bad5a_13 (by decide : _ = ((27 : Nat) : Int)) (fun q => ?_) (fun q => ?_)
    · have := i32_le.mp q
      rw [flJ_z _ _ _ _ _ _ (by unfold ix; omega)]
      exact v_vret rfl dJ7_fill_bad5a_27
    · have hlt : i.toInt < e.toInt := Int.not_le.mp fun z => q (i32_le.mpr z)
      refine v_aload_n (j := 1) dJ7_fill_bad5a_16 rfl ?_
      refine v_iload (j := 0) dJ7_fill_bad5a_17 rfl ?_
      refine v_lload_n (j := 3) dJ7_fill_bad5a_19 rfl ?_
      refine v_last hk ⟨q1, by omega⟩ dJ7_fill_bad5a_20 ?_
      obtain ⟨i2, e2⟩ : ∃ y : Int32, y = i + 1 := ⟨_, rfl⟩
      have e3 : i2.toInt = i.toInt + 1 := by rw [e2]; exact i32_succ hlt (by omega)
      refine v_iinc (j := 0) (v := i2) (ls' := [(5, zi i2), (0, zr k n), (2, zi e), (3, zj v)]) dJ7_fill_bad5a_21 rfl (by rw [e2]; rfl) (by decide) rfl ?_
      refine v_goto (tgt := 10) dJ7_fill_bad5a_24 (by decide) ?_
      have K := ih i2 (sJ h k n (ix i) v) (by omega) (by omega) (by omega)
      rw [show ix i2 = ix i + 1 by unfold ix; omega, flJ_s _ _ _ _ _ _ (by unfold ix; omega)] at K
      exact K
theorem ofNat_i {len : Nat} (hl : (len : Int) ≤ 2147483647) : (Int32.ofNat len).toInt = (len : Int) := by
  rw [Int32.toInt_ofNat']
  have : (Int32.size : Int) = 4294967296 := by decide
  exact Int.bmod_eq_of_le (by omega) (by omega)
theorem tJ7_fill_53178 {X : Cz} {b : Bool} {k n len : Nat} (hk : kd k = .inr (0, len)) (hl : (len : Int) ≤ 2147483647) (v : Int32) (h : Hp) : Ct X mJ7_fill_53178 b [zr k n, zi v] h none (flI h k n 0 len v) := by
  refine Ct_of (by decide) (Nat.le_of_ble_eq_true rfl) (ls := [(0, zr k n), (1, zi v)]) rfl ?_
  refine v_iconst (v := 0) dJ7_fill_53178_0 (by decide) ?_
  refine v_istore_n (ls' := [(2, zi 0), (0, zr k n), (1, zi v)]) dJ7_fill_53178_1 (by decide) rfl ?_
  refine v_aload_n (j := 1) dJ7_fill_53178_2 rfl ?_
  refine v_alen hk dJ7_fill_53178_3 ?_
  refine v_topi fun e ee => ?_
  refine v_istore_n (ls' := [(3, zi e), (2, zi 0), (0, zr k n), (1, zi v)]) dJ7_fill_53178_4 (by decide) rfl ?_
  refine v_sub [1, 2, 3, 0] rfl ?_
  have e1 : e.toInt = (len : Int) := by rw [ee]; exact ofNat_i hl
  have z0 : (0 : Int32).toInt = 0 := by decide
  have K := tJ7_fill_53178_L (X := X) (b := b) (h0 := h) (n := n) hk v e (by omega) hl len 0 h (by omega) (by omega) (by omega)
  rw [show ix 0 = 0 from rfl, show e.toInt.toNat = len by omega] at K
  exact K
theorem tJ7_rangeCheck_23922 {X : Cz} {b : Bool} (a0 a1 a2 : Int32) (h : Hp) (q1 : a1 ≤ a2) (q2 : 0 ≤ a1) (q3 : a2 ≤ a0) : Ct X mJ7_rangeCheck_23922 b [zi a0, zi a1, zi a2] h none h := by
  refine Ct_of (by decide) (Nat.le_of_ble_eq_true rfl) (ls := [(0, zi a0), (1, zi a1), (2, zi a2)]) rfl ?_
  refine v_iload_n (j := 1) dJ7_rangeCheck_23922_0 rfl ?_
  refine v_iload_n (j := 2) dJ7_rangeCheck_23922_1 rfl ?_
  refine v_icmp_le dJ7_rangeCheck_23922_2 (by decide : _ = ((46 : Nat) : Int)) (fun q => ?_) (fun q => absurd q1 q)
  refine v_iload_n (j := 1) dJ7_rangeCheck_23922_46 rfl ?_
  refine v_if_ge dJ7_rangeCheck_23922_47 (by decide : _ = ((59 : Nat) : Int)) (fun q => ?_) (fun q => absurd q2 q)
  refine v_iload_n (j := 2) dJ7_rangeCheck_23922_59 rfl ?_
  refine v_iload_n (j := 0) dJ7_rangeCheck_23922_60 rfl ?_
  refine v_icmp_le dJ7_rangeCheck_23922_61 (by decide : _ = ((73 : Nat) : Int)) (fun q => ?_) (fun q => absurd q3 q)
  exact v_vret rfl dJ7_rangeCheck_23922_73
theorem tJ7_fill_fda19 {X : Cz} {b : Bool} {k n len : Nat} (hk : kd k = .inr (0, len)) (hl : (len : Int) ≤ 2147483647) (a e : Int32) (v : Int32) (h : Hp) (q1 : 0 ≤ a.toInt) (q2 : a.toInt ≤ e.toInt) (q3 : e.toInt ≤ (len : Int)) : Ct X mJ7_fill_fda19 b [zr k n, zi a, zi e, zi v] h none (flI h k n (ix a) (ix e) v) := by
  refine Ct_of (by decide) (Nat.le_of_ble_eq_true rfl) (ls := [(0, zr k n), (1, zi a), (2, zi e), (3, zi v)]) rfl ?_
  refine v_aload_n (j := 0) dJ7_fill_fda19_0 rfl ?_
  refine v_alen hk dJ7_fill_fda19_1 ?_
  refine v_iload_n (j := 1) dJ7_fill_fda19_2 rfl ?_
  refine v_iload_n (j := 2) dJ7_fill_fda19_3 rfl ?_
  have z0 : (0 : Int32).toInt = 0 := by decide
  refine v_cS (hm := h) (av := [zi (Int32.ofNat len), zi a, zi e]) (st := []) (stn := []) (tJ7_rangeCheck_23922 _ _ _ _ (i32_le.mpr q2) (i32_le.mpr (by omega)) (i32_le.mpr (by rw [ofNat_i hl]; exact q3))) lcJ7_rangeCheck_23922 mlJ7_13 sxJ7_rangeCheck_23922 rfl ⟨by decide, by decide⟩ (Nat.le_of_ble_eq_true rfl) dJ7_fill_fda19_4 rfl rfl ?_
  refine v_iload_n (j := 1) dJ7_fill_fda19_7 rfl ?_
  refine v_istore (ls' := [(4, zi a), (0, zr k n), (1, zi a), (2, zi e), (3, zi v)]) dJ7_fill_fda19_8 (by decide) rfl ?_
  refine v_sub [0, 1, 3, 4] rfl ?_
  exact tJ7_fill_fda19_L hk v e (by omega) hl _ a h q1 q2 (Nat.le_refl _)
theorem tJ7_fill_bad5a {X : Cz} {b : Bool} {k n len : Nat} (hk : kd k = .inr (2, len)) (hl : (len : Int) ≤ 2147483647) (a e : Int32) (v : Int64) (h : Hp) (q1 : 0 ≤ a.toInt) (q2 : a.toInt ≤ e.toInt) (q3 : e.toInt ≤ (len : Int)) : Ct X mJ7_fill_bad5a b [zr k n, zi a, zi e, zj v] h none (flJ h k n (ix a) (ix e) v) := by
  refine Ct_of (by decide) (Nat.le_of_ble_eq_true rfl) (ls := [(0, zr k n), (1, zi a), (2, zi e), (3, zj v)]) rfl ?_
  refine v_aload_n (j := 0) dJ7_fill_bad5a_0 rfl ?_
  refine v_alen hk dJ7_fill_bad5a_1 ?_
  refine v_iload_n (j := 1) dJ7_fill_bad5a_2 rfl ?_
  refine v_iload_n (j := 2) dJ7_fill_bad5a_3 rfl ?_
  have z0 : (0 : Int32).toInt = 0 := by decide
  refine v_cS (hm := h) (av := [zi (Int32.ofNat len), zi a, zi e]) (st := []) (stn := []) (tJ7_rangeCheck_23922 _ _ _ _ (i32_le.mpr q2) (i32_le.mpr (by omega)) (i32_le.mpr (by rw [ofNat_i hl]; exact q3))) lcJ7_rangeCheck_23922 mlJ7_13 sxJ7_rangeCheck_23922 rfl ⟨by decide, by decide⟩ (Nat.le_of_ble_eq_true rfl) dJ7_fill_bad5a_4 rfl rfl ?_
  refine v_iload_n (j := 1) dJ7_fill_bad5a_7 rfl ?_
  refine v_istore (ls' := [(5, zi a), (0, zr k n), (1, zi a), (2, zi e), (3, zj v)]) dJ7_fill_bad5a_8 (by decide) rfl ?_
  refine v_sub [0, 1, 3, 4] rfl ?_
  exact tJ7_fill_bad5a_L hk v e (by omega) hl _ a h q1 q2 (Nat.le_refl _)
