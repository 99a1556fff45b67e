/-! ===== level 2: the end, but for knock ===== -/
theorem bz_01 (x : Int32) : bz x = 0 ∨ bz x = 1 := by
  unfold bz
  first
    | (split <;> simp)
    | exact and1_01 x
theorem l2_of (kn : ∀ h, RAll h → St fX11_knock fX12_knock h) : L2 := by
  obtain ⟨hA, hB, e1, e2, e3, e4, e5, e6⟩ := i0
  refine ⟨RAll, hA, hB, e1, e2, e3, e4, e5, e6, fun h A => A.2.2.2.2.2.2.2.2.2.2.2.2.2.2.2.b, fun s h A => ?_⟩
  unfold StpZ
  by_cases q0 : s 0 &&& 63 = 0
  · obtain ⟨r, h2, h3, y1, y2, y3, y4⟩ := k_pulpit (s 1) (s 2) (s 3) h A
    exact ⟨h3, by rw [if_pos q0]; exact ⟨r, h2, y1, y2, y3⟩, y4⟩
  by_cases q1 : s 0 &&& 63 = 1
  · obtain ⟨r, h2, h3, y1, y2, y3, y4⟩ := k_terms (s 1) (s 2) h A
    exact ⟨h3, by rw [if_neg q0, if_pos q1]; exact ⟨r, h2, y1, y2, y3⟩, y4⟩
  by_cases q2 : s 0 &&& 63 = 2
  · obtain ⟨r, h2, h3, y1, y2, y3, y4⟩ := k_pillar (s 1) (s 2) (s 3) h A
    exact ⟨h3, by rw [if_neg q0, if_neg q1, if_pos q2]; exact ⟨r, h2, y1, y2, y3⟩, y4⟩
  by_cases q3 : s 0 &&& 63 = 3
  · obtain ⟨r, h2, h3, y1, y2, y3, y4⟩ := k_bench (s 1) (s 2) (s 3) (bz (s 4)) (bz_01 _) h A
    exact ⟨h3, by rw [if_neg q0, if_neg q1, if_neg q2, if_pos q3]; exact ⟨r, h2, y1, y2, y3⟩, y4⟩
  by_cases q4 : s 0 &&& 63 = 4
  · obtain ⟨r, h2, h3, y1, y2, y3, y4⟩ := k_household (s 1) (s 2) (s 3) h A
    exact ⟨h3, by rw [if_neg q0, if_neg q1, if_neg q2, if_neg q3, if_pos q4]; exact ⟨r, h2, y1, y2, y3⟩, y4⟩
  by_cases q5 : s 0 &&& 63 = 5
  · obtain ⟨r, h2, h3, y1, y2, y3, y4⟩ := k_changed (s 1) (s 2) (s 3) (s 4) h A
    exact ⟨h3, by rw [if_neg q0, if_neg q1, if_neg q2, if_neg q3, if_neg q4, if_pos q5]; exact ⟨r, h2, y1, y2, y3⟩, y4⟩
  by_cases q6 : s 0 &&& 63 = 6
  · obtain ⟨r, h2, h3, y1, y2, y3, y4⟩ := k_gone (s 1) (s 2) h A
    exact ⟨h3, by rw [if_neg q0, if_neg q1, if_neg q2, if_neg q3, if_neg q4, if_neg q5, if_pos q6]; exact ⟨r, h2, y1, y2, y3⟩, y4⟩
  by_cases q7 : s 0 &&& 63 = 7
  · obtain ⟨r, h2, h3, y1, y2, y3, y4⟩ := k_sell (s 1) (s 2) h A
    exact ⟨h3, by rw [if_neg q0, if_neg q1, if_neg q2, if_neg q3, if_neg q4, if_neg q5, if_neg q6, if_pos q7]; exact ⟨r, h2, y1, y2, y3⟩, y4⟩
  by_cases q8 : s 0 &&& 63 = 8
  · obtain ⟨r, h2, h3, y1, y2, y3, y4⟩ := k_plotOf (s 1) (s 2) h A
    exact ⟨h3, by rw [if_neg q0, if_neg q1, if_neg q2, if_neg q3, if_neg q4, if_neg q5, if_neg q6, if_neg q7, if_pos q8]; exact ⟨r, h2, y1, y2, y3⟩, y4⟩
  by_cases q9 : s 0 &&& 63 = 9
  · obtain ⟨r, h2, h3, y1, y2, y3, y4⟩ := k_right (s 1) (s 2) (s 3) (s 4) (s 5) (s 6) (s 7) (bz (s 8)) (bz_01 _) h A
    exact ⟨h3, by rw [if_neg q0, if_neg q1, if_neg q2, if_neg q3, if_neg q4, if_neg q5, if_neg q6, if_neg q7, if_neg q8, if_pos q9]; exact ⟨r, h2, y1, y2, y3⟩, y4⟩
  by_cases q10 : s 0 &&& 63 = 10
  · obtain ⟨r, h2, h3, y1, y2, y3, y4⟩ := k_ends (s 1) h A
    exact ⟨h3, by rw [if_neg q0, if_neg q1, if_neg q2, if_neg q3, if_neg q4, if_neg q5, if_neg q6, if_neg q7, if_neg q8, if_neg q9, if_pos q10]; exact ⟨r, h2, y1, y2, y3⟩, y4⟩
  by_cases q11 : s 0 &&& 63 = 11
  · obtain ⟨r, h2, h3, y1, y2, y3, y4⟩ := k_rightOf (s 1) (s 2) h A
    exact ⟨h3, by rw [if_neg q0, if_neg q1, if_neg q2, if_neg q3, if_neg q4, if_neg q5, if_neg q6, if_neg q7, if_neg q8, if_neg q9, if_neg q10, if_pos q11]; exact ⟨r, h2, y1, y2, y3⟩, y4⟩
  by_cases q12 : s 0 &&& 63 = 12
  · obtain ⟨r, h2, h3, y1, y2, y3, y4⟩ := k_unit (s 1) (s 2) (s 3) h A
    exact ⟨h3, by rw [if_neg q0, if_neg q1, if_neg q2, if_neg q3, if_neg q4, if_neg q5, if_neg q6, if_neg q7, if_neg q8, if_neg q9, if_neg q10, if_neg q11, if_pos q12]; exact ⟨r, h2, y1, y2, y3⟩, y4⟩
  by_cases q13 : s 0 &&& 63 = 13
  · obtain ⟨r, h2, h3, y1, y2, y3, y4⟩ := k_worth (s 1) (s 2) (s 3) h A
    exact ⟨h3, by rw [if_neg q0, if_neg q1, if_neg q2, if_neg q3, if_neg q4, if_neg q5, if_neg q6, if_neg q7, if_neg q8, if_neg q9, if_neg q10, if_neg q11, if_neg q12, if_pos q13]; exact ⟨r, h2, y1, y2, y3⟩, y4⟩
  by_cases q14 : s 0 &&& 63 = 14
  · obtain ⟨r, h2, h3, y1, y2, y3, y4⟩ := k_belongs (s 1) (s 2) (s 3) (s 4) (s 5) h A
    exact ⟨h3, by rw [if_neg q0, if_neg q1, if_neg q2, if_neg q3, if_neg q4, if_neg q5, if_neg q6, if_neg q7, if_neg q8, if_neg q9, if_neg q10, if_neg q11, if_neg q12, if_neg q13, if_pos q14]; exact ⟨r, h2, y1, y2, y3⟩, y4⟩
  by_cases q15 : s 0 &&& 63 = 15
  · obtain ⟨r, h2, h3, y1, y2, y3, y4⟩ := k_judge (s 1) (s 2) (s 3) (s 4) (s 5) (s 6) h A
    exact ⟨h3, by rw [if_neg q0, if_neg q1, if_neg q2, if_neg q3, if_neg q4, if_neg q5, if_neg q6, if_neg q7, if_neg q8, if_neg q9, if_neg q10, if_neg q11, if_neg q12, if_neg q13, if_neg q14, if_pos q15]; exact ⟨r, h2, y1, y2, y3⟩, y4⟩
  by_cases q16 : s 0 &&& 63 = 16
  · obtain ⟨r, h2, h3, y1, y2, y3, y4⟩ := k_lot (s 1) (s 2) (s 3) (s 4) h A
    exact ⟨h3, by rw [if_neg q0, if_neg q1, if_neg q2, if_neg q3, if_neg q4, if_neg q5, if_neg q6, if_neg q7, if_neg q8, if_neg q9, if_neg q10, if_neg q11, if_neg q12, if_neg q13, if_neg q14, if_neg q15, if_pos q16]; exact ⟨r, h2, y1, y2, y3⟩, y4⟩
  by_cases q17 : s 0 &&& 63 = 17
  · obtain ⟨r, h2, h3, y1, y2, y3, y4⟩ := k_offers (s 1) (s 2) h A
    exact ⟨h3, by rw [if_neg q0, if_neg q1, if_neg q2, if_neg q3, if_neg q4, if_neg q5, if_neg q6, if_neg q7, if_neg q8, if_neg q9, if_neg q10, if_neg q11, if_neg q12, if_neg q13, if_neg q14, if_neg q15, if_neg q16, if_pos q17]; exact ⟨r, h2, y1, y2, y3⟩, y4⟩
  by_cases q18 : s 0 &&& 63 = 18
  · obtain ⟨r, h2, h3, y1, y2, y3, y4⟩ := kn h A
    exact ⟨h3, by rw [if_neg q0, if_neg q1, if_neg q2, if_neg q3, if_neg q4, if_neg q5, if_neg q6, if_neg q7, if_neg q8, if_neg q9, if_neg q10, if_neg q11, if_neg q12, if_neg q13, if_neg q14, if_neg q15, if_neg q16, if_neg q17, if_pos q18]; exact ⟨r, h2, y1, y2, y3⟩, y4⟩
  by_cases q19 : s 0 &&& 63 = 19
  · obtain ⟨r, h2, h3, y1, y2, y3, y4⟩ := k_knocked (s 1) (s 2) h A
    exact ⟨h3, by rw [if_neg q0, if_neg q1, if_neg q2, if_neg q3, if_neg q4, if_neg q5, if_neg q6, if_neg q7, if_neg q8, if_neg q9, if_neg q10, if_neg q11, if_neg q12, if_neg q13, if_neg q14, if_neg q15, if_neg q16, if_neg q17, if_neg q18, if_pos q19]; exact ⟨r, h2, y1, y2, y3⟩, y4⟩
  by_cases q20 : s 0 &&& 63 = 20
  · obtain ⟨r, h2, h3, y1, y2, y3, y4⟩ := k_change (s 1) h A
    exact ⟨h3, by rw [if_neg q0, if_neg q1, if_neg q2, if_neg q3, if_neg q4, if_neg q5, if_neg q6, if_neg q7, if_neg q8, if_neg q9, if_neg q10, if_neg q11, if_neg q12, if_neg q13, if_neg q14, if_neg q15, if_neg q16, if_neg q17, if_neg q18, if_neg q19, if_pos q20]; exact ⟨r, h2, y1, y2, y3⟩, y4⟩
  by_cases q21 : s 0 &&& 63 = 21
  · obtain ⟨r, h2, h3, y1, y2, y3, y4⟩ := k_changedTo (s 1) h A
    exact ⟨h3, by rw [if_neg q0, if_neg q1, if_neg q2, if_neg q3, if_neg q4, if_neg q5, if_neg q6, if_neg q7, if_neg q8, if_neg q9, if_neg q10, if_neg q11, if_neg q12, if_neg q13, if_neg q14, if_neg q15, if_neg q16, if_neg q17, if_neg q18, if_neg q19, if_neg q20, if_pos q21]; exact ⟨r, h2, y1, y2, y3⟩, y4⟩
  by_cases q22 : s 0 &&& 63 = 22
  · obtain ⟨r, h2, h3, y1, y2, y3, y4⟩ := k_sunday (s 1) (s 2) h A
    exact ⟨h3, by rw [if_neg q0, if_neg q1, if_neg q2, if_neg q3, if_neg q4, if_neg q5, if_neg q6, if_neg q7, if_neg q8, if_neg q9, if_neg q10, if_neg q11, if_neg q12, if_neg q13, if_neg q14, if_neg q15, if_neg q16, if_neg q17, if_neg q18, if_neg q19, if_neg q20, if_neg q21, if_pos q22]; exact ⟨r, h2, y1, y2, y3⟩, y4⟩
  by_cases q23 : s 0 &&& 63 = 23
  · obtain ⟨r, h2, h3, y1, y2, y3, y4⟩ := k_sat (s 1) h A
    exact ⟨h3, by rw [if_neg q0, if_neg q1, if_neg q2, if_neg q3, if_neg q4, if_neg q5, if_neg q6, if_neg q7, if_neg q8, if_neg q9, if_neg q10, if_neg q11, if_neg q12, if_neg q13, if_neg q14, if_neg q15, if_neg q16, if_neg q17, if_neg q18, if_neg q19, if_neg q20, if_neg q21, if_neg q22, if_pos q23]; exact ⟨r, h2, y1, y2, y3⟩, y4⟩
  by_cases q24 : s 0 &&& 63 = 24
  · obtain ⟨r, h2, h3, y1, y2, y3, y4⟩ := k_go h A
    exact ⟨h3, by rw [if_neg q0, if_neg q1, if_neg q2, if_neg q3, if_neg q4, if_neg q5, if_neg q6, if_neg q7, if_neg q8, if_neg q9, if_neg q10, if_neg q11, if_neg q12, if_neg q13, if_neg q14, if_neg q15, if_neg q16, if_neg q17, if_neg q18, if_neg q19, if_neg q20, if_neg q21, if_neg q22, if_neg q23, if_pos q24]; exact ⟨r, h2, y1, y2, y3⟩, y4⟩
  by_cases q25 : s 0 &&& 63 = 25
  · obtain ⟨r, h2, h3, y1, y2, y3, y4⟩ := k_seat (s 1) (s 2) (s 3) h A
    exact ⟨h3, by rw [if_neg q0, if_neg q1, if_neg q2, if_neg q3, if_neg q4, if_neg q5, if_neg q6, if_neg q7, if_neg q8, if_neg q9, if_neg q10, if_neg q11, if_neg q12, if_neg q13, if_neg q14, if_neg q15, if_neg q16, if_neg q17, if_neg q18, if_neg q19, if_neg q20, if_neg q21, if_neg q22, if_neg q23, if_neg q24, if_pos q25]; exact ⟨r, h2, y1, y2, y3⟩, y4⟩
  by_cases q26 : s 0 &&& 63 = 26
  · obtain ⟨r, h2, h3, y1, y2, y3, y4⟩ := k_moved (s 1) (s 2) h A
    exact ⟨h3, by rw [if_neg q0, if_neg q1, if_neg q2, if_neg q3, if_neg q4, if_neg q5, if_neg q6, if_neg q7, if_neg q8, if_neg q9, if_neg q10, if_neg q11, if_neg q12, if_neg q13, if_neg q14, if_neg q15, if_neg q16, if_neg q17, if_neg q18, if_neg q19, if_neg q20, if_neg q21, if_neg q22, if_neg q23, if_neg q24, if_neg q25, if_pos q26]; exact ⟨r, h2, y1, y2, y3⟩, y4⟩
  by_cases q27 : s 0 &&& 63 = 27
  · obtain ⟨r, h2, h3, y1, y2, y3, y4⟩ := k_beside (s 1) h A
    exact ⟨h3, by rw [if_neg q0, if_neg q1, if_neg q2, if_neg q3, if_neg q4, if_neg q5, if_neg q6, if_neg q7, if_neg q8, if_neg q9, if_neg q10, if_neg q11, if_neg q12, if_neg q13, if_neg q14, if_neg q15, if_neg q16, if_neg q17, if_neg q18, if_neg q19, if_neg q20, if_neg q21, if_neg q22, if_neg q23, if_neg q24, if_neg q25, if_neg q26, if_pos q27]; exact ⟨r, h2, y1, y2, y3⟩, y4⟩
  by_cases q28 : s 0 &&& 63 = 28
  · obtain ⟨r, h2, h3, y1, y2, y3, y4⟩ := k_householdOf (s 1) (s 2) h A
    exact ⟨h3, by rw [if_neg q0, if_neg q1, if_neg q2, if_neg q3, if_neg q4, if_neg q5, if_neg q6, if_neg q7, if_neg q8, if_neg q9, if_neg q10, if_neg q11, if_neg q12, if_neg q13, if_neg q14, if_neg q15, if_neg q16, if_neg q17, if_neg q18, if_neg q19, if_neg q20, if_neg q21, if_neg q22, if_neg q23, if_neg q24, if_neg q25, if_neg q26, if_neg q27, if_pos q28]; exact ⟨r, h2, y1, y2, y3⟩, y4⟩
  by_cases q29 : s 0 &&& 63 = 29
  · obtain ⟨r, h2, h3, y1, y2, y3, y4⟩ := k_benchOf (s 1) (s 2) h A
    exact ⟨h3, by rw [if_neg q0, if_neg q1, if_neg q2, if_neg q3, if_neg q4, if_neg q5, if_neg q6, if_neg q7, if_neg q8, if_neg q9, if_neg q10, if_neg q11, if_neg q12, if_neg q13, if_neg q14, if_neg q15, if_neg q16, if_neg q17, if_neg q18, if_neg q19, if_neg q20, if_neg q21, if_neg q22, if_neg q23, if_neg q24, if_neg q25, if_neg q26, if_neg q27, if_neg q28, if_pos q29]; exact ⟨r, h2, y1, y2, y3⟩, y4⟩
  by_cases q30 : s 0 &&& 63 = 30
  · obtain ⟨r, h2, h3, y1, y2, y3, y4⟩ := k_count (s 1) h A
    exact ⟨h3, by rw [if_neg q0, if_neg q1, if_neg q2, if_neg q3, if_neg q4, if_neg q5, if_neg q6, if_neg q7, if_neg q8, if_neg q9, if_neg q10, if_neg q11, if_neg q12, if_neg q13, if_neg q14, if_neg q15, if_neg q16, if_neg q17, if_neg q18, if_neg q19, if_neg q20, if_neg q21, if_neg q22, if_neg q23, if_neg q24, if_neg q25, if_neg q26, if_neg q27, if_neg q28, if_neg q29, if_pos q30]; exact ⟨r, h2, y1, y2, y3⟩, y4⟩
  by_cases q31 : s 0 &&& 63 = 31
  · obtain ⟨h3, y1, y2⟩ := k_fund h A
    exact ⟨h3, by rw [if_neg q0, if_neg q1, if_neg q2, if_neg q3, if_neg q4, if_neg q5, if_neg q6, if_neg q7, if_neg q8, if_neg q9, if_neg q10, if_neg q11, if_neg q12, if_neg q13, if_neg q14, if_neg q15, if_neg q16, if_neg q17, if_neg q18, if_neg q19, if_neg q20, if_neg q21, if_neg q22, if_neg q23, if_neg q24, if_neg q25, if_neg q26, if_neg q27, if_neg q28, if_neg q29, if_neg q30, if_pos q31]; exact y1, y2⟩
  by_cases q32 : s 0 &&& 63 = 32
  · obtain ⟨r, h2, h3, y1, y2, y3, y4⟩ := k_row (s 1) (s 2) (s 3) h A
    exact ⟨h3, by rw [if_neg q0, if_neg q1, if_neg q2, if_neg q3, if_neg q4, if_neg q5, if_neg q6, if_neg q7, if_neg q8, if_neg q9, if_neg q10, if_neg q11, if_neg q12, if_neg q13, if_neg q14, if_neg q15, if_neg q16, if_neg q17, if_neg q18, if_neg q19, if_neg q20, if_neg q21, if_neg q22, if_neg q23, if_neg q24, if_neg q25, if_neg q26, if_neg q27, if_neg q28, if_neg q29, if_neg q30, if_neg q31, if_pos q32]; exact ⟨r, h2, y1, y2, y3⟩, y4⟩
  by_cases q33 : s 0 &&& 63 = 33
  · obtain ⟨r, h2, h3, y1, y2, y3, y4⟩ := k_tear (s 1) h A
    exact ⟨h3, by rw [if_neg q0, if_neg q1, if_neg q2, if_neg q3, if_neg q4, if_neg q5, if_neg q6, if_neg q7, if_neg q8, if_neg q9, if_neg q10, if_neg q11, if_neg q12, if_neg q13, if_neg q14, if_neg q15, if_neg q16, if_neg q17, if_neg q18, if_neg q19, if_neg q20, if_neg q21, if_neg q22, if_neg q23, if_neg q24, if_neg q25, if_neg q26, if_neg q27, if_neg q28, if_neg q29, if_neg q30, if_neg q31, if_neg q32, if_pos q33]; exact ⟨r, h2, y1, y2, y3⟩, y4⟩
  by_cases q34 : s 0 &&& 63 = 34
  · obtain ⟨r, h2, h3, y1, y2, y3, y4⟩ := k_write (s 1) (s 2) ((((s 3).toInt64) <<< ((32 : Int32).toInt64 &&& 63)) ||| (((s 4).toInt64) &&& 4294967295)) h A
    exact ⟨h3, by rw [if_neg q0, if_neg q1, if_neg q2, if_neg q3, if_neg q4, if_neg q5, if_neg q6, if_neg q7, if_neg q8, if_neg q9, if_neg q10, if_neg q11, if_neg q12, if_neg q13, if_neg q14, if_neg q15, if_neg q16, if_neg q17, if_neg q18, if_neg q19, if_neg q20, if_neg q21, if_neg q22, if_neg q23, if_neg q24, if_neg q25, if_neg q26, if_neg q27, if_neg q28, if_neg q29, if_neg q30, if_neg q31, if_neg q32, if_neg q33, if_pos q34]; exact ⟨r, h2, y1, y2, y3⟩, y4⟩
  by_cases q35 : s 0 &&& 63 = 35
  · obtain ⟨r, h2, h3, y1, y2, y3, y4⟩ := k_paste (s 1) (s 2) (s 3) (s 4) (s 5) h A
    exact ⟨h3, by rw [if_neg q0, if_neg q1, if_neg q2, if_neg q3, if_neg q4, if_neg q5, if_neg q6, if_neg q7, if_neg q8, if_neg q9, if_neg q10, if_neg q11, if_neg q12, if_neg q13, if_neg q14, if_neg q15, if_neg q16, if_neg q17, if_neg q18, if_neg q19, if_neg q20, if_neg q21, if_neg q22, if_neg q23, if_neg q24, if_neg q25, if_neg q26, if_neg q27, if_neg q28, if_neg q29, if_neg q30, if_neg q31, if_neg q32, if_neg q33, if_neg q34, if_pos q35]; exact ⟨r, h2, y1, y2, y3⟩, y4⟩
  exact ⟨h, by rw [if_neg q0, if_neg q1, if_neg q2, if_neg q3, if_neg q4, if_neg q5, if_neg q6, if_neg q7, if_neg q8, if_neg q9, if_neg q10, if_neg q11, if_neg q12, if_neg q13, if_neg q14, if_neg q15, if_neg q16, if_neg q17, if_neg q18, if_neg q19, if_neg q20, if_neg q21, if_neg q22, if_neg q23, if_neg q24, if_neg q25, if_neg q26, if_neg q27, if_neg q28, if_neg q29, if_neg q30, if_neg q31, if_neg q32, if_neg q33, if_neg q34, if_neg q35], A⟩
