/-! methods, and what the tables say of links: printed by program -/
theorem tk1 {w : Cond} (h : w ∈ tables_1_1) : w ∈ tables_1 := List.mem_append_left _ h
theorem tk2 {w : Cond} (h : w ∈ tables_1_2) : w ∈ tables_1 := List.mem_append_right _ (List.mem_append_left _ h)
theorem tk3 {w : Cond} (h : w ∈ tables_1_3) : w ∈ tables_1 := List.mem_append_right _ (List.mem_append_right _ (List.mem_append_left _ h))
theorem tk4 {w : Cond} (h : w ∈ tables_1_4) : w ∈ tables_1 := List.mem_append_right _ (List.mem_append_right _ (List.mem_append_right _ (List.mem_append_left _ h)))
theorem tk5 {w : Cond} (h : w ∈ tables_1_5) : w ∈ tables_1 := List.mem_append_right _ (List.mem_append_right _ (List.mem_append_right _ (List.mem_append_right _ (List.mem_append_left _ h))))
theorem tk6 {w : Cond} (h : w ∈ tables_1_6) : w ∈ tables_1 := List.mem_append_right _ (List.mem_append_right _ (List.mem_append_right _ (List.mem_append_right _ (List.mem_append_right _ (List.mem_append_left _ h)))))
theorem tk7 {w : Cond} (h : w ∈ tables_1_7) : w ∈ tables_1 := List.mem_append_right _ (List.mem_append_right _ (List.mem_append_right _ (List.mem_append_right _ (List.mem_append_right _ (List.mem_append_right _ (List.mem_append_left _ h))))))
theorem tk8 {w : Cond} (h : w ∈ tables_1_8) : w ∈ tables_1 := List.mem_append_right _ (List.mem_append_right _ (List.mem_append_right _ (List.mem_append_right _ (List.mem_append_right _ (List.mem_append_right _ (List.mem_append_right _ (h)))))))
theorem tp1 {q : MethodName × Nat} (h : q ∈ lw_privs_1) : Cond.selects q.1.cls q.1 q.1 ∈ tbz := tbz_in (List.mem_append_left _ (List.mem_map.mpr ⟨q, List.mem_append_left _ h, rfl⟩)) rfl
theorem tp2 {q : MethodName × Nat} (h : q ∈ lw_privs_2) : Cond.selects q.1.cls q.1 q.1 ∈ tbz := tbz_in (List.mem_append_left _ (List.mem_map.mpr ⟨q, List.mem_append_right _ (List.mem_append_left _ h), rfl⟩)) rfl
theorem tp3 {q : MethodName × Nat} (h : q ∈ lw_privs_3) : Cond.selects q.1.cls q.1 q.1 ∈ tbz := tbz_in (List.mem_append_left _ (List.mem_map.mpr ⟨q, List.mem_append_right _ (List.mem_append_right _ (List.mem_append_left _ h)), rfl⟩)) rfl
theorem tp4 {q : MethodName × Nat} (h : q ∈ lw_privs_4) : Cond.selects q.1.cls q.1 q.1 ∈ tbz := tbz_in (List.mem_append_left _ (List.mem_map.mpr ⟨q, List.mem_append_right _ (List.mem_append_right _ (List.mem_append_right _ (List.mem_append_left _ h))), rfl⟩)) rfl
theorem tp5 {q : MethodName × Nat} (h : q ∈ lw_privs_5) : Cond.selects q.1.cls q.1 q.1 ∈ tbz := tbz_in (List.mem_append_left _ (List.mem_map.mpr ⟨q, List.mem_append_right _ (List.mem_append_right _ (List.mem_append_right _ (List.mem_append_right _ (h)))), rfl⟩)) rfl
abbrev mX11_init : Mi := (yX11_init, cX11_init, 1, none, 2, 45)
theorem lcX11_init : Lc mX11_init 0 := ⟨tbz_tb (tk1 (List.mem_of_getElem? (i := 22) rfl)) rfl, tbz_tb (tk1 (List.mem_of_getElem? (i := 1) rfl)) rfl, by decide, by decide, by decide +kernel⟩
theorem imX11_init : Cond.instanceMethod yX11_init ∈ tbz := tbz_tb (tk1 (List.mem_of_getElem? (i := 21) rfl)) rfl
abbrev mX11_belongs : Mi := (yX11_belongs, cX11_belongs, 7, some .int, 5, 117)
theorem lcX11_belongs : Lc mX11_belongs 5 := ⟨tbz_tb (tk3 (List.mem_of_getElem? (i := 202) rfl)) rfl, tbz_tb (tk1 (List.mem_of_getElem? (i := 1) rfl)) rfl, by decide, by decide, by decide +kernel⟩
theorem imX11_belongs : Cond.instanceMethod yX11_belongs ∈ tbz := tbz_tb (tk3 (List.mem_of_getElem? (i := 200) rfl)) rfl
theorem seX11_belongs : Cond.selects yX11_belongs.cls yX11_belongs yX11_belongs ∈ tbz := tbz_tb (tk3 (List.mem_of_getElem? (i := 201) rfl)) rfl
abbrev mX11_bench : Mi := (yX11_bench, cX11_bench, 5, some .int, 4, 107)
theorem lcX11_bench : Lc mX11_bench 4 := ⟨tbz_tb (tk2 (List.mem_of_getElem? (i := 184) rfl)) rfl, tbz_tb (tk1 (List.mem_of_getElem? (i := 1) rfl)) rfl, by decide, by decide, by decide +kernel⟩
theorem imX11_bench : Cond.instanceMethod yX11_bench ∈ tbz := tbz_tb (tk2 (List.mem_of_getElem? (i := 182) rfl)) rfl
theorem seX11_bench : Cond.selects yX11_bench.cls yX11_bench yX11_bench ∈ tbz := tbz_tb (tk2 (List.mem_of_getElem? (i := 183) rfl)) rfl
abbrev mX11_benchOf : Mi := (yX11_benchOf, cX11_benchOf, 3, some .int, 6, 134)
theorem lcX11_benchOf : Lc mX11_benchOf 2 := ⟨tbz_tb (tk5 (List.mem_of_getElem? (i := 89) rfl)) rfl, tbz_tb (tk1 (List.mem_of_getElem? (i := 1) rfl)) rfl, by decide, by decide, by decide +kernel⟩
theorem imX11_benchOf : Cond.instanceMethod yX11_benchOf ∈ tbz := tbz_tb (tk5 (List.mem_of_getElem? (i := 87) rfl)) rfl
theorem seX11_benchOf : Cond.selects yX11_benchOf.cls yX11_benchOf yX11_benchOf ∈ tbz := tbz_tb (tk5 (List.mem_of_getElem? (i := 88) rfl)) rfl
abbrev mX11_beside : Mi := (yX11_beside, cX11_beside, 2, some .long, 7, 177)
theorem lcX11_beside : Lc mX11_beside 1 := ⟨tbz_tb (tk5 (List.mem_of_getElem? (i := 66) rfl)) rfl, tbz_tb (tk1 (List.mem_of_getElem? (i := 1) rfl)) rfl, by decide, by decide, by decide +kernel⟩
theorem imX11_beside : Cond.instanceMethod yX11_beside ∈ tbz := tbz_tb (tk5 (List.mem_of_getElem? (i := 64) rfl)) rfl
theorem seX11_beside : Cond.selects yX11_beside.cls yX11_beside yX11_beside ∈ tbz := tbz_tb (tk5 (List.mem_of_getElem? (i := 65) rfl)) rfl
abbrev mX11_change : Mi := (yX11_change, cX11_change, 3, some .int, 7, 171)
theorem lcX11_change : Lc mX11_change 1 := ⟨tbz_tb (tk4 (List.mem_of_getElem? (i := 90) rfl)) rfl, tbz_tb (tk1 (List.mem_of_getElem? (i := 1) rfl)) rfl, by decide, by decide, by decide +kernel⟩
theorem imX11_change : Cond.instanceMethod yX11_change ∈ tbz := tbz_tb (tk4 (List.mem_of_getElem? (i := 88) rfl)) rfl
theorem seX11_change : Cond.selects yX11_change.cls yX11_change yX11_change ∈ tbz := tbz_tb (tk4 (List.mem_of_getElem? (i := 89) rfl)) rfl
abbrev mX11_changed : Mi := (yX11_changed, cX11_changed, 6, some .int, 2, 44)
theorem lcX11_changed : Lc mX11_changed 4 := ⟨tbz_tb (tk2 (List.mem_of_getElem? (i := 238) rfl)) rfl, tbz_tb (tk1 (List.mem_of_getElem? (i := 1) rfl)) rfl, by decide, by decide, by decide +kernel⟩
theorem imX11_changed : Cond.instanceMethod yX11_changed ∈ tbz := tbz_tb (tk2 (List.mem_of_getElem? (i := 236) rfl)) rfl
theorem seX11_changed : Cond.selects yX11_changed.cls yX11_changed yX11_changed ∈ tbz := tbz_tb (tk2 (List.mem_of_getElem? (i := 237) rfl)) rfl
abbrev mX11_changedTo : Mi := (yX11_changedTo, cX11_changedTo, 2, some .int, 1, 21)
theorem lcX11_changedTo : Lc mX11_changedTo 1 := ⟨tbz_tb (tk4 (List.mem_of_getElem? (i := 137) rfl)) rfl, tbz_tb (tk1 (List.mem_of_getElem? (i := 1) rfl)) rfl, by decide, by decide, by decide +kernel⟩
theorem imX11_changedTo : Cond.instanceMethod yX11_changedTo ∈ tbz := tbz_tb (tk4 (List.mem_of_getElem? (i := 135) rfl)) rfl
theorem seX11_changedTo : Cond.selects yX11_changedTo.cls yX11_changedTo yX11_changedTo ∈ tbz := tbz_tb (tk4 (List.mem_of_getElem? (i := 136) rfl)) rfl
abbrev mX11_count : Mi := (yX11_count, cX11_count, 2, some .int, 4, 86)
theorem lcX11_count : Lc mX11_count 1 := ⟨tbz_tb (tk5 (List.mem_of_getElem? (i := 97) rfl)) rfl, tbz_tb (tk1 (List.mem_of_getElem? (i := 1) rfl)) rfl, by decide, by decide, by decide +kernel⟩
theorem imX11_count : Cond.instanceMethod yX11_count ∈ tbz := tbz_tb (tk5 (List.mem_of_getElem? (i := 95) rfl)) rfl
theorem seX11_count : Cond.selects yX11_count.cls yX11_count yX11_count ∈ tbz := tbz_tb (tk5 (List.mem_of_getElem? (i := 96) rfl)) rfl
abbrev mX11_ends : Mi := (yX11_ends, cX11_ends, 3, some .boolean, 1, 21)
theorem lcX11_ends : Lc mX11_ends 1 := ⟨tbz_tb (tk3 (List.mem_of_getElem? (i := 174) rfl)) rfl, tbz_tb (tk1 (List.mem_of_getElem? (i := 1) rfl)) rfl, by decide, by decide, by decide +kernel⟩
theorem imX11_ends : Cond.instanceMethod yX11_ends ∈ tbz := tbz_tb (tk3 (List.mem_of_getElem? (i := 172) rfl)) rfl
theorem seX11_ends : Cond.selects yX11_ends.cls yX11_ends yX11_ends ∈ tbz := tbz_tb (tk3 (List.mem_of_getElem? (i := 173) rfl)) rfl
abbrev mX11_enterCustom : Mi := (yX11_enterCustom, cX11_enterCustom, 5, none, 2, 45)
theorem lcX11_enterCustom : Lc mX11_enterCustom 2 := ⟨tbz_tb (tk5 (List.mem_of_getElem? (i := 54) rfl)) rfl, tbz_tb (tk1 (List.mem_of_getElem? (i := 1) rfl)) rfl, by decide, by decide, by decide +kernel⟩
theorem imX11_enterCustom : Cond.instanceMethod yX11_enterCustom ∈ tbz := tbz_tb (tk5 (List.mem_of_getElem? (i := 53) rfl)) rfl
theorem seX11_enterCustom : Cond.selects yX11_enterCustom.cls yX11_enterCustom yX11_enterCustom ∈ tbz := tp3 (q := (yX11_enterCustom, _)) (List.mem_of_getElem? (i := 5) rfl)
abbrev mX11_enterRent : Mi := (yX11_enterRent, cX11_enterRent, 4, none, 2, 45)
theorem lcX11_enterRent : Lc mX11_enterRent 1 := ⟨tbz_tb (tk4 (List.mem_of_getElem? (i := 72) rfl)) rfl, tbz_tb (tk1 (List.mem_of_getElem? (i := 1) rfl)) rfl, by decide, by decide, by decide +kernel⟩
theorem imX11_enterRent : Cond.instanceMethod yX11_enterRent ∈ tbz := tbz_tb (tk4 (List.mem_of_getElem? (i := 71) rfl)) rfl
theorem seX11_enterRent : Cond.selects yX11_enterRent.cls yX11_enterRent yX11_enterRent ∈ tbz := tp1 (q := (yX11_enterRent, _)) (List.mem_of_getElem? (i := 12) rfl)
abbrev mX11_fund : Mi := (yX11_fund, cX11_fund, 1, some .long, 0, 0)
theorem lcX11_fund : Lc mX11_fund 0 := ⟨tbz_tb (tk5 (List.mem_of_getElem? (i := 111) rfl)) rfl, tbz_tb (tk1 (List.mem_of_getElem? (i := 1) rfl)) rfl, by decide, by decide, by decide +kernel⟩
theorem imX11_fund : Cond.instanceMethod yX11_fund ∈ tbz := tbz_tb (tk5 (List.mem_of_getElem? (i := 109) rfl)) rfl
theorem seX11_fund : Cond.selects yX11_fund.cls yX11_fund yX11_fund ∈ tbz := tbz_tb (tk5 (List.mem_of_getElem? (i := 110) rfl)) rfl
abbrev mX11_go : Mi := (yX11_go, cX11_go, 3, some .int, 7, 177)
theorem lcX11_go : Lc mX11_go 0 := ⟨tbz_tb (tk4 (List.mem_of_getElem? (i := 222) rfl)) rfl, tbz_tb (tk1 (List.mem_of_getElem? (i := 1) rfl)) rfl, by decide, by decide, by decide +kernel⟩
theorem imX11_go : Cond.instanceMethod yX11_go ∈ tbz := tbz_tb (tk4 (List.mem_of_getElem? (i := 220) rfl)) rfl
theorem seX11_go : Cond.selects yX11_go.cls yX11_go yX11_go ∈ tbz := tbz_tb (tk4 (List.mem_of_getElem? (i := 221) rfl)) rfl
abbrev mX11_gone : Mi := (yX11_gone, cX11_gone, 5, some .int, 4, 102)
theorem lcX11_gone : Lc mX11_gone 2 := ⟨tbz_tb (tk3 (List.mem_of_getElem? (i := 10) rfl)) rfl, tbz_tb (tk1 (List.mem_of_getElem? (i := 1) rfl)) rfl, by decide, by decide, by decide +kernel⟩
theorem imX11_gone : Cond.instanceMethod yX11_gone ∈ tbz := tbz_tb (tk3 (List.mem_of_getElem? (i := 8) rfl)) rfl
theorem seX11_gone : Cond.selects yX11_gone.cls yX11_gone yX11_gone ∈ tbz := tbz_tb (tk3 (List.mem_of_getElem? (i := 9) rfl)) rfl
abbrev mX11_hasComeToCustom : Mi := (yX11_hasComeToCustom, cX11_hasComeToCustom, 5, some .boolean, 1, 22)
theorem lcX11_hasComeToCustom : Lc mX11_hasComeToCustom 1 := ⟨tbz_tb (tk5 (List.mem_of_getElem? (i := 46) rfl)) rfl, tbz_tb (tk1 (List.mem_of_getElem? (i := 1) rfl)) rfl, by decide, by decide, by decide +kernel⟩
theorem imX11_hasComeToCustom : Cond.instanceMethod yX11_hasComeToCustom ∈ tbz := tbz_tb (tk5 (List.mem_of_getElem? (i := 45) rfl)) rfl
theorem seX11_hasComeToCustom : Cond.selects yX11_hasComeToCustom.cls yX11_hasComeToCustom yX11_hasComeToCustom ∈ tbz := tp3 (q := (yX11_hasComeToCustom, _)) (List.mem_of_getElem? (i := 4) rfl)
abbrev mX11_household : Mi := (yX11_household, cX11_household, 4, some .int, 3, 66)
theorem lcX11_household : Lc mX11_household 3 := ⟨tbz_tb (tk2 (List.mem_of_getElem? (i := 192) rfl)) rfl, tbz_tb (tk1 (List.mem_of_getElem? (i := 1) rfl)) rfl, by decide, by decide, by decide +kernel⟩
theorem imX11_household : Cond.instanceMethod yX11_household ∈ tbz := tbz_tb (tk2 (List.mem_of_getElem? (i := 190) rfl)) rfl
theorem seX11_household : Cond.selects yX11_household.cls yX11_household yX11_household ∈ tbz := tbz_tb (tk2 (List.mem_of_getElem? (i := 191) rfl)) rfl
abbrev mX11_householdOf : Mi := (yX11_householdOf, cX11_householdOf, 4, some .int, 5, 112)
theorem lcX11_householdOf : Lc mX11_householdOf 2 := ⟨tbz_tb (tk5 (List.mem_of_getElem? (i := 81) rfl)) rfl, tbz_tb (tk1 (List.mem_of_getElem? (i := 1) rfl)) rfl, by decide, by decide, by decide +kernel⟩
theorem imX11_householdOf : Cond.instanceMethod yX11_householdOf ∈ tbz := tbz_tb (tk5 (List.mem_of_getElem? (i := 79) rfl)) rfl
theorem seX11_householdOf : Cond.selects yX11_householdOf.cls yX11_householdOf yX11_householdOf ∈ tbz := tbz_tb (tk5 (List.mem_of_getElem? (i := 80) rfl)) rfl
abbrev mX11_isAsked : Mi := (yX11_isAsked, cX11_isAsked, 5, some .boolean, 2, 42)
theorem lcX11_isAsked : Lc mX11_isAsked 4 := ⟨tbz_tb (tk3 (List.mem_of_getElem? (i := 206) rfl)) rfl, tbz_tb (tk1 (List.mem_of_getElem? (i := 1) rfl)) rfl, by decide, by decide, by decide +kernel⟩
theorem imX11_isAsked : Cond.instanceMethod yX11_isAsked ∈ tbz := tbz_tb (tk3 (List.mem_of_getElem? (i := 205) rfl)) rfl
theorem seX11_isAsked : Cond.selects yX11_isAsked.cls yX11_isAsked yX11_isAsked ∈ tbz := tp1 (q := (yX11_isAsked, _)) (List.mem_of_getElem? (i := 5) rfl)
abbrev mX11_isHouseholdAsTold : Mi := (yX11_isHouseholdAsTold, cX11_isHouseholdAsTold, 3, some .boolean, 1, 22)
theorem lcX11_isHouseholdAsTold : Lc mX11_isHouseholdAsTold 3 := ⟨tbz_tb (tk2 (List.mem_of_getElem? (i := 195) rfl)) rfl, tbz_tb (tk1 (List.mem_of_getElem? (i := 1) rfl)) rfl, by decide, by decide, by decide +kernel⟩
theorem sxX11_isHouseholdAsTold : Cond.static yX11_isHouseholdAsTold ∈ tbz := tbz_tb (tk2 (List.mem_of_getElem? (i := 194) rfl)) rfl
abbrev mX11_isPoint : Mi := (yX11_isPoint, cX11_isPoint, 1, some .boolean, 1, 22)
theorem lcX11_isPoint : Lc mX11_isPoint 1 := ⟨tbz_tb (tk2 (List.mem_of_getElem? (i := 134) rfl)) rfl, tbz_tb (tk1 (List.mem_of_getElem? (i := 1) rfl)) rfl, by decide, by decide, by decide +kernel⟩
theorem sxX11_isPoint : Cond.static yX11_isPoint ∈ tbz := tbz_tb (tk2 (List.mem_of_getElem? (i := 133) rfl)) rfl
abbrev mX11_isWithin : Mi := (yX11_isWithin, cX11_isWithin, 3, some .boolean, 0, 0)
theorem lcX11_isWithin : Lc mX11_isWithin 3 := ⟨tbz_tb (tk2 (List.mem_of_getElem? (i := 137) rfl)) rfl, tbz_tb (tk1 (List.mem_of_getElem? (i := 1) rfl)) rfl, by decide, by decide, by decide +kernel⟩
theorem sxX11_isWithin : Cond.static yX11_isWithin ∈ tbz := tbz_tb (tk2 (List.mem_of_getElem? (i := 136) rfl)) rfl
abbrev mX11_isYear : Mi := (yX11_isYear, cX11_isYear, 1, some .boolean, 1, 22)
theorem lcX11_isYear : Lc mX11_isYear 1 := ⟨tbz_tb (tk3 (List.mem_of_getElem? (i := 123) rfl)) rfl, tbz_tb (tk1 (List.mem_of_getElem? (i := 1) rfl)) rfl, by decide, by decide, by decide +kernel⟩
theorem sxX11_isYear : Cond.static yX11_isYear ∈ tbz := tbz_tb (tk3 (List.mem_of_getElem? (i := 122) rfl)) rfl
abbrev mX11_judge : Mi := (yX11_judge, cX11_judge, 8, some .int, 5, 117)
theorem lcX11_judge : Lc mX11_judge 6 := ⟨tbz_tb (tk3 (List.mem_of_getElem? (i := 231) rfl)) rfl, tbz_tb (tk1 (List.mem_of_getElem? (i := 1) rfl)) rfl, by decide, by decide, by decide +kernel⟩
theorem imX11_judge : Cond.instanceMethod yX11_judge ∈ tbz := tbz_tb (tk3 (List.mem_of_getElem? (i := 229) rfl)) rfl
theorem seX11_judge : Cond.selects yX11_judge.cls yX11_judge yX11_judge ∈ tbz := tbz_tb (tk3 (List.mem_of_getElem? (i := 230) rfl)) rfl
abbrev mX11_knock : Mi := (yX11_knock, cX11_knock, 2, some .long, 4, 100)
theorem lcX11_knock : Lc mX11_knock 0 := ⟨tbz_tb (tk4 (List.mem_of_getElem? (i := 31) rfl)) rfl, tbz_tb (tk1 (List.mem_of_getElem? (i := 1) rfl)) rfl, by decide, by decide, by decide +kernel⟩
theorem imX11_knock : Cond.instanceMethod yX11_knock ∈ tbz := tbz_tb (tk4 (List.mem_of_getElem? (i := 29) rfl)) rfl
theorem seX11_knock : Cond.selects yX11_knock.cls yX11_knock yX11_knock ∈ tbz := tbz_tb (tk4 (List.mem_of_getElem? (i := 30) rfl)) rfl
abbrev mX11_knocked : Mi := (yX11_knocked, cX11_knocked, 3, some .long, 1, 21)
theorem lcX11_knocked : Lc mX11_knocked 2 := ⟨tbz_tb (tk4 (List.mem_of_getElem? (i := 85) rfl)) rfl, tbz_tb (tk1 (List.mem_of_getElem? (i := 1) rfl)) rfl, by decide, by decide, by decide +kernel⟩
theorem imX11_knocked : Cond.instanceMethod yX11_knocked ∈ tbz := tbz_tb (tk4 (List.mem_of_getElem? (i := 83) rfl)) rfl
theorem seX11_knocked : Cond.selects yX11_knocked.cls yX11_knocked yX11_knocked ∈ tbz := tbz_tb (tk4 (List.mem_of_getElem? (i := 84) rfl)) rfl
abbrev mX11_latestSeating : Mi := (yX11_latestSeating, cX11_latestSeating, 1, some (.object "PewRank$Seating"), 1, 21)
theorem lcX11_latestSeating : Lc mX11_latestSeating 0 := ⟨tbz_tb (tk4 (List.mem_of_getElem? (i := 94) rfl)) rfl, tbz_tb (tk1 (List.mem_of_getElem? (i := 1) rfl)) rfl, by decide, by decide, by decide +kernel⟩
theorem imX11_latestSeating : Cond.instanceMethod yX11_latestSeating ∈ tbz := tbz_tb (tk4 (List.mem_of_getElem? (i := 93) rfl)) rfl
theorem seX11_latestSeating : Cond.selects yX11_latestSeating.cls yX11_latestSeating yX11_latestSeating ∈ tbz := tp1 (q := (yX11_latestSeating, _)) (List.mem_of_getElem? (i := 13) rfl)
abbrev mX11_lot : Mi := (yX11_lot, cX11_lot, 5, some .int, 2, 48)
theorem lcX11_lot : Lc mX11_lot 4 := ⟨tbz_tb (tk3 (List.mem_of_getElem? (i := 235) rfl)) rfl, tbz_tb (tk1 (List.mem_of_getElem? (i := 1) rfl)) rfl, by decide, by decide, by decide +kernel⟩
theorem imX11_lot : Cond.instanceMethod yX11_lot ∈ tbz := tbz_tb (tk3 (List.mem_of_getElem? (i := 233) rfl)) rfl
theorem seX11_lot : Cond.selects yX11_lot.cls yX11_lot yX11_lot ∈ tbz := tbz_tb (tk3 (List.mem_of_getElem? (i := 234) rfl)) rfl
abbrev mX11_moved : Mi := (yX11_moved, cX11_moved, 7, some .int, 1, 22)
theorem lcX11_moved : Lc mX11_moved 2 := ⟨tbz_tb (tk5 (List.mem_of_getElem? (i := 62) rfl)) rfl, tbz_tb (tk1 (List.mem_of_getElem? (i := 1) rfl)) rfl, by decide, by decide, by decide +kernel⟩
theorem imX11_moved : Cond.instanceMethod yX11_moved ∈ tbz := tbz_tb (tk5 (List.mem_of_getElem? (i := 60) rfl)) rfl
theorem seX11_moved : Cond.selects yX11_moved.cls yX11_moved yX11_moved ∈ tbz := tbz_tb (tk5 (List.mem_of_getElem? (i := 61) rfl)) rfl
abbrev mX11_offers : Mi := (yX11_offers, cX11_offers, 6, some .int, 3, 64)
theorem lcX11_offers : Lc mX11_offers 2 := ⟨tbz_tb (tk4 (List.mem_of_getElem? (i := 3) rfl)) rfl, tbz_tb (tk1 (List.mem_of_getElem? (i := 1) rfl)) rfl, by decide, by decide, by decide +kernel⟩
theorem imX11_offers : Cond.instanceMethod yX11_offers ∈ tbz := tbz_tb (tk4 (List.mem_of_getElem? (i := 1) rfl)) rfl
theorem seX11_offers : Cond.selects yX11_offers.cls yX11_offers yX11_offers ∈ tbz := tbz_tb (tk4 (List.mem_of_getElem? (i := 2) rfl)) rfl
abbrev mX11_ownedUnits : Mi := (yX11_ownedUnits, cX11_ownedUnits, 4, some .int, 5, 111)
theorem lcX11_ownedUnits : Lc mX11_ownedUnits 1 := ⟨tbz_tb (tk5 (List.mem_of_getElem? (i := 93) rfl)) rfl, tbz_tb (tk1 (List.mem_of_getElem? (i := 1) rfl)) rfl, by decide, by decide, by decide +kernel⟩
theorem imX11_ownedUnits : Cond.instanceMethod yX11_ownedUnits ∈ tbz := tbz_tb (tk5 (List.mem_of_getElem? (i := 92) rfl)) rfl
theorem seX11_ownedUnits : Cond.selects yX11_ownedUnits.cls yX11_ownedUnits yX11_ownedUnits ∈ tbz := tp3 (q := (yX11_ownedUnits, _)) (List.mem_of_getElem? (i := 6) rfl)
abbrev mX11_paste : Mi := (yX11_paste, cX11_paste, 6, some .int, 3, 85)
theorem lcX11_paste : Lc mX11_paste 5 := ⟨tbz_tb (tk5 (List.mem_of_getElem? (i := 143) rfl)) rfl, tbz_tb (tk1 (List.mem_of_getElem? (i := 1) rfl)) rfl, by decide, by decide, by decide +kernel⟩
theorem imX11_paste : Cond.instanceMethod yX11_paste ∈ tbz := tbz_tb (tk5 (List.mem_of_getElem? (i := 141) rfl)) rfl
theorem seX11_paste : Cond.selects yX11_paste.cls yX11_paste yX11_paste ∈ tbz := tbz_tb (tk5 (List.mem_of_getElem? (i := 142) rfl)) rfl
abbrev mX11_pillar : Mi := (yX11_pillar, cX11_pillar, 4, some .int, 5, 127)
theorem lcX11_pillar : Lc mX11_pillar 3 := ⟨tbz_tb (tk2 (List.mem_of_getElem? (i := 176) rfl)) rfl, tbz_tb (tk1 (List.mem_of_getElem? (i := 1) rfl)) rfl, by decide, by decide, by decide +kernel⟩
theorem imX11_pillar : Cond.instanceMethod yX11_pillar ∈ tbz := tbz_tb (tk2 (List.mem_of_getElem? (i := 174) rfl)) rfl
theorem seX11_pillar : Cond.selects yX11_pillar.cls yX11_pillar yX11_pillar ∈ tbz := tbz_tb (tk2 (List.mem_of_getElem? (i := 175) rfl)) rfl
abbrev mX11_plotOf : Mi := (yX11_plotOf, cX11_plotOf, 3, some .int, 3, 64)
theorem lcX11_plotOf : Lc mX11_plotOf 2 := ⟨tbz_tb (tk3 (List.mem_of_getElem? (i := 152) rfl)) rfl, tbz_tb (tk1 (List.mem_of_getElem? (i := 1) rfl)) rfl, by decide, by decide, by decide +kernel⟩
theorem imX11_plotOf : Cond.instanceMethod yX11_plotOf ∈ tbz := tbz_tb (tk3 (List.mem_of_getElem? (i := 150) rfl)) rfl
theorem seX11_plotOf : Cond.selects yX11_plotOf.cls yX11_plotOf yX11_plotOf ∈ tbz := tbz_tb (tk3 (List.mem_of_getElem? (i := 151) rfl)) rfl
abbrev mX11_pulpit : Mi := (yX11_pulpit, cX11_pulpit, 4, some .int, 5, 127)
theorem lcX11_pulpit : Lc mX11_pulpit 3 := ⟨tbz_tb (tk2 (List.mem_of_getElem? (i := 131) rfl)) rfl, tbz_tb (tk1 (List.mem_of_getElem? (i := 1) rfl)) rfl, by decide, by decide, by decide +kernel⟩
theorem imX11_pulpit : Cond.instanceMethod yX11_pulpit ∈ tbz := tbz_tb (tk2 (List.mem_of_getElem? (i := 129) rfl)) rfl
theorem seX11_pulpit : Cond.selects yX11_pulpit.cls yX11_pulpit yX11_pulpit ∈ tbz := tbz_tb (tk2 (List.mem_of_getElem? (i := 130) rfl)) rfl
abbrev mX11_right : Mi := (yX11_right, cX11_right, 11, some .int, 2, 45)
theorem lcX11_right : Lc mX11_right 8 := ⟨tbz_tb (tk3 (List.mem_of_getElem? (i := 157) rfl)) rfl, tbz_tb (tk1 (List.mem_of_getElem? (i := 1) rfl)) rfl, by decide, by decide, by decide +kernel⟩
theorem imX11_right : Cond.instanceMethod yX11_right ∈ tbz := tbz_tb (tk3 (List.mem_of_getElem? (i := 155) rfl)) rfl
theorem seX11_right : Cond.selects yX11_right.cls yX11_right yX11_right ∈ tbz := tbz_tb (tk3 (List.mem_of_getElem? (i := 156) rfl)) rfl
abbrev mX11_rightOf : Mi := (yX11_rightOf, cX11_rightOf, 4, some .int, 1, 21)
theorem lcX11_rightOf : Lc mX11_rightOf 2 := ⟨tbz_tb (tk3 (List.mem_of_getElem? (i := 180) rfl)) rfl, tbz_tb (tk1 (List.mem_of_getElem? (i := 1) rfl)) rfl, by decide, by decide, by decide +kernel⟩
theorem imX11_rightOf : Cond.instanceMethod yX11_rightOf ∈ tbz := tbz_tb (tk3 (List.mem_of_getElem? (i := 178) rfl)) rfl
theorem seX11_rightOf : Cond.selects yX11_rightOf.cls yX11_rightOf yX11_rightOf ∈ tbz := tbz_tb (tk3 (List.mem_of_getElem? (i := 179) rfl)) rfl
abbrev mX11_row : Mi := (yX11_row, cX11_row, 4, some .int, 3, 79)
theorem lcX11_row : Lc mX11_row 3 := ⟨tbz_tb (tk5 (List.mem_of_getElem? (i := 115) rfl)) rfl, tbz_tb (tk1 (List.mem_of_getElem? (i := 1) rfl)) rfl, by decide, by decide, by decide +kernel⟩
theorem imX11_row : Cond.instanceMethod yX11_row ∈ tbz := tbz_tb (tk5 (List.mem_of_getElem? (i := 113) rfl)) rfl
theorem seX11_row : Cond.selects yX11_row.cls yX11_row yX11_row ∈ tbz := tbz_tb (tk5 (List.mem_of_getElem? (i := 114) rfl)) rfl
abbrev mX11_sat : Mi := (yX11_sat, cX11_sat, 3, some .int, 0, 0)
theorem lcX11_sat : Lc mX11_sat 1 := ⟨tbz_tb (tk4 (List.mem_of_getElem? (i := 218) rfl)) rfl, tbz_tb (tk1 (List.mem_of_getElem? (i := 1) rfl)) rfl, by decide, by decide, by decide +kernel⟩
theorem imX11_sat : Cond.instanceMethod yX11_sat ∈ tbz := tbz_tb (tk4 (List.mem_of_getElem? (i := 216) rfl)) rfl
theorem seX11_sat : Cond.selects yX11_sat.cls yX11_sat yX11_sat ∈ tbz := tbz_tb (tk4 (List.mem_of_getElem? (i := 217) rfl)) rfl
abbrev mX11_seat : Mi := (yX11_seat, cX11_seat, 5, some .int, 1, 21)
theorem lcX11_seat : Lc mX11_seat 3 := ⟨tbz_tb (tk5 (List.mem_of_getElem? (i := 58) rfl)) rfl, tbz_tb (tk1 (List.mem_of_getElem? (i := 1) rfl)) rfl, by decide, by decide, by decide +kernel⟩
theorem imX11_seat : Cond.instanceMethod yX11_seat ∈ tbz := tbz_tb (tk5 (List.mem_of_getElem? (i := 56) rfl)) rfl
theorem seX11_seat : Cond.selects yX11_seat.cls yX11_seat yX11_seat ∈ tbz := tbz_tb (tk5 (List.mem_of_getElem? (i := 57) rfl)) rfl
abbrev mX11_seatingOf : Mi := (yX11_seatingOf, cX11_seatingOf, 2, some (.object "PewRank$Seating"), 0, 0)
theorem lcX11_seatingOf : Lc mX11_seatingOf 1 := ⟨tbz_tb (tk4 (List.mem_of_getElem? (i := 98) rfl)) rfl, tbz_tb (tk1 (List.mem_of_getElem? (i := 1) rfl)) rfl, by decide, by decide, by decide +kernel⟩
theorem imX11_seatingOf : Cond.instanceMethod yX11_seatingOf ∈ tbz := tbz_tb (tk4 (List.mem_of_getElem? (i := 97) rfl)) rfl
theorem seX11_seatingOf : Cond.selects yX11_seatingOf.cls yX11_seatingOf yX11_seatingOf ∈ tbz := tp1 (q := (yX11_seatingOf, _)) (List.mem_of_getElem? (i := 14) rfl)
abbrev mX11_sell : Mi := (yX11_sell, cX11_sell, 4, some .int, 3, 78)
theorem lcX11_sell : Lc mX11_sell 2 := ⟨tbz_tb (tk3 (List.mem_of_getElem? (i := 145) rfl)) rfl, tbz_tb (tk1 (List.mem_of_getElem? (i := 1) rfl)) rfl, by decide, by decide, by decide +kernel⟩
theorem imX11_sell : Cond.instanceMethod yX11_sell ∈ tbz := tbz_tb (tk3 (List.mem_of_getElem? (i := 143) rfl)) rfl
theorem seX11_sell : Cond.selects yX11_sell.cls yX11_sell yX11_sell ∈ tbz := tbz_tb (tk3 (List.mem_of_getElem? (i := 144) rfl)) rfl
abbrev mX11_sunday : Mi := (yX11_sunday, cX11_sunday, 3, some .int, 6, 148)
theorem lcX11_sunday : Lc mX11_sunday 2 := ⟨tbz_tb (tk4 (List.mem_of_getElem? (i := 141) rfl)) rfl, tbz_tb (tk1 (List.mem_of_getElem? (i := 1) rfl)) rfl, by decide, by decide, by decide +kernel⟩
theorem imX11_sunday : Cond.instanceMethod yX11_sunday ∈ tbz := tbz_tb (tk4 (List.mem_of_getElem? (i := 139) rfl)) rfl
theorem seX11_sunday : Cond.selects yX11_sunday.cls yX11_sunday yX11_sunday ∈ tbz := tbz_tb (tk4 (List.mem_of_getElem? (i := 140) rfl)) rfl
abbrev mX11_tear : Mi := (yX11_tear, cX11_tear, 2, some .boolean, 1, 21)
theorem lcX11_tear : Lc mX11_tear 1 := ⟨tbz_tb (tk5 (List.mem_of_getElem? (i := 124) rfl)) rfl, tbz_tb (tk1 (List.mem_of_getElem? (i := 1) rfl)) rfl, by decide, by decide, by decide +kernel⟩
theorem imX11_tear : Cond.instanceMethod yX11_tear ∈ tbz := tbz_tb (tk5 (List.mem_of_getElem? (i := 122) rfl)) rfl
theorem seX11_tear : Cond.selects yX11_tear.cls yX11_tear yX11_tear ∈ tbz := tbz_tb (tk5 (List.mem_of_getElem? (i := 123) rfl)) rfl
abbrev mX11_terms : Mi := (yX11_terms, cX11_terms, 3, some .int, 1, 22)
theorem lcX11_terms : Lc mX11_terms 2 := ⟨tbz_tb (tk2 (List.mem_of_getElem? (i := 172) rfl)) rfl, tbz_tb (tk1 (List.mem_of_getElem? (i := 1) rfl)) rfl, by decide, by decide, by decide +kernel⟩
theorem imX11_terms : Cond.instanceMethod yX11_terms ∈ tbz := tbz_tb (tk2 (List.mem_of_getElem? (i := 170) rfl)) rfl
theorem seX11_terms : Cond.selects yX11_terms.cls yX11_terms yX11_terms ∈ tbz := tbz_tb (tk2 (List.mem_of_getElem? (i := 171) rfl)) rfl
abbrev mX11_unit : Mi := (yX11_unit, cX11_unit, 5, some .int, 1, 22)
theorem lcX11_unit : Lc mX11_unit 3 := ⟨tbz_tb (tk3 (List.mem_of_getElem? (i := 188) rfl)) rfl, tbz_tb (tk1 (List.mem_of_getElem? (i := 1) rfl)) rfl, by decide, by decide, by decide +kernel⟩
theorem imX11_unit : Cond.instanceMethod yX11_unit ∈ tbz := tbz_tb (tk3 (List.mem_of_getElem? (i := 186) rfl)) rfl
theorem seX11_unit : Cond.selects yX11_unit.cls yX11_unit yX11_unit ∈ tbz := tbz_tb (tk3 (List.mem_of_getElem? (i := 187) rfl)) rfl
abbrev mX11_worth : Mi := (yX11_worth, cX11_worth, 5, some .int, 3, 71)
theorem lcX11_worth : Lc mX11_worth 3 := ⟨tbz_tb (tk3 (List.mem_of_getElem? (i := 193) rfl)) rfl, tbz_tb (tk1 (List.mem_of_getElem? (i := 1) rfl)) rfl, by decide, by decide, by decide +kernel⟩
theorem imX11_worth : Cond.instanceMethod yX11_worth ∈ tbz := tbz_tb (tk3 (List.mem_of_getElem? (i := 191) rfl)) rfl
theorem seX11_worth : Cond.selects yX11_worth.cls yX11_worth yX11_worth ∈ tbz := tbz_tb (tk3 (List.mem_of_getElem? (i := 192) rfl)) rfl
abbrev mX11_write : Mi := (yX11_write, cX11_write, 5, some .int, 2, 46)
theorem lcX11_write : Lc mX11_write 3 := ⟨tbz_tb (tk5 (List.mem_of_getElem? (i := 132) rfl)) rfl, tbz_tb (tk1 (List.mem_of_getElem? (i := 1) rfl)) rfl, by decide, by decide, by decide +kernel⟩
theorem imX11_write : Cond.instanceMethod yX11_write ∈ tbz := tbz_tb (tk5 (List.mem_of_getElem? (i := 130) rfl)) rfl
theorem seX11_write : Cond.selects yX11_write.cls yX11_write yX11_write ∈ tbz := tbz_tb (tk5 (List.mem_of_getElem? (i := 131) rfl)) rfl
abbrev mX0_init : Mi := (yX0_init, cX0_init, 1, none, 1, 20)
theorem lcX0_init : Lc mX0_init 0 := ⟨tbz_tb (tk1 (List.mem_of_getElem? (i := 163) rfl)) rfl, tbz_tb (tk1 (List.mem_of_getElem? (i := 7) rfl)) rfl, by decide, by decide, by decide +kernel⟩
theorem imX0_init : Cond.instanceMethod yX0_init ∈ tbz := tbz_tb (tk1 (List.mem_of_getElem? (i := 162) rfl)) rfl
abbrev mX0_addAhead : Mi := (yX0_addAhead, cX0_addAhead, 5, none, 1, 21)
theorem lcX0_addAhead : Lc mX0_addAhead 1 := ⟨tbz_tb (tk4 (List.mem_of_getElem? (i := 68) rfl)) rfl, tbz_tb (tk1 (List.mem_of_getElem? (i := 7) rfl)) rfl, by decide, by decide, by decide +kernel⟩
theorem imX0_addAhead : Cond.instanceMethod yX0_addAhead ∈ tbz := tbz_tb (tk4 (List.mem_of_getElem? (i := 67) rfl)) rfl
theorem seX0_addAhead : Cond.selects yX0_addAhead.cls yX0_addAhead yX0_addAhead ∈ tbz := tp1 (q := (yX0_addAhead, _)) (List.mem_of_getElem? (i := 11) rfl)
abbrev mX0_bestWithLot : Mi := (yX0_bestWithLot, cX0_bestWithLot, 5, some .int, 1, 24)
theorem lcX0_bestWithLot : Lc mX0_bestWithLot 2 := ⟨tbz_tb (tk4 (List.mem_of_getElem? (i := 45) rfl)) rfl, tbz_tb (tk1 (List.mem_of_getElem? (i := 7) rfl)) rfl, by decide, by decide, by decide +kernel⟩
theorem imX0_bestWithLot : Cond.instanceMethod yX0_bestWithLot ∈ tbz := tbz_tb (tk4 (List.mem_of_getElem? (i := 44) rfl)) rfl
theorem seX0_bestWithLot : Cond.selects yX0_bestWithLot.cls yX0_bestWithLot yX0_bestWithLot ∈ tbz := tp1 (q := (yX0_bestWithLot, _)) (List.mem_of_getElem? (i := 7) rfl)
abbrev mX0_bestWithout : Mi := (yX0_bestWithout, cX0_bestWithout, 4, some .int, 1, 21)
theorem lcX0_bestWithout : Lc mX0_bestWithout 1 := ⟨tbz_tb (tk4 (List.mem_of_getElem? (i := 64) rfl)) rfl, tbz_tb (tk1 (List.mem_of_getElem? (i := 7) rfl)) rfl, by decide, by decide, by decide +kernel⟩
theorem imX0_bestWithout : Cond.instanceMethod yX0_bestWithout ∈ tbz := tbz_tb (tk4 (List.mem_of_getElem? (i := 63) rfl)) rfl
theorem seX0_bestWithout : Cond.selects yX0_bestWithout.cls yX0_bestWithout yX0_bestWithout ∈ tbz := tp1 (q := (yX0_bestWithout, _)) (List.mem_of_getElem? (i := 10) rfl)
abbrev mX0_close : Mi := (yX0_close, cX0_close, 1, none, 0, 0)
theorem lcX0_close : Lc mX0_close 0 := ⟨tbz_tb (tk4 (List.mem_of_getElem? (i := 81) rfl)) rfl, tbz_tb (tk1 (List.mem_of_getElem? (i := 7) rfl)) rfl, by decide, by decide, by decide +kernel⟩
theorem imX0_close : Cond.instanceMethod yX0_close ∈ tbz := tbz_tb (tk4 (List.mem_of_getElem? (i := 79) rfl)) rfl
theorem seX0_close : Cond.selects yX0_close.cls yX0_close yX0_close ∈ tbz := tbz_tb (tk4 (List.mem_of_getElem? (i := 80) rfl)) rfl
abbrev mX0_dropOffersOf : Mi := (yX0_dropOffersOf, cX0_dropOffersOf, 3, none, 1, 23)
theorem lcX0_dropOffersOf : Lc mX0_dropOffersOf 1 := ⟨tbz_tb (tk3 (List.mem_of_getElem? (i := 137) rfl)) rfl, tbz_tb (tk1 (List.mem_of_getElem? (i := 7) rfl)) rfl, by decide, by decide, by decide +kernel⟩
theorem imX0_dropOffersOf : Cond.instanceMethod yX0_dropOffersOf ∈ tbz := tbz_tb (tk3 (List.mem_of_getElem? (i := 135) rfl)) rfl
theorem seX0_dropOffersOf : Cond.selects yX0_dropOffersOf.cls yX0_dropOffersOf yX0_dropOffersOf ∈ tbz := tbz_tb (tk3 (List.mem_of_getElem? (i := 136) rfl)) rfl
abbrev mX0_fillBest : Mi := (yX0_fillBest, cX0_fillBest, 4, none, 2, 54)
theorem lcX0_fillBest : Lc mX0_fillBest 0 := ⟨tbz_tb (tk4 (List.mem_of_getElem? (i := 40) rfl)) rfl, tbz_tb (tk1 (List.mem_of_getElem? (i := 7) rfl)) rfl, by decide, by decide, by decide +kernel⟩
theorem imX0_fillBest : Cond.instanceMethod yX0_fillBest ∈ tbz := tbz_tb (tk4 (List.mem_of_getElem? (i := 39) rfl)) rfl
theorem seX0_fillBest : Cond.selects yX0_fillBest.cls yX0_fillBest yX0_fillBest ∈ tbz := tp1 (q := (yX0_fillBest, _)) (List.mem_of_getElem? (i := 6) rfl)
abbrev mX0_findPrices : Mi := (yX0_findPrices, cX0_findPrices, 3, none, 2, 45)
theorem lcX0_findPrices : Lc mX0_findPrices 0 := ⟨tbz_tb (tk4 (List.mem_of_getElem? (i := 59) rfl)) rfl, tbz_tb (tk1 (List.mem_of_getElem? (i := 7) rfl)) rfl, by decide, by decide, by decide +kernel⟩
theorem imX0_findPrices : Cond.instanceMethod yX0_findPrices ∈ tbz := tbz_tb (tk4 (List.mem_of_getElem? (i := 57) rfl)) rfl
theorem seX0_findPrices : Cond.selects yX0_findPrices.cls yX0_findPrices yX0_findPrices ∈ tbz := tbz_tb (tk4 (List.mem_of_getElem? (i := 58) rfl)) rfl
abbrev mX0_findWinners : Mi := (yX0_findWinners, cX0_findWinners, 4, some .int, 3, 77)
theorem lcX0_findWinners : Lc mX0_findWinners 0 := ⟨tbz_tb (tk4 (List.mem_of_getElem? (i := 36) rfl)) rfl, tbz_tb (tk1 (List.mem_of_getElem? (i := 7) rfl)) rfl, by decide, by decide, by decide +kernel⟩
theorem imX0_findWinners : Cond.instanceMethod yX0_findWinners ∈ tbz := tbz_tb (tk4 (List.mem_of_getElem? (i := 34) rfl)) rfl
theorem seX0_findWinners : Cond.selects yX0_findWinners.cls yX0_findWinners yX0_findWinners ∈ tbz := tbz_tb (tk4 (List.mem_of_getElem? (i := 35) rfl)) rfl
abbrev mX0_income : Mi := (yX0_income, cX0_income, 4, some .long, 0, 0)
theorem lcX0_income : Lc mX0_income 0 := ⟨tbz_tb (tk4 (List.mem_of_getElem? (i := 77) rfl)) rfl, tbz_tb (tk1 (List.mem_of_getElem? (i := 7) rfl)) rfl, by decide, by decide, by decide +kernel⟩
theorem imX0_income : Cond.instanceMethod yX0_income ∈ tbz := tbz_tb (tk4 (List.mem_of_getElem? (i := 75) rfl)) rfl
theorem seX0_income : Cond.selects yX0_income.cls yX0_income yX0_income ∈ tbz := tbz_tb (tk4 (List.mem_of_getElem? (i := 76) rfl)) rfl
abbrev mX0_isLot : Mi := (yX0_isLot, cX0_isLot, 2, some .boolean, 0, 0)
theorem lcX0_isLot : Lc mX0_isLot 1 := ⟨tbz_tb (tk4 (List.mem_of_getElem? (i := 7) rfl)) rfl, tbz_tb (tk1 (List.mem_of_getElem? (i := 7) rfl)) rfl, by decide, by decide, by decide +kernel⟩
theorem imX0_isLot : Cond.instanceMethod yX0_isLot ∈ tbz := tbz_tb (tk4 (List.mem_of_getElem? (i := 5) rfl)) rfl
theorem seX0_isLot : Cond.selects yX0_isLot.cls yX0_isLot yX0_isLot ∈ tbz := tbz_tb (tk4 (List.mem_of_getElem? (i := 6) rfl)) rfl
abbrev mX0_leastLot : Mi := (yX0_leastLot, cX0_leastLot, 4, some .int, 1, 24)
theorem lcX0_leastLot : Lc mX0_leastLot 2 := ⟨tbz_tb (tk4 (List.mem_of_getElem? (i := 54) rfl)) rfl, tbz_tb (tk1 (List.mem_of_getElem? (i := 7) rfl)) rfl, by decide, by decide, by decide +kernel⟩
theorem imX0_leastLot : Cond.instanceMethod yX0_leastLot ∈ tbz := tbz_tb (tk4 (List.mem_of_getElem? (i := 53) rfl)) rfl
theorem seX0_leastLot : Cond.selects yX0_leastLot.cls yX0_leastLot yX0_leastLot ∈ tbz := tp1 (q := (yX0_leastLot, _)) (List.mem_of_getElem? (i := 9) rfl)
abbrev mX0_noteOffer : Mi := (yX0_noteOffer, cX0_noteOffer, 4, none, 0, 0)
theorem lcX0_noteOffer : Lc mX0_noteOffer 3 := ⟨tbz_tb (tk3 (List.mem_of_getElem? (i := 141) rfl)) rfl, tbz_tb (tk1 (List.mem_of_getElem? (i := 7) rfl)) rfl, by decide, by decide, by decide +kernel⟩
theorem imX0_noteOffer : Cond.instanceMethod yX0_noteOffer ∈ tbz := tbz_tb (tk3 (List.mem_of_getElem? (i := 139) rfl)) rfl
theorem seX0_noteOffer : Cond.selects yX0_noteOffer.cls yX0_noteOffer yX0_noteOffer ∈ tbz := tbz_tb (tk3 (List.mem_of_getElem? (i := 140) rfl)) rfl
abbrev mX0_putUp : Mi := (yX0_putUp, cX0_putUp, 6, some .int, 1, 23)
theorem lcX0_putUp : Lc mX0_putUp 4 := ⟨tbz_tb (tk3 (List.mem_of_getElem? (i := 239) rfl)) rfl, tbz_tb (tk1 (List.mem_of_getElem? (i := 7) rfl)) rfl, by decide, by decide, by decide +kernel⟩
theorem imX0_putUp : Cond.instanceMethod yX0_putUp ∈ tbz := tbz_tb (tk3 (List.mem_of_getElem? (i := 237) rfl)) rfl
theorem seX0_putUp : Cond.selects yX0_putUp.cls yX0_putUp yX0_putUp ∈ tbz := tbz_tb (tk3 (List.mem_of_getElem? (i := 238) rfl)) rfl
abbrev mX0_sumWithLot : Mi := (yX0_sumWithLot, cX0_sumWithLot, 5, some .int, 0, 0)
theorem lcX0_sumWithLot : Lc mX0_sumWithLot 3 := ⟨tbz_tb (tk4 (List.mem_of_getElem? (i := 49) rfl)) rfl, tbz_tb (tk1 (List.mem_of_getElem? (i := 7) rfl)) rfl, by decide, by decide, by decide +kernel⟩
theorem imX0_sumWithLot : Cond.instanceMethod yX0_sumWithLot ∈ tbz := tbz_tb (tk4 (List.mem_of_getElem? (i := 48) rfl)) rfl
theorem seX0_sumWithLot : Cond.selects yX0_sumWithLot.cls yX0_sumWithLot yX0_sumWithLot ∈ tbz := tp1 (q := (yX0_sumWithLot, _)) (List.mem_of_getElem? (i := 8) rfl)
abbrev mX1_init : Mi := (yX1_init, cX1_init, 1, none, 1, 20)
theorem lcX1_init : Lc mX1_init 0 := ⟨tbz_tb (tk1 (List.mem_of_getElem? (i := 30) rfl)) rfl, tbz_tb (tk1 (List.mem_of_getElem? (i := 2) rfl)) rfl, by decide, by decide, by decide +kernel⟩
theorem imX1_init : Cond.instanceMethod yX1_init ∈ tbz := tbz_tb (tk1 (List.mem_of_getElem? (i := 29) rfl)) rfl
abbrev mX1_addBench : Mi := (yX1_addBench, cX1_addBench, 5, some .int, 3, 83)
theorem lcX1_addBench : Lc mX1_addBench 4 := ⟨tbz_tb (tk2 (List.mem_of_getElem? (i := 188) rfl)) rfl, tbz_tb (tk1 (List.mem_of_getElem? (i := 2) rfl)) rfl, by decide, by decide, by decide +kernel⟩
theorem imX1_addBench : Cond.instanceMethod yX1_addBench ∈ tbz := tbz_tb (tk2 (List.mem_of_getElem? (i := 186) rfl)) rfl
theorem seX1_addBench : Cond.selects yX1_addBench.cls yX1_addBench yX1_addBench ∈ tbz := tbz_tb (tk2 (List.mem_of_getElem? (i := 187) rfl)) rfl
abbrev mX1_addPillar : Mi := (yX1_addPillar, cX1_addPillar, 4, some .int, 4, 104)
theorem lcX1_addPillar : Lc mX1_addPillar 3 := ⟨tbz_tb (tk2 (List.mem_of_getElem? (i := 180) rfl)) rfl, tbz_tb (tk1 (List.mem_of_getElem? (i := 2) rfl)) rfl, by decide, by decide, by decide +kernel⟩
theorem imX1_addPillar : Cond.instanceMethod yX1_addPillar ∈ tbz := tbz_tb (tk2 (List.mem_of_getElem? (i := 178) rfl)) rfl
theorem seX1_addPillar : Cond.selects yX1_addPillar.cls yX1_addPillar yX1_addPillar ∈ tbz := tbz_tb (tk2 (List.mem_of_getElem? (i := 179) rfl)) rfl
abbrev mX1_hasRun : Mi := (yX1_hasRun, cX1_hasRun, 4, some .boolean, 1, 22)
theorem lcX1_hasRun : Lc mX1_hasRun 3 := ⟨tbz_tb (tk3 (List.mem_of_getElem? (i := 161) rfl)) rfl, tbz_tb (tk1 (List.mem_of_getElem? (i := 2) rfl)) rfl, by decide, by decide, by decide +kernel⟩
theorem imX1_hasRun : Cond.instanceMethod yX1_hasRun ∈ tbz := tbz_tb (tk3 (List.mem_of_getElem? (i := 159) rfl)) rfl
theorem seX1_hasRun : Cond.selects yX1_hasRun.cls yX1_hasRun yX1_hasRun ∈ tbz := tbz_tb (tk3 (List.mem_of_getElem? (i := 160) rfl)) rfl
abbrev mX1_hasUnit : Mi := (yX1_hasUnit, cX1_hasUnit, 3, some .boolean, 0, 0)
theorem lcX1_hasUnit : Lc mX1_hasUnit 2 := ⟨tbz_tb (tk3 (List.mem_of_getElem? (i := 165) rfl)) rfl, tbz_tb (tk1 (List.mem_of_getElem? (i := 2) rfl)) rfl, by decide, by decide, by decide +kernel⟩
theorem imX1_hasUnit : Cond.instanceMethod yX1_hasUnit ∈ tbz := tbz_tb (tk3 (List.mem_of_getElem? (i := 163) rfl)) rfl
theorem seX1_hasUnit : Cond.selects yX1_hasUnit.cls yX1_hasUnit yX1_hasUnit ∈ tbz := tbz_tb (tk3 (List.mem_of_getElem? (i := 164) rfl)) rfl
abbrev mX1_heardAt : Mi := (yX1_heardAt, cX1_heardAt, 8, some .int, 0, 0)
theorem lcX1_heardAt : Lc mX1_heardAt 4 := ⟨tbz_tb (tk2 (List.mem_of_getElem? (i := 168) rfl)) rfl, tbz_tb (tk1 (List.mem_of_getElem? (i := 2) rfl)) rfl, by decide, by decide, by decide +kernel⟩
theorem imX1_heardAt : Cond.instanceMethod yX1_heardAt ∈ tbz := tbz_tb (tk2 (List.mem_of_getElem? (i := 167) rfl)) rfl
theorem seX1_heardAt : Cond.selects yX1_heardAt.cls yX1_heardAt yX1_heardAt ∈ tbz := tp1 (q := (yX1_heardAt, _)) (List.mem_of_getElem? (i := 4) rfl)
abbrev mX1_isInWay : Mi := (yX1_isInWay, cX1_isInWay, 14, some .boolean, 1, 24)
theorem lcX1_isInWay : Lc mX1_isInWay 3 := ⟨tbz_tb (tk2 (List.mem_of_getElem? (i := 154) rfl)) rfl, tbz_tb (tk1 (List.mem_of_getElem? (i := 2) rfl)) rfl, by decide, by decide, by decide +kernel⟩
theorem imX1_isInWay : Cond.instanceMethod yX1_isInWay ∈ tbz := tbz_tb (tk2 (List.mem_of_getElem? (i := 153) rfl)) rfl
theorem seX1_isInWay : Cond.selects yX1_isInWay.cls yX1_isInWay yX1_isInWay ∈ tbz := tp1 (q := (yX1_isInWay, _)) (List.mem_of_getElem? (i := 2) rfl)
abbrev mX1_isUnitSpot : Mi := (yX1_isUnitSpot, cX1_isUnitSpot, 2, some .boolean, 1, 22)
theorem lcX1_isUnitSpot : Lc mX1_isUnitSpot 1 := ⟨tbz_tb (tk4 (List.mem_of_getElem? (i := 187) rfl)) rfl, tbz_tb (tk1 (List.mem_of_getElem? (i := 2) rfl)) rfl, by decide, by decide, by decide +kernel⟩
theorem imX1_isUnitSpot : Cond.instanceMethod yX1_isUnitSpot ∈ tbz := tbz_tb (tk4 (List.mem_of_getElem? (i := 185) rfl)) rfl
theorem seX1_isUnitSpot : Cond.selects yX1_isUnitSpot.cls yX1_isUnitSpot yX1_isUnitSpot ∈ tbz := tbz_tb (tk4 (List.mem_of_getElem? (i := 186) rfl)) rfl
abbrev mX1_measureAll : Mi := (yX1_measureAll, cX1_measureAll, 2, none, 3, 83)
theorem lcX1_measureAll : Lc mX1_measureAll 0 := ⟨tbz_tb (tk2 (List.mem_of_getElem? (i := 146) rfl)) rfl, tbz_tb (tk1 (List.mem_of_getElem? (i := 2) rfl)) rfl, by decide, by decide, by decide +kernel⟩
theorem imX1_measureAll : Cond.instanceMethod yX1_measureAll ∈ tbz := tbz_tb (tk2 (List.mem_of_getElem? (i := 145) rfl)) rfl
theorem seX1_measureAll : Cond.selects yX1_measureAll.cls yX1_measureAll yX1_measureAll ∈ tbz := tp1 (q := (yX1_measureAll, _)) (List.mem_of_getElem? (i := 0) rfl)
abbrev mX1_measureBench : Mi := (yX1_measureBench, cX1_measureBench, 7, none, 2, 57)
theorem lcX1_measureBench : Lc mX1_measureBench 1 := ⟨tbz_tb (tk2 (List.mem_of_getElem? (i := 150) rfl)) rfl, tbz_tb (tk1 (List.mem_of_getElem? (i := 2) rfl)) rfl, by decide, by decide, by decide +kernel⟩
theorem imX1_measureBench : Cond.instanceMethod yX1_measureBench ∈ tbz := tbz_tb (tk2 (List.mem_of_getElem? (i := 149) rfl)) rfl
theorem seX1_measureBench : Cond.selects yX1_measureBench.cls yX1_measureBench yX1_measureBench ∈ tbz := tp1 (q := (yX1_measureBench, _)) (List.mem_of_getElem? (i := 1) rfl)
abbrev mX1_sideOf : Mi := (yX1_sideOf, cX1_sideOf, 5, some .int, 0, 0)
theorem lcX1_sideOf : Lc mX1_sideOf 4 := ⟨tbz_tb (tk2 (List.mem_of_getElem? (i := 164) rfl)) rfl, tbz_tb (tk1 (List.mem_of_getElem? (i := 2) rfl)) rfl, by decide, by decide, by decide +kernel⟩
theorem imX1_sideOf : Cond.instanceMethod yX1_sideOf ∈ tbz := tbz_tb (tk2 (List.mem_of_getElem? (i := 163) rfl)) rfl
theorem seX1_sideOf : Cond.selects yX1_sideOf.cls yX1_sideOf yX1_sideOf ∈ tbz := tp1 (q := (yX1_sideOf, _)) (List.mem_of_getElem? (i := 3) rfl)
abbrev mX1_spotsEnd : Mi := (yX1_spotsEnd, cX1_spotsEnd, 1, some .int, 0, 0)
theorem lcX1_spotsEnd : Lc mX1_spotsEnd 0 := ⟨tbz_tb (tk4 (List.mem_of_getElem? (i := 183) rfl)) rfl, tbz_tb (tk1 (List.mem_of_getElem? (i := 2) rfl)) rfl, by decide, by decide, by decide +kernel⟩
theorem imX1_spotsEnd : Cond.instanceMethod yX1_spotsEnd ∈ tbz := tbz_tb (tk4 (List.mem_of_getElem? (i := 181) rfl)) rfl
theorem seX1_spotsEnd : Cond.selects yX1_spotsEnd.cls yX1_spotsEnd yX1_spotsEnd ∈ tbz := tbz_tb (tk4 (List.mem_of_getElem? (i := 182) rfl)) rfl
abbrev mX1_standPulpit : Mi := (yX1_standPulpit, cX1_standPulpit, 4, none, 4, 104)
theorem lcX1_standPulpit : Lc mX1_standPulpit 3 := ⟨tbz_tb (tk2 (List.mem_of_getElem? (i := 142) rfl)) rfl, tbz_tb (tk1 (List.mem_of_getElem? (i := 2) rfl)) rfl, by decide, by decide, by decide +kernel⟩
theorem imX1_standPulpit : Cond.instanceMethod yX1_standPulpit ∈ tbz := tbz_tb (tk2 (List.mem_of_getElem? (i := 140) rfl)) rfl
theorem seX1_standPulpit : Cond.selects yX1_standPulpit.cls yX1_standPulpit yX1_standPulpit ∈ tbz := tbz_tb (tk2 (List.mem_of_getElem? (i := 141) rfl)) rfl
abbrev mX1_worthOf : Mi := (yX1_worthOf, cX1_worthOf, 7, some .int, 2, 45)
theorem lcX1_worthOf : Lc mX1_worthOf 3 := ⟨tbz_tb (tk3 (List.mem_of_getElem? (i := 197) rfl)) rfl, tbz_tb (tk1 (List.mem_of_getElem? (i := 2) rfl)) rfl, by decide, by decide, by decide +kernel⟩
theorem imX1_worthOf : Cond.instanceMethod yX1_worthOf ∈ tbz := tbz_tb (tk3 (List.mem_of_getElem? (i := 195) rfl)) rfl
theorem seX1_worthOf : Cond.selects yX1_worthOf.cls yX1_worthOf yX1_worthOf ∈ tbz := tbz_tb (tk3 (List.mem_of_getElem? (i := 196) rfl)) rfl
abbrev mX2_init : Mi := (yX2_init, cX2_init, 4, none, 1, 20)
theorem lcX2_init : Lc mX2_init 3 := ⟨tbz_tb (tk2 (List.mem_of_getElem? (i := 203) rfl)) rfl, tbz_tb (tk1 (List.mem_of_getElem? (i := 14) rfl)) rfl, by decide, by decide, by decide +kernel⟩
theorem imX2_init : Cond.instanceMethod yX2_init ∈ tbz := tbz_tb (tk2 (List.mem_of_getElem? (i := 202) rfl)) rfl
abbrev mX3_init : Mi := (yX3_init, cX3_init, 1, none, 1, 23)
theorem lcX3_init : Lc mX3_init 0 := ⟨tbz_tb (tk1 (List.mem_of_getElem? (i := 106) rfl)) rfl, tbz_tb (tk1 (List.mem_of_getElem? (i := 4) rfl)) rfl, by decide, by decide, by decide +kernel⟩
theorem imX3_init : Cond.instanceMethod yX3_init ∈ tbz := tbz_tb (tk1 (List.mem_of_getElem? (i := 105) rfl)) rfl
abbrev mX3_bestFor : Mi := (yX3_bestFor, cX3_bestFor, 11, some .int, 4, 87)
theorem lcX3_bestFor : Lc mX3_bestFor 5 := ⟨tbz_tb (tk3 (List.mem_of_getElem? (i := 210) rfl)) rfl, tbz_tb (tk1 (List.mem_of_getElem? (i := 4) rfl)) rfl, by decide, by decide, by decide +kernel⟩
theorem imX3_bestFor : Cond.instanceMethod yX3_bestFor ∈ tbz := tbz_tb (tk3 (List.mem_of_getElem? (i := 208) rfl)) rfl
theorem seX3_bestFor : Cond.selects yX3_bestFor.cls yX3_bestFor yX3_bestFor ∈ tbz := tbz_tb (tk3 (List.mem_of_getElem? (i := 209) rfl)) rfl
abbrev mX3_enter : Mi := (yX3_enter, cX3_enter, 2, some .int, 0, 0)
theorem lcX3_enter : Lc mX3_enter 1 := ⟨tbz_tb (tk3 (List.mem_of_getElem? (i := 108) rfl)) rfl, tbz_tb (tk1 (List.mem_of_getElem? (i := 4) rfl)) rfl, by decide, by decide, by decide +kernel⟩
theorem imX3_enter : Cond.instanceMethod yX3_enter ∈ tbz := tbz_tb (tk3 (List.mem_of_getElem? (i := 106) rfl)) rfl
theorem seX3_enter : Cond.selects yX3_enter.cls yX3_enter yX3_enter ∈ tbz := tbz_tb (tk3 (List.mem_of_getElem? (i := 107) rfl)) rfl
abbrev mX3_fillOwners : Mi := (yX3_fillOwners, cX3_fillOwners, 5, none, 4, 87)
theorem lcX3_fillOwners : Lc mX3_fillOwners 2 := ⟨tbz_tb (tk4 (List.mem_of_getElem? (i := 154) rfl)) rfl, tbz_tb (tk1 (List.mem_of_getElem? (i := 4) rfl)) rfl, by decide, by decide, by decide +kernel⟩
theorem imX3_fillOwners : Cond.instanceMethod yX3_fillOwners ∈ tbz := tbz_tb (tk4 (List.mem_of_getElem? (i := 152) rfl)) rfl
theorem seX3_fillOwners : Cond.selects yX3_fillOwners.cls yX3_fillOwners yX3_fillOwners ∈ tbz := tbz_tb (tk4 (List.mem_of_getElem? (i := 153) rfl)) rfl
abbrev mX3_find : Mi := (yX3_find, cX3_find, 2, some (.object "PewRank$Right"), 0, 0)
theorem lcX3_find : Lc mX3_find 1 := ⟨tbz_tb (tk3 (List.mem_of_getElem? (i := 23) rfl)) rfl, tbz_tb (tk1 (List.mem_of_getElem? (i := 4) rfl)) rfl, by decide, by decide, by decide +kernel⟩
theorem imX3_find : Cond.instanceMethod yX3_find ∈ tbz := tbz_tb (tk3 (List.mem_of_getElem? (i := 21) rfl)) rfl
theorem seX3_find : Cond.selects yX3_find.cls yX3_find yX3_find ∈ tbz := tbz_tb (tk3 (List.mem_of_getElem? (i := 22) rfl)) rfl
abbrev mX3_givePlot : Mi := (yX3_givePlot, cX3_givePlot, 5, none, 2, 54)
theorem lcX3_givePlot : Lc mX3_givePlot 3 := ⟨tbz_tb (tk3 (List.mem_of_getElem? (i := 127) rfl)) rfl, tbz_tb (tk1 (List.mem_of_getElem? (i := 4) rfl)) rfl, by decide, by decide, by decide +kernel⟩
theorem imX3_givePlot : Cond.instanceMethod yX3_givePlot ∈ tbz := tbz_tb (tk3 (List.mem_of_getElem? (i := 125) rfl)) rfl
theorem seX3_givePlot : Cond.selects yX3_givePlot.cls yX3_givePlot yX3_givePlot ∈ tbz := tbz_tb (tk3 (List.mem_of_getElem? (i := 126) rfl)) rfl
abbrev mX3_heldBy : Mi := (yX3_heldBy, cX3_heldBy, 6, some .int, 4, 87)
theorem lcX3_heldBy : Lc mX3_heldBy 2 := ⟨tbz_tb (tk5 (List.mem_of_getElem? (i := 85) rfl)) rfl, tbz_tb (tk1 (List.mem_of_getElem? (i := 4) rfl)) rfl, by decide, by decide, by decide +kernel⟩
theorem imX3_heldBy : Cond.instanceMethod yX3_heldBy ∈ tbz := tbz_tb (tk5 (List.mem_of_getElem? (i := 83) rfl)) rfl
theorem seX3_heldBy : Cond.selects yX3_heldBy.cls yX3_heldBy yX3_heldBy ∈ tbz := tbz_tb (tk5 (List.mem_of_getElem? (i := 84) rfl)) rfl
abbrev mX3_heritableOf : Mi := (yX3_heritableOf, cX3_heritableOf, 6, some .int, 1, 22)
theorem lcX3_heritableOf : Lc mX3_heritableOf 2 := ⟨tbz_tb (tk3 (List.mem_of_getElem? (i := 19) rfl)) rfl, tbz_tb (tk1 (List.mem_of_getElem? (i := 4) rfl)) rfl, by decide, by decide, by decide +kernel⟩
theorem imX3_heritableOf : Cond.instanceMethod yX3_heritableOf ∈ tbz := tbz_tb (tk3 (List.mem_of_getElem? (i := 17) rfl)) rfl
theorem seX3_heritableOf : Cond.selects yX3_heritableOf.cls yX3_heritableOf yX3_heritableOf ∈ tbz := tbz_tb (tk3 (List.mem_of_getElem? (i := 18) rfl)) rfl
abbrev mX3_holderOf : Mi := (yX3_holderOf, cX3_holderOf, 4, some .int, 3, 64)
theorem lcX3_holderOf : Lc mX3_holderOf 2 := ⟨tbz_tb (tk3 (List.mem_of_getElem? (i := 222) rfl)) rfl, tbz_tb (tk1 (List.mem_of_getElem? (i := 4) rfl)) rfl, by decide, by decide, by decide +kernel⟩
theorem imX3_holderOf : Cond.instanceMethod yX3_holderOf ∈ tbz := tbz_tb (tk3 (List.mem_of_getElem? (i := 220) rfl)) rfl
theorem seX3_holderOf : Cond.selects yX3_holderOf.cls yX3_holderOf yX3_holderOf ∈ tbz := tbz_tb (tk3 (List.mem_of_getElem? (i := 221) rfl)) rfl
abbrev mX3_inherited : Mi := (yX3_inherited, cX3_inherited, 5, some (.object "PewRank$Right"), 2, 45)
theorem lcX3_inherited : Lc mX3_inherited 4 := ⟨tbz_tb (tk3 (List.mem_of_getElem? (i := 42) rfl)) rfl, tbz_tb (tk1 (List.mem_of_getElem? (i := 4) rfl)) rfl, by decide, by decide, by decide +kernel⟩
theorem sxX3_inherited : Cond.static yX3_inherited ∈ tbz := tbz_tb (tk3 (List.mem_of_getElem? (i := 41) rfl)) rfl
abbrev mX3_isPlot : Mi := (yX3_isPlot, cX3_isPlot, 2, some .boolean, 0, 0)
theorem lcX3_isPlot : Lc mX3_isPlot 1 := ⟨tbz_tb (tk3 (List.mem_of_getElem? (i := 120) rfl)) rfl, tbz_tb (tk1 (List.mem_of_getElem? (i := 4) rfl)) rfl, by decide, by decide, by decide +kernel⟩
theorem imX3_isPlot : Cond.instanceMethod yX3_isPlot ∈ tbz := tbz_tb (tk3 (List.mem_of_getElem? (i := 118) rfl)) rfl
theorem seX3_isPlot : Cond.selects yX3_isPlot.cls yX3_isPlot yX3_isPlot ∈ tbz := tbz_tb (tk3 (List.mem_of_getElem? (i := 119) rfl)) rfl
abbrev mX3_markBest : Mi := (yX3_markBest, cX3_markBest, 6, none, 1, 21)
theorem lcX3_markBest : Lc mX3_markBest 2 := ⟨tbz_tb (tk4 (List.mem_of_getElem? (i := 158) rfl)) rfl, tbz_tb (tk1 (List.mem_of_getElem? (i := 4) rfl)) rfl, by decide, by decide, by decide +kernel⟩
theorem imX3_markBest : Cond.instanceMethod yX3_markBest ∈ tbz := tbz_tb (tk4 (List.mem_of_getElem? (i := 157) rfl)) rfl
theorem seX3_markBest : Cond.selects yX3_markBest.cls yX3_markBest yX3_markBest ∈ tbz := tp2 (q := (yX3_markBest, _)) (List.mem_of_getElem? (i := 5) rfl)
abbrev mX3_numbersLeft : Mi := (yX3_numbersLeft, cX3_numbersLeft, 1, some .int, 0, 0)
theorem lcX3_numbersLeft : Lc mX3_numbersLeft 0 := ⟨tbz_tb (tk3 (List.mem_of_getElem? (i := 31) rfl)) rfl, tbz_tb (tk1 (List.mem_of_getElem? (i := 4) rfl)) rfl, by decide, by decide, by decide +kernel⟩
theorem imX3_numbersLeft : Cond.instanceMethod yX3_numbersLeft ∈ tbz := tbz_tb (tk3 (List.mem_of_getElem? (i := 29) rfl)) rfl
theorem seX3_numbersLeft : Cond.selects yX3_numbersLeft.cls yX3_numbersLeft yX3_numbersLeft ∈ tbz := tbz_tb (tk3 (List.mem_of_getElem? (i := 30) rfl)) rfl
abbrev mX3_passPlots : Mi := (yX3_passPlots, cX3_passPlots, 5, none, 3, 78)
theorem lcX3_passPlots : Lc mX3_passPlots 3 := ⟨tbz_tb (tk3 (List.mem_of_getElem? (i := 112) rfl)) rfl, tbz_tb (tk1 (List.mem_of_getElem? (i := 4) rfl)) rfl, by decide, by decide, by decide +kernel⟩
theorem imX3_passPlots : Cond.instanceMethod yX3_passPlots ∈ tbz := tbz_tb (tk3 (List.mem_of_getElem? (i := 110) rfl)) rfl
theorem seX3_passPlots : Cond.selects yX3_passPlots.cls yX3_passPlots yX3_passPlots ∈ tbz := tbz_tb (tk3 (List.mem_of_getElem? (i := 111) rfl)) rfl
abbrev mX3_passRights : Mi := (yX3_passRights, cX3_passRights, 8, none, 3, 69)
theorem lcX3_passRights : Lc mX3_passRights 3 := ⟨tbz_tb (tk3 (List.mem_of_getElem? (i := 35) rfl)) rfl, tbz_tb (tk1 (List.mem_of_getElem? (i := 4) rfl)) rfl, by decide, by decide, by decide +kernel⟩
theorem imX3_passRights : Cond.instanceMethod yX3_passRights ∈ tbz := tbz_tb (tk3 (List.mem_of_getElem? (i := 33) rfl)) rfl
theorem seX3_passRights : Cond.selects yX3_passRights.cls yX3_passRights yX3_passRights ∈ tbz := tbz_tb (tk3 (List.mem_of_getElem? (i := 34) rfl)) rfl
abbrev mX3_plotOwner : Mi := (yX3_plotOwner, cX3_plotOwner, 3, some .int, 2, 42)
theorem lcX3_plotOwner : Lc mX3_plotOwner 2 := ⟨tbz_tb (tk3 (List.mem_of_getElem? (i := 116) rfl)) rfl, tbz_tb (tk1 (List.mem_of_getElem? (i := 4) rfl)) rfl, by decide, by decide, by decide +kernel⟩
theorem imX3_plotOwner : Cond.instanceMethod yX3_plotOwner ∈ tbz := tbz_tb (tk3 (List.mem_of_getElem? (i := 114) rfl)) rfl
theorem seX3_plotOwner : Cond.selects yX3_plotOwner.cls yX3_plotOwner yX3_plotOwner ∈ tbz := tbz_tb (tk3 (List.mem_of_getElem? (i := 115) rfl)) rfl
abbrev mX4_init : Mi := (yX4_init, cX4_init, 1, none, 1, 20)
theorem lcX4_init : Lc mX4_init 0 := ⟨tbz_tb (tk1 (List.mem_of_getElem? (i := 90) rfl)) rfl, tbz_tb (tk1 (List.mem_of_getElem? (i := 3) rfl)) rfl, by decide, by decide, by decide +kernel⟩
theorem imX4_init : Cond.instanceMethod yX4_init ∈ tbz := tbz_tb (tk1 (List.mem_of_getElem? (i := 89) rfl)) rfl
abbrev mX4_addHousehold : Mi := (yX4_addHousehold, cX4_addHousehold, 4, some .int, 2, 43)
theorem lcX4_addHousehold : Lc mX4_addHousehold 3 := ⟨tbz_tb (tk2 (List.mem_of_getElem? (i := 199) rfl)) rfl, tbz_tb (tk1 (List.mem_of_getElem? (i := 3) rfl)) rfl, by decide, by decide, by decide +kernel⟩
theorem imX4_addHousehold : Cond.instanceMethod yX4_addHousehold ∈ tbz := tbz_tb (tk2 (List.mem_of_getElem? (i := 197) rfl)) rfl
theorem seX4_addHousehold : Cond.selects yX4_addHousehold.cls yX4_addHousehold yX4_addHousehold ∈ tbz := tbz_tb (tk2 (List.mem_of_getElem? (i := 198) rfl)) rfl
abbrev mX4_fillOrder : Mi := (yX4_fillOrder, cX4_fillOrder, 6, some .int, 3, 64)
theorem lcX4_fillOrder : Lc mX4_fillOrder 1 := ⟨tbz_tb (tk4 (List.mem_of_getElem? (i := 234) rfl)) rfl, tbz_tb (tk1 (List.mem_of_getElem? (i := 3) rfl)) rfl, by decide, by decide, by decide +kernel⟩
theorem imX4_fillOrder : Cond.instanceMethod yX4_fillOrder ∈ tbz := tbz_tb (tk4 (List.mem_of_getElem? (i := 232) rfl)) rfl
theorem seX4_fillOrder : Cond.selects yX4_fillOrder.cls yX4_fillOrder yX4_fillOrder ∈ tbz := tbz_tb (tk4 (List.mem_of_getElem? (i := 233) rfl)) rfl
abbrev mX4_find : Mi := (yX4_find, cX4_find, 2, some (.object "PewRank$Household"), 1, 21)
theorem lcX4_find : Lc mX4_find 1 := ⟨tbz_tb (tk3 (List.mem_of_getElem? (i := 2) rfl)) rfl, tbz_tb (tk1 (List.mem_of_getElem? (i := 3) rfl)) rfl, by decide, by decide, by decide +kernel⟩
theorem imX4_find : Cond.instanceMethod yX4_find ∈ tbz := tbz_tb (tk3 (List.mem_of_getElem? (i := 0) rfl)) rfl
theorem seX4_find : Cond.selects yX4_find.cls yX4_find yX4_find ∈ tbz := tbz_tb (tk3 (List.mem_of_getElem? (i := 1) rfl)) rfl
abbrev mX4_isHousehold : Mi := (yX4_isHousehold, cX4_isHousehold, 2, some .boolean, 0, 0)
theorem lcX4_isHousehold : Lc mX4_isHousehold 1 := ⟨tbz_tb (tk3 (List.mem_of_getElem? (i := 6) rfl)) rfl, tbz_tb (tk1 (List.mem_of_getElem? (i := 3) rfl)) rfl, by decide, by decide, by decide +kernel⟩
theorem imX4_isHousehold : Cond.instanceMethod yX4_isHousehold ∈ tbz := tbz_tb (tk3 (List.mem_of_getElem? (i := 4) rfl)) rfl
theorem seX4_isHousehold : Cond.selects yX4_isHousehold.cls yX4_isHousehold yX4_isHousehold ∈ tbz := tbz_tb (tk3 (List.mem_of_getElem? (i := 5) rfl)) rfl
abbrev mX4_isStaying : Mi := (yX4_isStaying, cX4_isStaying, 3, some .boolean, 2, 42)
theorem lcX4_isStaying : Lc mX4_isStaying 1 := ⟨tbz_tb (tk3 (List.mem_of_getElem? (i := 14) rfl)) rfl, tbz_tb (tk1 (List.mem_of_getElem? (i := 3) rfl)) rfl, by decide, by decide, by decide +kernel⟩
theorem imX4_isStaying : Cond.instanceMethod yX4_isStaying ∈ tbz := tbz_tb (tk3 (List.mem_of_getElem? (i := 12) rfl)) rfl
theorem seX4_isStaying : Cond.selects yX4_isStaying.cls yX4_isStaying yX4_isStaying ∈ tbz := tbz_tb (tk3 (List.mem_of_getElem? (i := 13) rfl)) rfl
abbrev mX4_noteYear : Mi := (yX4_noteYear, cX4_noteYear, 4, none, 2, 42)
theorem lcX4_noteYear : Lc mX4_noteYear 2 := ⟨tbz_tb (tk5 (List.mem_of_getElem? (i := 42) rfl)) rfl, tbz_tb (tk1 (List.mem_of_getElem? (i := 3) rfl)) rfl, by decide, by decide, by decide +kernel⟩
theorem imX4_noteYear : Cond.instanceMethod yX4_noteYear ∈ tbz := tbz_tb (tk5 (List.mem_of_getElem? (i := 40) rfl)) rfl
theorem seX4_noteYear : Cond.selects yX4_noteYear.cls yX4_noteYear yX4_noteYear ∈ tbz := tbz_tb (tk5 (List.mem_of_getElem? (i := 41) rfl)) rfl
abbrev mX4_rankOf : Mi := (yX4_rankOf, cX4_rankOf, 3, some .int, 2, 42)
theorem lcX4_rankOf : Lc mX4_rankOf 1 := ⟨tbz_tb (tk4 (List.mem_of_getElem? (i := 238) rfl)) rfl, tbz_tb (tk1 (List.mem_of_getElem? (i := 3) rfl)) rfl, by decide, by decide, by decide +kernel⟩
theorem imX4_rankOf : Cond.instanceMethod yX4_rankOf ∈ tbz := tbz_tb (tk4 (List.mem_of_getElem? (i := 237) rfl)) rfl
theorem seX4_rankOf : Cond.selects yX4_rankOf.cls yX4_rankOf yX4_rankOf ∈ tbz := tp2 (q := (yX4_rankOf, _)) (List.mem_of_getElem? (i := 13) rfl)
abbrev mX4_staying : Mi := (yX4_staying, cX4_staying, 3, some .int, 3, 64)
theorem lcX4_staying : Lc mX4_staying 0 := ⟨tbz_tb (tk5 (List.mem_of_getElem? (i := 106) rfl)) rfl, tbz_tb (tk1 (List.mem_of_getElem? (i := 3) rfl)) rfl, by decide, by decide, by decide +kernel⟩
theorem imX4_staying : Cond.instanceMethod yX4_staying ∈ tbz := tbz_tb (tk5 (List.mem_of_getElem? (i := 104) rfl)) rfl
theorem seX4_staying : Cond.selects yX4_staying.cls yX4_staying yX4_staying ∈ tbz := tbz_tb (tk5 (List.mem_of_getElem? (i := 105) rfl)) rfl
abbrev mX4_worthOfAll : Mi := (yX4_worthOfAll, cX4_worthOfAll, 6, some .long, 2, 42)
theorem lcX4_worthOfAll : Lc mX4_worthOfAll 1 := ⟨tbz_tb (tk5 (List.mem_of_getElem? (i := 71) rfl)) rfl, tbz_tb (tk1 (List.mem_of_getElem? (i := 3) rfl)) rfl, by decide, by decide, by decide +kernel⟩
theorem imX4_worthOfAll : Cond.instanceMethod yX4_worthOfAll ∈ tbz := tbz_tb (tk5 (List.mem_of_getElem? (i := 69) rfl)) rfl
theorem seX4_worthOfAll : Cond.selects yX4_worthOfAll.cls yX4_worthOfAll yX4_worthOfAll ∈ tbz := tbz_tb (tk5 (List.mem_of_getElem? (i := 70) rfl)) rfl
abbrev mX5_init : Mi := (yX5_init, cX5_init, 6, none, 1, 20)
theorem lcX5_init : Lc mX5_init 5 := ⟨tbz_tb (tk3 (List.mem_of_getElem? (i := 46) rfl)) rfl, tbz_tb (tk1 (List.mem_of_getElem? (i := 15) rfl)) rfl, by decide, by decide, by decide +kernel⟩
theorem imX5_init : Cond.instanceMethod yX5_init ∈ tbz := tbz_tb (tk3 (List.mem_of_getElem? (i := 45) rfl)) rfl
abbrev mX5_detail : Mi := (yX5_detail, cX5_detail, 2, some .int, 0, 0)
theorem lcX5_detail : Lc mX5_detail 1 := ⟨tbz_tb (tk3 (List.mem_of_getElem? (i := 184) rfl)) rfl, tbz_tb (tk1 (List.mem_of_getElem? (i := 15) rfl)) rfl, by decide, by decide, by decide +kernel⟩
theorem imX5_detail : Cond.instanceMethod yX5_detail ∈ tbz := tbz_tb (tk3 (List.mem_of_getElem? (i := 182) rfl)) rfl
theorem seX5_detail : Cond.selects yX5_detail.cls yX5_detail yX5_detail ∈ tbz := tbz_tb (tk3 (List.mem_of_getElem? (i := 183) rfl)) rfl
abbrev mX5_endAhead : Mi := (yX5_endAhead, cX5_endAhead, 2, none, 0, 0)
theorem lcX5_endAhead : Lc mX5_endAhead 1 := ⟨tbz_tb (tk3 (List.mem_of_getElem? (i := 39) rfl)) rfl, tbz_tb (tk1 (List.mem_of_getElem? (i := 15) rfl)) rfl, by decide, by decide, by decide +kernel⟩
theorem imX5_endAhead : Cond.instanceMethod yX5_endAhead ∈ tbz := tbz_tb (tk3 (List.mem_of_getElem? (i := 37) rfl)) rfl
theorem seX5_endAhead : Cond.selects yX5_endAhead.cls yX5_endAhead yX5_endAhead ∈ tbz := tbz_tb (tk3 (List.mem_of_getElem? (i := 38) rfl)) rfl
abbrev mX5_isBetterThan : Mi := (yX5_isBetterThan, cX5_isBetterThan, 2, some .boolean, 0, 0)
theorem lcX5_isBetterThan : Lc mX5_isBetterThan 1 := ⟨tbz_tb (tk3 (List.mem_of_getElem? (i := 226) rfl)) rfl, tbz_tb (tk1 (List.mem_of_getElem? (i := 15) rfl)) rfl, by decide, by decide, by decide +kernel⟩
theorem imX5_isBetterThan : Cond.instanceMethod yX5_isBetterThan ∈ tbz := tbz_tb (tk3 (List.mem_of_getElem? (i := 224) rfl)) rfl
theorem seX5_isBetterThan : Cond.selects yX5_isBetterThan.cls yX5_isBetterThan yX5_isBetterThan ∈ tbz := tbz_tb (tk3 (List.mem_of_getElem? (i := 225) rfl)) rfl
abbrev mX5_isFor : Mi := (yX5_isFor, cX5_isFor, 4, some .boolean, 0, 0)
theorem lcX5_isFor : Lc mX5_isFor 2 := ⟨tbz_tb (tk3 (List.mem_of_getElem? (i := 218) rfl)) rfl, tbz_tb (tk1 (List.mem_of_getElem? (i := 15) rfl)) rfl, by decide, by decide, by decide +kernel⟩
theorem imX5_isFor : Cond.instanceMethod yX5_isFor ∈ tbz := tbz_tb (tk3 (List.mem_of_getElem? (i := 216) rfl)) rfl
theorem seX5_isFor : Cond.selects yX5_isFor.cls yX5_isFor yX5_isFor ∈ tbz := tbz_tb (tk3 (List.mem_of_getElem? (i := 217) rfl)) rfl
abbrev mX5_isOn : Mi := (yX5_isOn, cX5_isOn, 3, some .boolean, 0, 0)
theorem lcX5_isOn : Lc mX5_isOn 2 := ⟨tbz_tb (tk3 (List.mem_of_getElem? (i := 214) rfl)) rfl, tbz_tb (tk1 (List.mem_of_getElem? (i := 15) rfl)) rfl, by decide, by decide, by decide +kernel⟩
theorem imX5_isOn : Cond.instanceMethod yX5_isOn ∈ tbz := tbz_tb (tk3 (List.mem_of_getElem? (i := 212) rfl)) rfl
theorem seX5_isOn : Cond.selects yX5_isOn.cls yX5_isOn yX5_isOn ∈ tbz := tbz_tb (tk3 (List.mem_of_getElem? (i := 213) rfl)) rfl
abbrev mX5_isStillHeldBy : Mi := (yX5_isStillHeldBy, cX5_isStillHeldBy, 3, some .boolean, 0, 0)
theorem lcX5_isStillHeldBy : Lc mX5_isStillHeldBy 2 := ⟨tbz_tb (tk3 (List.mem_of_getElem? (i := 27) rfl)) rfl, tbz_tb (tk1 (List.mem_of_getElem? (i := 15) rfl)) rfl, by decide, by decide, by decide +kernel⟩
theorem imX5_isStillHeldBy : Cond.instanceMethod yX5_isStillHeldBy ∈ tbz := tbz_tb (tk3 (List.mem_of_getElem? (i := 25) rfl)) rfl
theorem seX5_isStillHeldBy : Cond.selects yX5_isStillHeldBy.cls yX5_isStillHeldBy yX5_isStillHeldBy ∈ tbz := tbz_tb (tk3 (List.mem_of_getElem? (i := 26) rfl)) rfl
abbrev mX5_setYears : Mi := (yX5_setYears, cX5_setYears, 5, none, 0, 0)
theorem lcX5_setYears : Lc mX5_setYears 4 := ⟨tbz_tb (tk3 (List.mem_of_getElem? (i := 104) rfl)) rfl, tbz_tb (tk1 (List.mem_of_getElem? (i := 15) rfl)) rfl, by decide, by decide, by decide +kernel⟩
theorem imX5_setYears : Cond.instanceMethod yX5_setYears ∈ tbz := tbz_tb (tk3 (List.mem_of_getElem? (i := 102) rfl)) rfl
theorem seX5_setYears : Cond.selects yX5_setYears.cls yX5_setYears yX5_setYears ∈ tbz := tbz_tb (tk3 (List.mem_of_getElem? (i := 103) rfl)) rfl
abbrev mX6_init : Mi := (yX6_init, cX6_init, 3, none, 1, 23)
theorem lcX6_init : Lc mX6_init 2 := ⟨tbz_tb (tk1 (List.mem_of_getElem? (i := 218) rfl)) rfl, tbz_tb (tk1 (List.mem_of_getElem? (i := 8) rfl)) rfl, by decide, by decide, by decide +kernel⟩
theorem imX6_init : Cond.instanceMethod yX6_init ∈ tbz := tbz_tb (tk1 (List.mem_of_getElem? (i := 217) rfl)) rfl
abbrev mX6_favourite : Mi := (yX6_favourite, cX6_favourite, 9, some .int, 4, 94)
theorem lcX6_favourite : Lc mX6_favourite 3 := ⟨tbz_tb (tk4 (List.mem_of_getElem? (i := 115) rfl)) rfl, tbz_tb (tk1 (List.mem_of_getElem? (i := 8) rfl)) rfl, by decide, by decide, by decide +kernel⟩
theorem imX6_favourite : Cond.instanceMethod yX6_favourite ∈ tbz := tbz_tb (tk4 (List.mem_of_getElem? (i := 114) rfl)) rfl
theorem seX6_favourite : Cond.selects yX6_favourite.cls yX6_favourite yX6_favourite ∈ tbz := tp2 (q := (yX6_favourite, _)) (List.mem_of_getElem? (i := 0) rfl)
abbrev mX6_isInRing : Mi := (yX6_isInRing, cX6_isInRing, 4, some .boolean, 0, 0)
theorem lcX6_isInRing : Lc mX6_isInRing 1 := ⟨tbz_tb (tk4 (List.mem_of_getElem? (i := 129) rfl)) rfl, tbz_tb (tk1 (List.mem_of_getElem? (i := 8) rfl)) rfl, by decide, by decide, by decide +kernel⟩
theorem imX6_isInRing : Cond.instanceMethod yX6_isInRing ∈ tbz := tbz_tb (tk4 (List.mem_of_getElem? (i := 128) rfl)) rfl
theorem seX6_isInRing : Cond.selects yX6_isInRing.cls yX6_isInRing yX6_isInRing ∈ tbz := tp2 (q := (yX6_isInRing, _)) (List.mem_of_getElem? (i := 3) rfl)
abbrev mX6_letGo : Mi := (yX6_letGo, cX6_letGo, 4, some .int, 0, 0)
theorem lcX6_letGo : Lc mX6_letGo 1 := ⟨tbz_tb (tk4 (List.mem_of_getElem? (i := 133) rfl)) rfl, tbz_tb (tk1 (List.mem_of_getElem? (i := 8) rfl)) rfl, by decide, by decide, by decide +kernel⟩
theorem imX6_letGo : Cond.instanceMethod yX6_letGo ∈ tbz := tbz_tb (tk4 (List.mem_of_getElem? (i := 132) rfl)) rfl
theorem seX6_letGo : Cond.selects yX6_letGo.cls yX6_letGo yX6_letGo ∈ tbz := tp2 (q := (yX6_letGo, _)) (List.mem_of_getElem? (i := 4) rfl)
abbrev mX6_lookRound : Mi := (yX6_lookRound, cX6_lookRound, 4, none, 5, 122)
theorem lcX6_lookRound : Lc mX6_lookRound 2 := ⟨tbz_tb (tk4 (List.mem_of_getElem? (i := 111) rfl)) rfl, tbz_tb (tk1 (List.mem_of_getElem? (i := 8) rfl)) rfl, by decide, by decide, by decide +kernel⟩
theorem imX6_lookRound : Cond.instanceMethod yX6_lookRound ∈ tbz := tbz_tb (tk4 (List.mem_of_getElem? (i := 110) rfl)) rfl
theorem seX6_lookRound : Cond.selects yX6_lookRound.cls yX6_lookRound yX6_lookRound ∈ tbz := tp1 (q := (yX6_lookRound, _)) (List.mem_of_getElem? (i := 15) rfl)
abbrev mX6_ringed : Mi := (yX6_ringed, cX6_ringed, 4, some .int, 1, 23)
theorem lcX6_ringed : Lc mX6_ringed 1 := ⟨tbz_tb (tk4 (List.mem_of_getElem? (i := 125) rfl)) rfl, tbz_tb (tk1 (List.mem_of_getElem? (i := 8) rfl)) rfl, by decide, by decide, by decide +kernel⟩
theorem imX6_ringed : Cond.instanceMethod yX6_ringed ∈ tbz := tbz_tb (tk4 (List.mem_of_getElem? (i := 124) rfl)) rfl
theorem seX6_ringed : Cond.selects yX6_ringed.cls yX6_ringed yX6_ringed ∈ tbz := tp2 (q := (yX6_ringed, _)) (List.mem_of_getElem? (i := 2) rfl)
abbrev mX6_turn : Mi := (yX6_turn, cX6_turn, 7, some .int, 6, 145)
theorem lcX6_turn : Lc mX6_turn 2 := ⟨tbz_tb (tk4 (List.mem_of_getElem? (i := 102) rfl)) rfl, tbz_tb (tk1 (List.mem_of_getElem? (i := 8) rfl)) rfl, by decide, by decide, by decide +kernel⟩
theorem imX6_turn : Cond.instanceMethod yX6_turn ∈ tbz := tbz_tb (tk4 (List.mem_of_getElem? (i := 100) rfl)) rfl
theorem seX6_turn : Cond.selects yX6_turn.cls yX6_turn yX6_turn ∈ tbz := tbz_tb (tk4 (List.mem_of_getElem? (i := 101) rfl)) rfl
abbrev mX6_worthOfRun : Mi := (yX6_worthOfRun, cX6_worthOfRun, 4, some .int, 3, 71)
theorem lcX6_worthOfRun : Lc mX6_worthOfRun 3 := ⟨tbz_tb (tk4 (List.mem_of_getElem? (i := 120) rfl)) rfl, tbz_tb (tk1 (List.mem_of_getElem? (i := 8) rfl)) rfl, by decide, by decide, by decide +kernel⟩
theorem imX6_worthOfRun : Cond.instanceMethod yX6_worthOfRun ∈ tbz := tbz_tb (tk4 (List.mem_of_getElem? (i := 119) rfl)) rfl
theorem seX6_worthOfRun : Cond.selects yX6_worthOfRun.cls yX6_worthOfRun yX6_worthOfRun ∈ tbz := tp2 (q := (yX6_worthOfRun, _)) (List.mem_of_getElem? (i := 1) rfl)
abbrev mX7_init : Mi := (yX7_init, cX7_init, 1, none, 1, 23)
theorem lcX7_init : Lc mX7_init 0 := ⟨tbz_tb (tk2 (List.mem_of_getElem? (i := 35) rfl)) rfl, tbz_tb (tk1 (List.mem_of_getElem? (i := 10) rfl)) rfl, by decide, by decide, by decide +kernel⟩
theorem imX7_init : Cond.instanceMethod yX7_init ∈ tbz := tbz_tb (tk2 (List.mem_of_getElem? (i := 34) rfl)) rfl
abbrev mX7_clear : Mi := (yX7_clear, cX7_clear, 2, none, 0, 0)
theorem lcX7_clear : Lc mX7_clear 1 := ⟨tbz_tb (tk5 (List.mem_of_getElem? (i := 128) rfl)) rfl, tbz_tb (tk1 (List.mem_of_getElem? (i := 10) rfl)) rfl, by decide, by decide, by decide +kernel⟩
theorem imX7_clear : Cond.instanceMethod yX7_clear ∈ tbz := tbz_tb (tk5 (List.mem_of_getElem? (i := 126) rfl)) rfl
theorem seX7_clear : Cond.selects yX7_clear.cls yX7_clear yX7_clear ∈ tbz := tbz_tb (tk5 (List.mem_of_getElem? (i := 127) rfl)) rfl
abbrev mX7_copy : Mi := (yX7_copy, cX7_copy, 6, some .int, 2, 60)
theorem lcX7_copy : Lc mX7_copy 5 := ⟨tbz_tb (tk5 (List.mem_of_getElem? (i := 147) rfl)) rfl, tbz_tb (tk1 (List.mem_of_getElem? (i := 10) rfl)) rfl, by decide, by decide, by decide +kernel⟩
theorem imX7_copy : Cond.instanceMethod yX7_copy ∈ tbz := tbz_tb (tk5 (List.mem_of_getElem? (i := 145) rfl)) rfl
theorem seX7_copy : Cond.selects yX7_copy.cls yX7_copy yX7_copy ∈ tbz := tbz_tb (tk5 (List.mem_of_getElem? (i := 146) rfl)) rfl
abbrev mX7_cut : Mi := (yX7_cut, cX7_cut, 3, some .long, 0, 0)
theorem lcX7_cut : Lc mX7_cut 2 := ⟨tbz_tb (tk5 (List.mem_of_getElem? (i := 139) rfl)) rfl, tbz_tb (tk1 (List.mem_of_getElem? (i := 10) rfl)) rfl, by decide, by decide, by decide +kernel⟩
theorem sxX7_cut : Cond.static yX7_cut ∈ tbz := tbz_tb (tk5 (List.mem_of_getElem? (i := 138) rfl)) rfl
abbrev mX7_filled : Mi := (yX7_filled, cX7_filled, 3, some .int, 1, 21)
theorem lcX7_filled : Lc mX7_filled 0 := ⟨tbz_tb (tk5 (List.mem_of_getElem? (i := 101) rfl)) rfl, tbz_tb (tk1 (List.mem_of_getElem? (i := 10) rfl)) rfl, by decide, by decide, by decide +kernel⟩
theorem imX7_filled : Cond.instanceMethod yX7_filled ∈ tbz := tbz_tb (tk5 (List.mem_of_getElem? (i := 99) rfl)) rfl
theorem seX7_filled : Cond.selects yX7_filled.cls yX7_filled yX7_filled ∈ tbz := tbz_tb (tk5 (List.mem_of_getElem? (i := 100) rfl)) rfl
abbrev mX7_isFilled : Mi := (yX7_isFilled, cX7_isFilled, 2, some .boolean, 0, 0)
theorem lcX7_isFilled : Lc mX7_isFilled 1 := ⟨tbz_tb (tk4 (List.mem_of_getElem? (i := 15) rfl)) rfl, tbz_tb (tk1 (List.mem_of_getElem? (i := 10) rfl)) rfl, by decide, by decide, by decide +kernel⟩
theorem imX7_isFilled : Cond.instanceMethod yX7_isFilled ∈ tbz := tbz_tb (tk4 (List.mem_of_getElem? (i := 13) rfl)) rfl
theorem seX7_isFilled : Cond.selects yX7_isFilled.cls yX7_isFilled yX7_isFilled ∈ tbz := tbz_tb (tk4 (List.mem_of_getElem? (i := 14) rfl)) rfl
abbrev mX7_isPlace : Mi := (yX7_isPlace, cX7_isPlace, 2, some .boolean, 0, 0)
theorem lcX7_isPlace : Lc mX7_isPlace 1 := ⟨tbz_tb (tk4 (List.mem_of_getElem? (i := 11) rfl)) rfl, tbz_tb (tk1 (List.mem_of_getElem? (i := 10) rfl)) rfl, by decide, by decide, by decide +kernel⟩
theorem imX7_isPlace : Cond.instanceMethod yX7_isPlace ∈ tbz := tbz_tb (tk4 (List.mem_of_getElem? (i := 9) rfl)) rfl
theorem seX7_isPlace : Cond.selects yX7_isPlace.cls yX7_isPlace yX7_isPlace ∈ tbz := tbz_tb (tk4 (List.mem_of_getElem? (i := 10) rfl)) rfl
abbrev mX7_lay : Mi := (yX7_lay, cX7_lay, 5, none, 2, 55)
theorem lcX7_lay : Lc mX7_lay 3 := ⟨tbz_tb (tk5 (List.mem_of_getElem? (i := 119) rfl)) rfl, tbz_tb (tk1 (List.mem_of_getElem? (i := 10) rfl)) rfl, by decide, by decide, by decide +kernel⟩
theorem imX7_lay : Cond.instanceMethod yX7_lay ∈ tbz := tbz_tb (tk5 (List.mem_of_getElem? (i := 117) rfl)) rfl
theorem seX7_lay : Cond.selects yX7_lay.cls yX7_lay yX7_lay ∈ tbz := tbz_tb (tk5 (List.mem_of_getElem? (i := 118) rfl)) rfl
abbrev mX7_lengthOf : Mi := (yX7_lengthOf, cX7_lengthOf, 2, some .int, 1, 21)
theorem lcX7_lengthOf : Lc mX7_lengthOf 1 := ⟨tbz_tb (tk4 (List.mem_of_getElem? (i := 19) rfl)) rfl, tbz_tb (tk1 (List.mem_of_getElem? (i := 10) rfl)) rfl, by decide, by decide, by decide +kernel⟩
theorem imX7_lengthOf : Cond.instanceMethod yX7_lengthOf ∈ tbz := tbz_tb (tk4 (List.mem_of_getElem? (i := 17) rfl)) rfl
theorem seX7_lengthOf : Cond.selects yX7_lengthOf.cls yX7_lengthOf yX7_lengthOf ∈ tbz := tbz_tb (tk4 (List.mem_of_getElem? (i := 18) rfl)) rfl
abbrev mX7_numberAt : Mi := (yX7_numberAt, cX7_numberAt, 3, some .long, 2, 42)
theorem lcX7_numberAt : Lc mX7_numberAt 2 := ⟨tbz_tb (tk4 (List.mem_of_getElem? (i := 24) rfl)) rfl, tbz_tb (tk1 (List.mem_of_getElem? (i := 10) rfl)) rfl, by decide, by decide, by decide +kernel⟩
theorem imX7_numberAt : Cond.instanceMethod yX7_numberAt ∈ tbz := tbz_tb (tk4 (List.mem_of_getElem? (i := 22) rfl)) rfl
theorem seX7_numberAt : Cond.selects yX7_numberAt.cls yX7_numberAt yX7_numberAt ∈ tbz := tbz_tb (tk4 (List.mem_of_getElem? (i := 23) rfl)) rfl
abbrev mX7_put : Mi := (yX7_put, cX7_put, 5, some .int, 1, 22)
theorem lcX7_put : Lc mX7_put 3 := ⟨tbz_tb (tk5 (List.mem_of_getElem? (i := 136) rfl)) rfl, tbz_tb (tk1 (List.mem_of_getElem? (i := 10) rfl)) rfl, by decide, by decide, by decide +kernel⟩
theorem imX7_put : Cond.instanceMethod yX7_put ∈ tbz := tbz_tb (tk5 (List.mem_of_getElem? (i := 134) rfl)) rfl
theorem seX7_put : Cond.selects yX7_put.cls yX7_put yX7_put ∈ tbz := tbz_tb (tk5 (List.mem_of_getElem? (i := 135) rfl)) rfl
abbrev mX8_init : Mi := (yX8_init, cX8_init, 1, none, 1, 23)
theorem lcX8_init : Lc mX8_init 0 := ⟨tbz_tb (tk2 (List.mem_of_getElem? (i := 53) rfl)) rfl, tbz_tb (tk1 (List.mem_of_getElem? (i := 11) rfl)) rfl, by decide, by decide, by decide +kernel⟩
theorem imX8_init : Cond.instanceMethod yX8_init ∈ tbz := tbz_tb (tk2 (List.mem_of_getElem? (i := 52) rfl)) rfl
abbrev mX8_clear : Mi := (yX8_clear, cX8_clear, 1, none, 1, 23)
theorem lcX8_clear : Lc mX8_clear 0 := ⟨tbz_tb (tk4 (List.mem_of_getElem? (i := 230) rfl)) rfl, tbz_tb (tk1 (List.mem_of_getElem? (i := 11) rfl)) rfl, by decide, by decide, by decide +kernel⟩
theorem imX8_clear : Cond.instanceMethod yX8_clear ∈ tbz := tbz_tb (tk4 (List.mem_of_getElem? (i := 228) rfl)) rfl
theorem seX8_clear : Cond.selects yX8_clear.cls yX8_clear yX8_clear ∈ tbz := tbz_tb (tk4 (List.mem_of_getElem? (i := 229) rfl)) rfl
abbrev mX8_isSameRun : Mi := (yX8_isSameRun, cX8_isSameRun, 3, some .boolean, 0, 0)
theorem lcX8_isSameRun : Lc mX8_isSameRun 2 := ⟨tbz_tb (tk5 (List.mem_of_getElem? (i := 50) rfl)) rfl, tbz_tb (tk1 (List.mem_of_getElem? (i := 11) rfl)) rfl, by decide, by decide, by decide +kernel⟩
theorem imX8_isSameRun : Cond.instanceMethod yX8_isSameRun ∈ tbz := tbz_tb (tk5 (List.mem_of_getElem? (i := 48) rfl)) rfl
theorem seX8_isSameRun : Cond.selects yX8_isSameRun.cls yX8_isSameRun yX8_isSameRun ∈ tbz := tbz_tb (tk5 (List.mem_of_getElem? (i := 49) rfl)) rfl
abbrev mX8_isSitting : Mi := (yX8_isSitting, cX8_isSitting, 2, some .boolean, 0, 0)
theorem lcX8_isSitting : Lc mX8_isSitting 1 := ⟨tbz_tb (tk4 (List.mem_of_getElem? (i := 107) rfl)) rfl, tbz_tb (tk1 (List.mem_of_getElem? (i := 11) rfl)) rfl, by decide, by decide, by decide +kernel⟩
theorem imX8_isSitting : Cond.instanceMethod yX8_isSitting ∈ tbz := tbz_tb (tk4 (List.mem_of_getElem? (i := 105) rfl)) rfl
theorem seX8_isSitting : Cond.selects yX8_isSitting.cls yX8_isSitting yX8_isSitting ∈ tbz := tbz_tb (tk4 (List.mem_of_getElem? (i := 106) rfl)) rfl
abbrev mX8_put : Mi := (yX8_put, cX8_put, 6, none, 0, 0)
theorem lcX8_put : Lc mX8_put 5 := ⟨tbz_tb (tk5 (List.mem_of_getElem? (i := 14) rfl)) rfl, tbz_tb (tk1 (List.mem_of_getElem? (i := 11) rfl)) rfl, by decide, by decide, by decide +kernel⟩
theorem imX8_put : Cond.instanceMethod yX8_put ∈ tbz := tbz_tb (tk5 (List.mem_of_getElem? (i := 12) rfl)) rfl
theorem seX8_put : Cond.selects yX8_put.cls yX8_put yX8_put ∈ tbz := tbz_tb (tk5 (List.mem_of_getElem? (i := 13) rfl)) rfl
abbrev mX8_unitsSatOn : Mi := (yX8_unitsSatOn, cX8_unitsSatOn, 3, some .int, 1, 21)
theorem lcX8_unitsSatOn : Lc mX8_unitsSatOn 0 := ⟨tbz_tb (tk5 (List.mem_of_getElem? (i := 76) rfl)) rfl, tbz_tb (tk1 (List.mem_of_getElem? (i := 11) rfl)) rfl, by decide, by decide, by decide +kernel⟩
theorem imX8_unitsSatOn : Cond.instanceMethod yX8_unitsSatOn ∈ tbz := tbz_tb (tk5 (List.mem_of_getElem? (i := 74) rfl)) rfl
theorem seX8_unitsSatOn : Cond.selects yX8_unitsSatOn.cls yX8_unitsSatOn yX8_unitsSatOn ∈ tbz := tbz_tb (tk5 (List.mem_of_getElem? (i := 75) rfl)) rfl
abbrev mX9_init : Mi := (yX9_init, cX9_init, 4, none, 1, 20)
theorem lcX9_init : Lc mX9_init 3 := ⟨tbz_tb (tk1 (List.mem_of_getElem? (i := 239) rfl)) rfl, tbz_tb (tk1 (List.mem_of_getElem? (i := 9) rfl)) rfl, by decide, by decide, by decide +kernel⟩
theorem imX9_init : Cond.instanceMethod yX9_init ∈ tbz := tbz_tb (tk1 (List.mem_of_getElem? (i := 238) rfl)) rfl
abbrev mX9_canCome : Mi := (yX9_canCome, cX9_canCome, 8, some .boolean, 3, 64)
theorem lcX9_canCome : Lc mX9_canCome 2 := ⟨tbz_tb (tk4 (List.mem_of_getElem? (i := 145) rfl)) rfl, tbz_tb (tk1 (List.mem_of_getElem? (i := 9) rfl)) rfl, by decide, by decide, by decide +kernel⟩
theorem imX9_canCome : Cond.instanceMethod yX9_canCome ∈ tbz := tbz_tb (tk4 (List.mem_of_getElem? (i := 143) rfl)) rfl
theorem seX9_canCome : Cond.selects yX9_canCome.cls yX9_canCome yX9_canCome ∈ tbz := tbz_tb (tk4 (List.mem_of_getElem? (i := 144) rfl)) rfl
abbrev mX9_hold : Mi := (yX9_hold, cX9_hold, 7, some .int, 5, 122)
theorem lcX9_hold : Lc mX9_hold 3 := ⟨tbz_tb (tk4 (List.mem_of_getElem? (i := 171) rfl)) rfl, tbz_tb (tk1 (List.mem_of_getElem? (i := 9) rfl)) rfl, by decide, by decide, by decide +kernel⟩
theorem imX9_hold : Cond.instanceMethod yX9_hold ∈ tbz := tbz_tb (tk4 (List.mem_of_getElem? (i := 169) rfl)) rfl
theorem seX9_hold : Cond.selects yX9_hold.cls yX9_hold yX9_hold ∈ tbz := tbz_tb (tk4 (List.mem_of_getElem? (i := 170) rfl)) rfl
abbrev mX9_isOwnRunFree : Mi := (yX9_isOwnRunFree, cX9_isOwnRunFree, 5, some .boolean, 1, 21)
theorem lcX9_isOwnRunFree : Lc mX9_isOwnRunFree 2 := ⟨tbz_tb (tk4 (List.mem_of_getElem? (i := 214) rfl)) rfl, tbz_tb (tk1 (List.mem_of_getElem? (i := 9) rfl)) rfl, by decide, by decide, by decide +kernel⟩
theorem imX9_isOwnRunFree : Cond.instanceMethod yX9_isOwnRunFree ∈ tbz := tbz_tb (tk4 (List.mem_of_getElem? (i := 213) rfl)) rfl
theorem seX9_isOwnRunFree : Cond.selects yX9_isOwnRunFree.cls yX9_isOwnRunFree yX9_isOwnRunFree ∈ tbz := tp2 (q := (yX9_isOwnRunFree, _)) (List.mem_of_getElem? (i := 12) rfl)
abbrev mX9_keepRun : Mi := (yX9_keepRun, cX9_keepRun, 4, none, 0, 0)
theorem lcX9_keepRun : Lc mX9_keepRun 2 := ⟨tbz_tb (tk4 (List.mem_of_getElem? (i := 167) rfl)) rfl, tbz_tb (tk1 (List.mem_of_getElem? (i := 9) rfl)) rfl, by decide, by decide, by decide +kernel⟩
theorem imX9_keepRun : Cond.instanceMethod yX9_keepRun ∈ tbz := tbz_tb (tk4 (List.mem_of_getElem? (i := 166) rfl)) rfl
theorem seX9_keepRun : Cond.selects yX9_keepRun.cls yX9_keepRun yX9_keepRun ∈ tbz := tp2 (q := (yX9_keepRun, _)) (List.mem_of_getElem? (i := 6) rfl)
abbrev mX9_open : Mi := (yX9_open, cX9_open, 5, none, 3, 64)
theorem lcX9_open : Lc mX9_open 3 := ⟨tbz_tb (tk4 (List.mem_of_getElem? (i := 162) rfl)) rfl, tbz_tb (tk1 (List.mem_of_getElem? (i := 9) rfl)) rfl, by decide, by decide, by decide +kernel⟩
theorem imX9_open : Cond.instanceMethod yX9_open ∈ tbz := tbz_tb (tk4 (List.mem_of_getElem? (i := 160) rfl)) rfl
theorem seX9_open : Cond.selects yX9_open.cls yX9_open yX9_open ∈ tbz := tbz_tb (tk4 (List.mem_of_getElem? (i := 161) rfl)) rfl
abbrev mX9_openSpots : Mi := (yX9_openSpots, cX9_openSpots, 4, none, 2, 43)
theorem lcX9_openSpots : Lc mX9_openSpots 1 := ⟨tbz_tb (tk4 (List.mem_of_getElem? (i := 179) rfl)) rfl, tbz_tb (tk1 (List.mem_of_getElem? (i := 9) rfl)) rfl, by decide, by decide, by decide +kernel⟩
theorem imX9_openSpots : Cond.instanceMethod yX9_openSpots ∈ tbz := tbz_tb (tk4 (List.mem_of_getElem? (i := 178) rfl)) rfl
theorem seX9_openSpots : Cond.selects yX9_openSpots.cls yX9_openSpots yX9_openSpots ∈ tbz := tp2 (q := (yX9_openSpots, _)) (List.mem_of_getElem? (i := 8) rfl)
abbrev mX9_seatHousehold : Mi := (yX9_seatHousehold, cX9_seatHousehold, 4, some .int, 4, 99)
theorem lcX9_seatHousehold : Lc mX9_seatHousehold 2 := ⟨tbz_tb (tk4 (List.mem_of_getElem? (i := 209) rfl)) rfl, tbz_tb (tk1 (List.mem_of_getElem? (i := 9) rfl)) rfl, by decide, by decide, by decide +kernel⟩
theorem imX9_seatHousehold : Cond.instanceMethod yX9_seatHousehold ∈ tbz := tbz_tb (tk4 (List.mem_of_getElem? (i := 208) rfl)) rfl
theorem seX9_seatHousehold : Cond.selects yX9_seatHousehold.cls yX9_seatHousehold yX9_seatHousehold ∈ tbz := tp2 (q := (yX9_seatHousehold, _)) (List.mem_of_getElem? (i := 11) rfl)
abbrev mX9_seatStranger : Mi := (yX9_seatStranger, cX9_seatStranger, 3, some .int, 4, 99)
theorem lcX9_seatStranger : Lc mX9_seatStranger 2 := ⟨tbz_tb (tk4 (List.mem_of_getElem? (i := 175) rfl)) rfl, tbz_tb (tk1 (List.mem_of_getElem? (i := 9) rfl)) rfl, by decide, by decide, by decide +kernel⟩
theorem imX9_seatStranger : Cond.instanceMethod yX9_seatStranger ∈ tbz := tbz_tb (tk4 (List.mem_of_getElem? (i := 174) rfl)) rfl
theorem seX9_seatStranger : Cond.selects yX9_seatStranger.cls yX9_seatStranger yX9_seatStranger ∈ tbz := tp2 (q := (yX9_seatStranger, _)) (List.mem_of_getElem? (i := 7) rfl)
abbrev mX9_take : Mi := (yX9_take, cX9_take, 4, some .int, 0, 0)
theorem lcX9_take : Lc mX9_take 2 := ⟨tbz_tb (tk4 (List.mem_of_getElem? (i := 205) rfl)) rfl, tbz_tb (tk1 (List.mem_of_getElem? (i := 9) rfl)) rfl, by decide, by decide, by decide +kernel⟩
theorem imX9_take : Cond.instanceMethod yX9_take ∈ tbz := tbz_tb (tk4 (List.mem_of_getElem? (i := 204) rfl)) rfl
theorem seX9_take : Cond.selects yX9_take.cls yX9_take yX9_take ∈ tbz := tp2 (q := (yX9_take, _)) (List.mem_of_getElem? (i := 10) rfl)
abbrev mX10_init : Mi := (yX10_init, cX10_init, 3, none, 1, 20)
theorem lcX10_init : Lc mX10_init 2 := ⟨tbz_tb (tk1 (List.mem_of_getElem? (i := 134) rfl)) rfl, tbz_tb (tk1 (List.mem_of_getElem? (i := 6) rfl)) rfl, by decide, by decide, by decide +kernel⟩
theorem imX10_init : Cond.instanceMethod yX10_init ∈ tbz := tbz_tb (tk1 (List.mem_of_getElem? (i := 133) rfl)) rfl
abbrev mX10_bestRun : Mi := (yX10_bestRun, cX10_bestRun, 9, some .int, 3, 71)
theorem lcX10_bestRun : Lc mX10_bestRun 3 := ⟨tbz_tb (tk4 (List.mem_of_getElem? (i := 195) rfl)) rfl, tbz_tb (tk1 (List.mem_of_getElem? (i := 6) rfl)) rfl, by decide, by decide, by decide +kernel⟩
theorem imX10_bestRun : Cond.instanceMethod yX10_bestRun ∈ tbz := tbz_tb (tk4 (List.mem_of_getElem? (i := 193) rfl)) rfl
theorem seX10_bestRun : Cond.selects yX10_bestRun.cls yX10_bestRun yX10_bestRun ∈ tbz := tbz_tb (tk4 (List.mem_of_getElem? (i := 194) rfl)) rfl
abbrev mX10_fillBest : Mi := (yX10_fillBest, cX10_fillBest, 10, none, 4, 97)
theorem lcX10_fillBest : Lc mX10_fillBest 2 := ⟨tbz_tb (tk5 (List.mem_of_getElem? (i := 18) rfl)) rfl, tbz_tb (tk1 (List.mem_of_getElem? (i := 6) rfl)) rfl, by decide, by decide, by decide +kernel⟩
theorem imX10_fillBest : Cond.instanceMethod yX10_fillBest ∈ tbz := tbz_tb (tk5 (List.mem_of_getElem? (i := 17) rfl)) rfl
theorem seX10_fillBest : Cond.selects yX10_fillBest.cls yX10_fillBest yX10_fillBest ∈ tbz := tp3 (q := (yX10_fillBest, _)) (List.mem_of_getElem? (i := 0) rfl)
abbrev mX10_firstOfBest : Mi := (yX10_firstOfBest, cX10_firstOfBest, 9, some .int, 4, 97)
theorem lcX10_firstOfBest : Lc mX10_firstOfBest 4 := ⟨tbz_tb (tk5 (List.mem_of_getElem? (i := 37) rfl)) rfl, tbz_tb (tk1 (List.mem_of_getElem? (i := 6) rfl)) rfl, by decide, by decide, by decide +kernel⟩
theorem imX10_firstOfBest : Cond.instanceMethod yX10_firstOfBest ∈ tbz := tbz_tb (tk5 (List.mem_of_getElem? (i := 36) rfl)) rfl
theorem seX10_firstOfBest : Cond.selects yX10_firstOfBest.cls yX10_firstOfBest yX10_firstOfBest ∈ tbz := tp3 (q := (yX10_firstOfBest, _)) (List.mem_of_getElem? (i := 3) rfl)
abbrev mX10_isRunOpen : Mi := (yX10_isRunOpen, cX10_isRunOpen, 4, some .boolean, 0, 0)
theorem lcX10_isRunOpen : Lc mX10_isRunOpen 3 := ⟨tbz_tb (tk4 (List.mem_of_getElem? (i := 200) rfl)) rfl, tbz_tb (tk1 (List.mem_of_getElem? (i := 6) rfl)) rfl, by decide, by decide, by decide +kernel⟩
theorem imX10_isRunOpen : Cond.instanceMethod yX10_isRunOpen ∈ tbz := tbz_tb (tk4 (List.mem_of_getElem? (i := 199) rfl)) rfl
theorem seX10_isRunOpen : Cond.selects yX10_isRunOpen.cls yX10_isRunOpen yX10_isRunOpen ∈ tbz := tp2 (q := (yX10_isRunOpen, _)) (List.mem_of_getElem? (i := 9) rfl)
abbrev mX10_openThoseOf : Mi := (yX10_openThoseOf, cX10_openThoseOf, 4, none, 2, 43)
theorem lcX10_openThoseOf : Lc mX10_openThoseOf 2 := ⟨tbz_tb (tk5 (List.mem_of_getElem? (i := 7) rfl)) rfl, tbz_tb (tk1 (List.mem_of_getElem? (i := 6) rfl)) rfl, by decide, by decide, by decide +kernel⟩
theorem imX10_openThoseOf : Cond.instanceMethod yX10_openThoseOf ∈ tbz := tbz_tb (tk5 (List.mem_of_getElem? (i := 6) rfl)) rfl
theorem seX10_openThoseOf : Cond.selects yX10_openThoseOf.cls yX10_openThoseOf yX10_openThoseOf ∈ tbz := tp2 (q := (yX10_openThoseOf, _)) (List.mem_of_getElem? (i := 15) rfl)
abbrev mX10_seatAll : Mi := (yX10_seatAll, cX10_seatAll, 6, none, 6, 152)
theorem lcX10_seatAll : Lc mX10_seatAll 3 := ⟨tbz_tb (tk4 (List.mem_of_getElem? (i := 226) rfl)) rfl, tbz_tb (tk1 (List.mem_of_getElem? (i := 6) rfl)) rfl, by decide, by decide, by decide +kernel⟩
theorem imX10_seatAll : Cond.instanceMethod yX10_seatAll ∈ tbz := tbz_tb (tk4 (List.mem_of_getElem? (i := 224) rfl)) rfl
theorem seX10_seatAll : Cond.selects yX10_seatAll.cls yX10_seatAll yX10_seatAll ∈ tbz := tbz_tb (tk4 (List.mem_of_getElem? (i := 225) rfl)) rfl
abbrev mX10_seatByRank : Mi := (yX10_seatByRank, cX10_seatByRank, 8, none, 5, 125)
theorem lcX10_seatByRank : Lc mX10_seatByRank 2 := ⟨tbz_tb (tk5 (List.mem_of_getElem? (i := 33) rfl)) rfl, tbz_tb (tk1 (List.mem_of_getElem? (i := 6) rfl)) rfl, by decide, by decide, by decide +kernel⟩
theorem imX10_seatByRank : Cond.instanceMethod yX10_seatByRank ∈ tbz := tbz_tb (tk5 (List.mem_of_getElem? (i := 32) rfl)) rfl
theorem seX10_seatByRank : Cond.selects yX10_seatByRank.cls yX10_seatByRank yX10_seatByRank ∈ tbz := tp3 (q := (yX10_seatByRank, _)) (List.mem_of_getElem? (i := 2) rfl)
abbrev mX10_seatByRight : Mi := (yX10_seatByRight, cX10_seatByRight, 6, some .boolean, 4, 99)
theorem lcX10_seatByRight : Lc mX10_seatByRight 3 := ⟨tbz_tb (tk5 (List.mem_of_getElem? (i := 2) rfl)) rfl, tbz_tb (tk1 (List.mem_of_getElem? (i := 6) rfl)) rfl, by decide, by decide, by decide +kernel⟩
theorem imX10_seatByRight : Cond.instanceMethod yX10_seatByRight ∈ tbz := tbz_tb (tk5 (List.mem_of_getElem? (i := 1) rfl)) rfl
theorem seX10_seatByRight : Cond.selects yX10_seatByRight.cls yX10_seatByRight yX10_seatByRight ∈ tbz := tp2 (q := (yX10_seatByRight, _)) (List.mem_of_getElem? (i := 14) rfl)
abbrev mX10_setOpen : Mi := (yX10_setOpen, cX10_setOpen, 4, none, 0, 0)
theorem lcX10_setOpen : Lc mX10_setOpen 2 := ⟨tbz_tb (tk4 (List.mem_of_getElem? (i := 191) rfl)) rfl, tbz_tb (tk1 (List.mem_of_getElem? (i := 6) rfl)) rfl, by decide, by decide, by decide +kernel⟩
theorem imX10_setOpen : Cond.instanceMethod yX10_setOpen ∈ tbz := tbz_tb (tk4 (List.mem_of_getElem? (i := 189) rfl)) rfl
theorem seX10_setOpen : Cond.selects yX10_setOpen.cls yX10_setOpen yX10_setOpen ∈ tbz := tbz_tb (tk4 (List.mem_of_getElem? (i := 190) rfl)) rfl
abbrev mX10_sumSeated : Mi := (yX10_sumSeated, cX10_sumSeated, 7, some .long, 3, 71)
theorem lcX10_sumSeated : Lc mX10_sumSeated 4 := ⟨tbz_tb (tk5 (List.mem_of_getElem? (i := 28) rfl)) rfl, tbz_tb (tk1 (List.mem_of_getElem? (i := 6) rfl)) rfl, by decide, by decide, by decide +kernel⟩
theorem imX10_sumSeated : Cond.instanceMethod yX10_sumSeated ∈ tbz := tbz_tb (tk5 (List.mem_of_getElem? (i := 27) rfl)) rfl
theorem seX10_sumSeated : Cond.selects yX10_sumSeated.cls yX10_sumSeated yX10_sumSeated ∈ tbz := tp3 (q := (yX10_sumSeated, _)) (List.mem_of_getElem? (i := 1) rfl)
abbrev mX12_init : Mi := (yX12_init, cX12_init, 2, none, 1, 20)
theorem lcX12_init : Lc mX12_init 0 := ⟨tbz_tb (tk5 (List.mem_of_getElem? (i := 155) rfl)) rfl, tbz_tb (tk1 (List.mem_of_getElem? (i := 12) rfl)) rfl, by decide, by decide, by decide +kernel⟩
theorem imX12_init : Cond.instanceMethod yX12_init ∈ tbz := tbz_tb (tk5 (List.mem_of_getElem? (i := 154) rfl)) rfl
abbrev mX12_adds : Mi := (yX12_adds, cX12_adds, 12, some .int, 0, 0)
theorem lcX12_adds : Lc mX12_adds 10 := ⟨tbz_tb (tk7 (List.mem_of_getElem? (i := 48) rfl)) rfl, tbz_tb (tk1 (List.mem_of_getElem? (i := 12) rfl)) rfl, by decide, by decide, by decide +kernel⟩
theorem imX12_adds : Cond.instanceMethod yX12_adds ∈ tbz := tbz_tb (tk7 (List.mem_of_getElem? (i := 47) rfl)) rfl
theorem seX12_adds : Cond.selects yX12_adds.cls yX12_adds yX12_adds ∈ tbz := tp4 (q := (yX12_adds, _)) (List.mem_of_getElem? (i := 2) rfl)
abbrev mX12_areYears : Mi := (yX12_areYears, cX12_areYears, 3, some .boolean, 1, 25)
theorem lcX12_areYears : Lc mX12_areYears 2 := ⟨tbz_tb (tk7 (List.mem_of_getElem? (i := 68) rfl)) rfl, tbz_tb (tk1 (List.mem_of_getElem? (i := 12) rfl)) rfl, by decide, by decide, by decide +kernel⟩
theorem imX12_areYears : Cond.instanceMethod yX12_areYears ∈ tbz := tbz_tb (tk7 (List.mem_of_getElem? (i := 67) rfl)) rfl
theorem seX12_areYears : Cond.selects yX12_areYears.cls yX12_areYears yX12_areYears ∈ tbz := tp4 (q := (yX12_areYears, _)) (List.mem_of_getElem? (i := 4) rfl)
abbrev mX12_belongs : Mi := (yX12_belongs, cX12_belongs, 6, some .int, 4, 103)
theorem lcX12_belongs : Lc mX12_belongs 5 := ⟨tbz_tb (tk7 (List.mem_of_getElem? (i := 64) rfl)) rfl, tbz_tb (tk1 (List.mem_of_getElem? (i := 12) rfl)) rfl, by decide, by decide, by decide +kernel⟩
theorem imX12_belongs : Cond.instanceMethod yX12_belongs ∈ tbz := tbz_tb (tk7 (List.mem_of_getElem? (i := 62) rfl)) rfl
theorem seX12_belongs : Cond.selects yX12_belongs.cls yX12_belongs yX12_belongs ∈ tbz := tbz_tb (tk7 (List.mem_of_getElem? (i := 63) rfl)) rfl
abbrev mX12_bench : Mi := (yX12_bench, cX12_bench, 5, some .int, 2, 46)
theorem lcX12_bench : Lc mX12_bench 4 := ⟨tbz_tb (tk6 (List.mem_of_getElem? (i := 205) rfl)) rfl, tbz_tb (tk1 (List.mem_of_getElem? (i := 12) rfl)) rfl, by decide, by decide, by decide +kernel⟩
theorem imX12_bench : Cond.instanceMethod yX12_bench ∈ tbz := tbz_tb (tk6 (List.mem_of_getElem? (i := 203) rfl)) rfl
theorem seX12_bench : Cond.selects yX12_bench.cls yX12_bench yX12_bench ∈ tbz := tbz_tb (tk6 (List.mem_of_getElem? (i := 204) rfl)) rfl
abbrev mX12_benchOf : Mi := (yX12_benchOf, cX12_benchOf, 5, some .int, 4, 103)
theorem lcX12_benchOf : Lc mX12_benchOf 2 := ⟨tbz_tb (tk7 (List.mem_of_getElem? (i := 234) rfl)) rfl, tbz_tb (tk1 (List.mem_of_getElem? (i := 12) rfl)) rfl, by decide, by decide, by decide +kernel⟩
theorem imX12_benchOf : Cond.instanceMethod yX12_benchOf ∈ tbz := tbz_tb (tk7 (List.mem_of_getElem? (i := 232) rfl)) rfl
theorem seX12_benchOf : Cond.selects yX12_benchOf.cls yX12_benchOf yX12_benchOf ∈ tbz := tbz_tb (tk7 (List.mem_of_getElem? (i := 233) rfl)) rfl
abbrev mX12_beside : Mi := (yX12_beside, cX12_beside, 7, some .long, 7, 177)
theorem lcX12_beside : Lc mX12_beside 1 := ⟨tbz_tb (tk7 (List.mem_of_getElem? (i := 189) rfl)) rfl, tbz_tb (tk1 (List.mem_of_getElem? (i := 12) rfl)) rfl, by decide, by decide, by decide +kernel⟩
theorem imX12_beside : Cond.instanceMethod yX12_beside ∈ tbz := tbz_tb (tk7 (List.mem_of_getElem? (i := 187) rfl)) rfl
theorem seX12_beside : Cond.selects yX12_beside.cls yX12_beside yX12_beside ∈ tbz := tbz_tb (tk7 (List.mem_of_getElem? (i := 188) rfl)) rfl
abbrev mX12_bestRight : Mi := (yX12_bestRight, cX12_bestRight, 10, some .int, 2, 49)
theorem lcX12_bestRight : Lc mX12_bestRight 6 := ⟨tbz_tb (tk7 (List.mem_of_getElem? (i := 76) rfl)) rfl, tbz_tb (tk1 (List.mem_of_getElem? (i := 12) rfl)) rfl, by decide, by decide, by decide +kernel⟩
theorem imX12_bestRight : Cond.instanceMethod yX12_bestRight ∈ tbz := tbz_tb (tk7 (List.mem_of_getElem? (i := 75) rfl)) rfl
theorem seX12_bestRight : Cond.selects yX12_bestRight.cls yX12_bestRight yX12_bestRight ∈ tbz := tp4 (q := (yX12_bestRight, _)) (List.mem_of_getElem? (i := 6) rfl)
abbrev mX12_bestRun : Mi := (yX12_bestRun, cX12_bestRun, 11, some .int, 2, 49)
theorem lcX12_bestRun : Lc mX12_bestRun 4 := ⟨tbz_tb (tk7 (List.mem_of_getElem? (i := 222) rfl)) rfl, tbz_tb (tk1 (List.mem_of_getElem? (i := 12) rfl)) rfl, by decide, by decide, by decide +kernel⟩
theorem imX12_bestRun : Cond.instanceMethod yX12_bestRun ∈ tbz := tbz_tb (tk7 (List.mem_of_getElem? (i := 221) rfl)) rfl
theorem seX12_bestRun : Cond.selects yX12_bestRun.cls yX12_bestRun yX12_bestRun ∈ tbz := tp5 (q := (yX12_bestRun, _)) (List.mem_of_getElem? (i := 10) rfl)
abbrev mX12_byRights : Mi := (yX12_byRights, cX12_byRights, 7, none, 3, 74)
theorem lcX12_byRights : Lc mX12_byRights 1 := ⟨tbz_tb (tk7 (List.mem_of_getElem? (i := 149) rfl)) rfl, tbz_tb (tk1 (List.mem_of_getElem? (i := 12) rfl)) rfl, by decide, by decide, by decide +kernel⟩
theorem imX12_byRights : Cond.instanceMethod yX12_byRights ∈ tbz := tbz_tb (tk7 (List.mem_of_getElem? (i := 148) rfl)) rfl
theorem seX12_byRights : Cond.selects yX12_byRights.cls yX12_byRights yX12_byRights ∈ tbz := tp4 (q := (yX12_byRights, _)) (List.mem_of_getElem? (i := 14) rfl)
abbrev mX12_canByRank : Mi := (yX12_canByRank, cX12_canByRank, 5, some .boolean, 1, 25)
theorem lcX12_canByRank : Lc mX12_canByRank 2 := ⟨tbz_tb (tk7 (List.mem_of_getElem? (i := 161) rfl)) rfl, tbz_tb (tk1 (List.mem_of_getElem? (i := 12) rfl)) rfl, by decide, by decide, by decide +kernel⟩
theorem imX12_canByRank : Cond.instanceMethod yX12_canByRank ∈ tbz := tbz_tb (tk7 (List.mem_of_getElem? (i := 160) rfl)) rfl
theorem seX12_canByRank : Cond.selects yX12_canByRank.cls yX12_canByRank yX12_canByRank ∈ tbz := tp5 (q := (yX12_canByRank, _)) (List.mem_of_getElem? (i := 1) rfl)
abbrev mX12_change : Mi := (yX12_change, cX12_change, 5, some .int, 6, 147)
theorem lcX12_change : Lc mX12_change 1 := ⟨tbz_tb (tk7 (List.mem_of_getElem? (i := 193) rfl)) rfl, tbz_tb (tk1 (List.mem_of_getElem? (i := 12) rfl)) rfl, by decide, by decide, by decide +kernel⟩
theorem imX12_change : Cond.instanceMethod yX12_change ∈ tbz := tbz_tb (tk7 (List.mem_of_getElem? (i := 191) rfl)) rfl
theorem seX12_change : Cond.selects yX12_change.cls yX12_change yX12_change ∈ tbz := tbz_tb (tk7 (List.mem_of_getElem? (i := 192) rfl)) rfl
abbrev mX12_changed : Mi := (yX12_changed, cX12_changed, 5, some .int, 3, 67)
theorem lcX12_changed : Lc mX12_changed 4 := ⟨tbz_tb (tk7 (List.mem_of_getElem? (i := 14) rfl)) rfl, tbz_tb (tk1 (List.mem_of_getElem? (i := 12) rfl)) rfl, by decide, by decide, by decide +kernel⟩
theorem imX12_changed : Cond.instanceMethod yX12_changed ∈ tbz := tbz_tb (tk7 (List.mem_of_getElem? (i := 12) rfl)) rfl
theorem seX12_changed : Cond.selects yX12_changed.cls yX12_changed yX12_changed ∈ tbz := tbz_tb (tk7 (List.mem_of_getElem? (i := 13) rfl)) rfl
abbrev mX12_changedTo : Mi := (yX12_changedTo, cX12_changedTo, 2, some .int, 2, 46)
theorem lcX12_changedTo : Lc mX12_changedTo 1 := ⟨tbz_tb (tk7 (List.mem_of_getElem? (i := 209) rfl)) rfl, tbz_tb (tk1 (List.mem_of_getElem? (i := 12) rfl)) rfl, by decide, by decide, by decide +kernel⟩
theorem imX12_changedTo : Cond.instanceMethod yX12_changedTo ∈ tbz := tbz_tb (tk7 (List.mem_of_getElem? (i := 207) rfl)) rfl
theorem seX12_changedTo : Cond.selects yX12_changedTo.cls yX12_changedTo yX12_changedTo ∈ tbz := tbz_tb (tk7 (List.mem_of_getElem? (i := 208) rfl)) rfl
abbrev mX12_comesBack : Mi := (yX12_comesBack, cX12_comesBack, 4, some .boolean, 0, 0)
theorem lcX12_comesBack : Lc mX12_comesBack 1 := ⟨tbz_tb (tk7 (List.mem_of_getElem? (i := 205) rfl)) rfl, tbz_tb (tk1 (List.mem_of_getElem? (i := 12) rfl)) rfl, by decide, by decide, by decide +kernel⟩
theorem imX12_comesBack : Cond.instanceMethod yX12_comesBack ∈ tbz := tbz_tb (tk7 (List.mem_of_getElem? (i := 204) rfl)) rfl
theorem seX12_comesBack : Cond.selects yX12_comesBack.cls yX12_comesBack yX12_comesBack ∈ tbz := tp5 (q := (yX12_comesBack, _)) (List.mem_of_getElem? (i := 8) rfl)
abbrev mX12_count : Mi := (yX12_count, cX12_count, 4, some .int, 0, 0)
theorem lcX12_count : Lc mX12_count 1 := ⟨tbz_tb (tk7 (List.mem_of_getElem? (i := 238) rfl)) rfl, tbz_tb (tk1 (List.mem_of_getElem? (i := 12) rfl)) rfl, by decide, by decide, by decide +kernel⟩
theorem imX12_count : Cond.instanceMethod yX12_count ∈ tbz := tbz_tb (tk7 (List.mem_of_getElem? (i := 236) rfl)) rfl
theorem seX12_count : Cond.selects yX12_count.cls yX12_count yX12_count ∈ tbz := tbz_tb (tk7 (List.mem_of_getElem? (i := 237) rfl)) rfl
abbrev mX12_customs : Mi := (yX12_customs, cX12_customs, 4, none, 1, 31)
theorem lcX12_customs : Lc mX12_customs 1 := ⟨tbz_tb (tk7 (List.mem_of_getElem? (i := 173) rfl)) rfl, tbz_tb (tk1 (List.mem_of_getElem? (i := 12) rfl)) rfl, by decide, by decide, by decide +kernel⟩
theorem imX12_customs : Cond.instanceMethod yX12_customs ∈ tbz := tbz_tb (tk7 (List.mem_of_getElem? (i := 172) rfl)) rfl
theorem seX12_customs : Cond.selects yX12_customs.cls yX12_customs yX12_customs ∈ tbz := tp5 (q := (yX12_customs, _)) (List.mem_of_getElem? (i := 4) rfl)
abbrev mX12_cut : Mi := (yX12_cut, cX12_cut, 3, some .long, 0, 0)
theorem lcX12_cut : Lc mX12_cut 2 := ⟨tbz_tb (tk6 (List.mem_of_getElem? (i := 176) rfl)) rfl, tbz_tb (tk1 (List.mem_of_getElem? (i := 12) rfl)) rfl, by decide, by decide, by decide +kernel⟩
theorem sxX12_cut : Cond.static yX12_cut ∈ tbz := tbz_tb (tk6 (List.mem_of_getElem? (i := 175) rfl)) rfl
abbrev mX12_ends : Mi := (yX12_ends, cX12_ends, 2, some .boolean, 1, 25)
theorem lcX12_ends : Lc mX12_ends 1 := ⟨tbz_tb (tk7 (List.mem_of_getElem? (i := 52) rfl)) rfl, tbz_tb (tk1 (List.mem_of_getElem? (i := 12) rfl)) rfl, by decide, by decide, by decide +kernel⟩
theorem imX12_ends : Cond.instanceMethod yX12_ends ∈ tbz := tbz_tb (tk7 (List.mem_of_getElem? (i := 50) rfl)) rfl
theorem seX12_ends : Cond.selects yX12_ends.cls yX12_ends yX12_ends ∈ tbz := tbz_tb (tk7 (List.mem_of_getElem? (i := 51) rfl)) rfl
abbrev mX12_fund : Mi := (yX12_fund, cX12_fund, 1, some .long, 0, 0)
theorem lcX12_fund : Lc mX12_fund 0 := ⟨tbz_tb (tk8 (List.mem_of_getElem? (i := 2) rfl)) rfl, tbz_tb (tk1 (List.mem_of_getElem? (i := 12) rfl)) rfl, by decide, by decide, by decide +kernel⟩
theorem imX12_fund : Cond.instanceMethod yX12_fund ∈ tbz := tbz_tb (tk8 (List.mem_of_getElem? (i := 0) rfl)) rfl
theorem seX12_fund : Cond.selects yX12_fund.cls yX12_fund yX12_fund ∈ tbz := tbz_tb (tk8 (List.mem_of_getElem? (i := 1) rfl)) rfl
abbrev mX12_gains : Mi := (yX12_gains, cX12_gains, 3, some .long, 2, 49)
theorem lcX12_gains : Lc mX12_gains 2 := ⟨tbz_tb (tk7 (List.mem_of_getElem? (i := 165) rfl)) rfl, tbz_tb (tk1 (List.mem_of_getElem? (i := 12) rfl)) rfl, by decide, by decide, by decide +kernel⟩
theorem imX12_gains : Cond.instanceMethod yX12_gains ∈ tbz := tbz_tb (tk7 (List.mem_of_getElem? (i := 164) rfl)) rfl
theorem seX12_gains : Cond.selects yX12_gains.cls yX12_gains yX12_gains ∈ tbz := tp5 (q := (yX12_gains, _)) (List.mem_of_getElem? (i := 2) rfl)
abbrev mX12_go : Mi := (yX12_go, cX12_go, 4, some .int, 7, 177)
theorem lcX12_go : Lc mX12_go 0 := ⟨tbz_tb (tk7 (List.mem_of_getElem? (i := 141) rfl)) rfl, tbz_tb (tk1 (List.mem_of_getElem? (i := 12) rfl)) rfl, by decide, by decide, by decide +kernel⟩
theorem imX12_go : Cond.instanceMethod yX12_go ∈ tbz := tbz_tb (tk7 (List.mem_of_getElem? (i := 139) rfl)) rfl
theorem seX12_go : Cond.selects yX12_go.cls yX12_go yX12_go ∈ tbz := tbz_tb (tk7 (List.mem_of_getElem? (i := 140) rfl)) rfl
abbrev mX12_gone : Mi := (yX12_gone, cX12_gone, 7, some .int, 3, 67)
theorem lcX12_gone : Lc mX12_gone 2 := ⟨tbz_tb (tk7 (List.mem_of_getElem? (i := 96) rfl)) rfl, tbz_tb (tk1 (List.mem_of_getElem? (i := 12) rfl)) rfl, by decide, by decide, by decide +kernel⟩
theorem imX12_gone : Cond.instanceMethod yX12_gone ∈ tbz := tbz_tb (tk7 (List.mem_of_getElem? (i := 94) rfl)) rfl
theorem seX12_gone : Cond.selects yX12_gone.cls yX12_gone yX12_gone ∈ tbz := tbz_tb (tk7 (List.mem_of_getElem? (i := 95) rfl)) rfl
abbrev mX12_hasUse : Mi := (yX12_hasUse, cX12_hasUse, 5, some .boolean, 0, 0)
theorem lcX12_hasUse : Lc mX12_hasUse 1 := ⟨tbz_tb (tk7 (List.mem_of_getElem? (i := 169) rfl)) rfl, tbz_tb (tk1 (List.mem_of_getElem? (i := 12) rfl)) rfl, by decide, by decide, by decide +kernel⟩
theorem imX12_hasUse : Cond.instanceMethod yX12_hasUse ∈ tbz := tbz_tb (tk7 (List.mem_of_getElem? (i := 168) rfl)) rfl
theorem seX12_hasUse : Cond.selects yX12_hasUse.cls yX12_hasUse yX12_hasUse ∈ tbz := tp5 (q := (yX12_hasUse, _)) (List.mem_of_getElem? (i := 3) rfl)
abbrev mX12_hearing : Mi := (yX12_hearing, cX12_hearing, 7, some .int, 4, 99)
theorem lcX12_hearing : Lc mX12_hearing 2 := ⟨tbz_tb (tk6 (List.mem_of_getElem? (i := 223) rfl)) rfl, tbz_tb (tk1 (List.mem_of_getElem? (i := 12) rfl)) rfl, by decide, by decide, by decide +kernel⟩
theorem imX12_hearing : Cond.instanceMethod yX12_hearing ∈ tbz := tbz_tb (tk6 (List.mem_of_getElem? (i := 222) rfl)) rfl
theorem seX12_hearing : Cond.selects yX12_hearing.cls yX12_hearing yX12_hearing ∈ tbz := tp3 (q := (yX12_hearing, _)) (List.mem_of_getElem? (i := 9) rfl)
abbrev mX12_household : Mi := (yX12_household, cX12_household, 4, some .int, 2, 47)
theorem lcX12_household : Lc mX12_household 3 := ⟨tbz_tb (tk7 (List.mem_of_getElem? (i := 4) rfl)) rfl, tbz_tb (tk1 (List.mem_of_getElem? (i := 12) rfl)) rfl, by decide, by decide, by decide +kernel⟩
theorem imX12_household : Cond.instanceMethod yX12_household ∈ tbz := tbz_tb (tk7 (List.mem_of_getElem? (i := 2) rfl)) rfl
theorem seX12_household : Cond.selects yX12_household.cls yX12_household yX12_household ∈ tbz := tbz_tb (tk7 (List.mem_of_getElem? (i := 3) rfl)) rfl
abbrev mX12_householdOf : Mi := (yX12_householdOf, cX12_householdOf, 5, some .int, 2, 49)
theorem lcX12_householdOf : Lc mX12_householdOf 2 := ⟨tbz_tb (tk7 (List.mem_of_getElem? (i := 230) rfl)) rfl, tbz_tb (tk1 (List.mem_of_getElem? (i := 12) rfl)) rfl, by decide, by decide, by decide +kernel⟩
theorem imX12_householdOf : Cond.instanceMethod yX12_householdOf ∈ tbz := tbz_tb (tk7 (List.mem_of_getElem? (i := 228) rfl)) rfl
theorem seX12_householdOf : Cond.selects yX12_householdOf.cls yX12_householdOf yX12_householdOf ∈ tbz := tbz_tb (tk7 (List.mem_of_getElem? (i := 229) rfl)) rfl
abbrev mX12_in : Mi := (yX12_in, cX12_in, 6, some .boolean, 0, 0)
theorem lcX12_in : Lc mX12_in 3 := ⟨tbz_tb (tk6 (List.mem_of_getElem? (i := 165) rfl)) rfl, tbz_tb (tk1 (List.mem_of_getElem? (i := 12) rfl)) rfl, by decide, by decide, by decide +kernel⟩
theorem sxX12_in : Cond.static yX12_in ∈ tbz := tbz_tb (tk6 (List.mem_of_getElem? (i := 164) rfl)) rfl
abbrev mX12_inWay : Mi := (yX12_inWay, cX12_inWay, 5, some .int, 3, 75)
theorem lcX12_inWay : Lc mX12_inWay 2 := ⟨tbz_tb (tk6 (List.mem_of_getElem? (i := 227) rfl)) rfl, tbz_tb (tk1 (List.mem_of_getElem? (i := 12) rfl)) rfl, by decide, by decide, by decide +kernel⟩
theorem imX12_inWay : Cond.instanceMethod yX12_inWay ∈ tbz := tbz_tb (tk6 (List.mem_of_getElem? (i := 226) rfl)) rfl
theorem seX12_inWay : Cond.selects yX12_inWay.cls yX12_inWay yX12_inWay ∈ tbz := tp3 (q := (yX12_inWay, _)) (List.mem_of_getElem? (i := 10) rfl)
abbrev mX12_isBench : Mi := (yX12_isBench, cX12_isBench, 2, some .boolean, 1, 25)
theorem lcX12_isBench : Lc mX12_isBench 1 := ⟨tbz_tb (tk6 (List.mem_of_getElem? (i := 219) rfl)) rfl, tbz_tb (tk1 (List.mem_of_getElem? (i := 12) rfl)) rfl, by decide, by decide, by decide +kernel⟩
theorem imX12_isBench : Cond.instanceMethod yX12_isBench ∈ tbz := tbz_tb (tk6 (List.mem_of_getElem? (i := 218) rfl)) rfl
theorem seX12_isBench : Cond.selects yX12_isBench.cls yX12_isBench yX12_isBench ∈ tbz := tp3 (q := (yX12_isBench, _)) (List.mem_of_getElem? (i := 8) rfl)
abbrev mX12_isBetter : Mi := (yX12_isBetter, cX12_isBetter, 3, some .boolean, 0, 0)
theorem lcX12_isBetter : Lc mX12_isBetter 2 := ⟨tbz_tb (tk7 (List.mem_of_getElem? (i := 88) rfl)) rfl, tbz_tb (tk1 (List.mem_of_getElem? (i := 12) rfl)) rfl, by decide, by decide, by decide +kernel⟩
theorem imX12_isBetter : Cond.instanceMethod yX12_isBetter ∈ tbz := tbz_tb (tk7 (List.mem_of_getElem? (i := 87) rfl)) rfl
theorem seX12_isBetter : Cond.selects yX12_isBetter.cls yX12_isBetter yX12_isBetter ∈ tbz := tp4 (q := (yX12_isBetter, _)) (List.mem_of_getElem? (i := 9) rfl)
abbrev mX12_isFor : Mi := (yX12_isFor, cX12_isFor, 4, some .boolean, 1, 25)
theorem lcX12_isFor : Lc mX12_isFor 3 := ⟨tbz_tb (tk7 (List.mem_of_getElem? (i := 80) rfl)) rfl, tbz_tb (tk1 (List.mem_of_getElem? (i := 12) rfl)) rfl, by decide, by decide, by decide +kernel⟩
theorem imX12_isFor : Cond.instanceMethod yX12_isFor ∈ tbz := tbz_tb (tk7 (List.mem_of_getElem? (i := 79) rfl)) rfl
theorem seX12_isFor : Cond.selects yX12_isFor.cls yX12_isFor yX12_isFor ∈ tbz := tp4 (q := (yX12_isFor, _)) (List.mem_of_getElem? (i := 7) rfl)
abbrev mX12_isFree : Mi := (yX12_isFree, cX12_isFree, 6, some .boolean, 0, 0)
theorem lcX12_isFree : Lc mX12_isFree 4 := ⟨tbz_tb (tk7 (List.mem_of_getElem? (i := 153) rfl)) rfl, tbz_tb (tk1 (List.mem_of_getElem? (i := 12) rfl)) rfl, by decide, by decide, by decide +kernel⟩
theorem imX12_isFree : Cond.instanceMethod yX12_isFree ∈ tbz := tbz_tb (tk7 (List.mem_of_getElem? (i := 152) rfl)) rfl
theorem seX12_isFree : Cond.selects yX12_isFree.cls yX12_isFree yX12_isFree ∈ tbz := tp4 (q := (yX12_isFree, _)) (List.mem_of_getElem? (i := 15) rfl)
abbrev mX12_isHouse : Mi := (yX12_isHouse, cX12_isHouse, 2, some .boolean, 1, 25)
theorem lcX12_isHouse : Lc mX12_isHouse 1 := ⟨tbz_tb (tk7 (List.mem_of_getElem? (i := 22) rfl)) rfl, tbz_tb (tk1 (List.mem_of_getElem? (i := 12) rfl)) rfl, by decide, by decide, by decide +kernel⟩
theorem imX12_isHouse : Cond.instanceMethod yX12_isHouse ∈ tbz := tbz_tb (tk7 (List.mem_of_getElem? (i := 21) rfl)) rfl
theorem seX12_isHouse : Cond.selects yX12_isHouse.cls yX12_isHouse yX12_isHouse ∈ tbz := tp3 (q := (yX12_isHouse, _)) (List.mem_of_getElem? (i := 14) rfl)
abbrev mX12_isInWay : Mi := (yX12_isInWay, cX12_isInWay, 12, some .boolean, 2, 44)
theorem lcX12_isInWay : Lc mX12_isInWay 3 := ⟨tbz_tb (tk6 (List.mem_of_getElem? (i := 231) rfl)) rfl, tbz_tb (tk1 (List.mem_of_getElem? (i := 12) rfl)) rfl, by decide, by decide, by decide +kernel⟩
theorem imX12_isInWay : Cond.instanceMethod yX12_isInWay ∈ tbz := tbz_tb (tk6 (List.mem_of_getElem? (i := 230) rfl)) rfl
theorem seX12_isInWay : Cond.selects yX12_isInWay.cls yX12_isInWay yX12_isInWay ∈ tbz := tp3 (q := (yX12_isInWay, _)) (List.mem_of_getElem? (i := 11) rfl)
abbrev mX12_isLike : Mi := (yX12_isLike, cX12_isLike, 3, some .boolean, 1, 25)
theorem lcX12_isLike : Lc mX12_isLike 3 := ⟨tbz_tb (tk7 (List.mem_of_getElem? (i := 7) rfl)) rfl, tbz_tb (tk1 (List.mem_of_getElem? (i := 12) rfl)) rfl, by decide, by decide, by decide +kernel⟩
theorem sxX12_isLike : Cond.static yX12_isLike ∈ tbz := tbz_tb (tk7 (List.mem_of_getElem? (i := 6) rfl)) rfl
abbrev mX12_isPast : Mi := (yX12_isPast, cX12_isPast, 2, some .boolean, 1, 25)
theorem lcX12_isPast : Lc mX12_isPast 1 := ⟨tbz_tb (tk7 (List.mem_of_getElem? (i := 181) rfl)) rfl, tbz_tb (tk1 (List.mem_of_getElem? (i := 12) rfl)) rfl, by decide, by decide, by decide +kernel⟩
theorem imX12_isPast : Cond.instanceMethod yX12_isPast ∈ tbz := tbz_tb (tk7 (List.mem_of_getElem? (i := 180) rfl)) rfl
theorem seX12_isPast : Cond.selects yX12_isPast.cls yX12_isPast yX12_isPast ∈ tbz := tp5 (q := (yX12_isPast, _)) (List.mem_of_getElem? (i := 5) rfl)
abbrev mX12_isPlace : Mi := (yX12_isPlace, cX12_isPlace, 1, some .boolean, 1, 25)
theorem lcX12_isPlace : Lc mX12_isPlace 1 := ⟨tbz_tb (tk6 (List.mem_of_getElem? (i := 161) rfl)) rfl, tbz_tb (tk1 (List.mem_of_getElem? (i := 12) rfl)) rfl, by decide, by decide, by decide +kernel⟩
theorem sxX12_isPlace : Cond.static yX12_isPlace ∈ tbz := tbz_tb (tk6 (List.mem_of_getElem? (i := 160) rfl)) rfl
abbrev mX12_isPoint : Mi := (yX12_isPoint, cX12_isPoint, 2, some .boolean, 1, 25)
theorem lcX12_isPoint : Lc mX12_isPoint 2 := ⟨tbz_tb (tk6 (List.mem_of_getElem? (i := 187) rfl)) rfl, tbz_tb (tk1 (List.mem_of_getElem? (i := 12) rfl)) rfl, by decide, by decide, by decide +kernel⟩
theorem sxX12_isPoint : Cond.static yX12_isPoint ∈ tbz := tbz_tb (tk6 (List.mem_of_getElem? (i := 186) rfl)) rfl
abbrev mX12_isRun : Mi := (yX12_isRun, cX12_isRun, 4, some .boolean, 2, 46)
theorem lcX12_isRun : Lc mX12_isRun 3 := ⟨tbz_tb (tk7 (List.mem_of_getElem? (i := 30) rfl)) rfl, tbz_tb (tk1 (List.mem_of_getElem? (i := 12) rfl)) rfl, by decide, by decide, by decide +kernel⟩
theorem imX12_isRun : Cond.instanceMethod yX12_isRun ∈ tbz := tbz_tb (tk7 (List.mem_of_getElem? (i := 29) rfl)) rfl
theorem seX12_isRun : Cond.selects yX12_isRun.cls yX12_isRun yX12_isRun ∈ tbz := tp3 (q := (yX12_isRun, _)) (List.mem_of_getElem? (i := 15) rfl)
abbrev mX12_isThere : Mi := (yX12_isThere, cX12_isThere, 2, some .boolean, 2, 46)
theorem lcX12_isThere : Lc mX12_isThere 1 := ⟨tbz_tb (tk7 (List.mem_of_getElem? (i := 18) rfl)) rfl, tbz_tb (tk1 (List.mem_of_getElem? (i := 12) rfl)) rfl, by decide, by decide, by decide +kernel⟩
theorem imX12_isThere : Cond.instanceMethod yX12_isThere ∈ tbz := tbz_tb (tk7 (List.mem_of_getElem? (i := 17) rfl)) rfl
theorem seX12_isThere : Cond.selects yX12_isThere.cls yX12_isThere yX12_isThere ∈ tbz := tp3 (q := (yX12_isThere, _)) (List.mem_of_getElem? (i := 13) rfl)
abbrev mX12_isUnit : Mi := (yX12_isUnit, cX12_isUnit, 3, some .boolean, 2, 46)
theorem lcX12_isUnit : Lc mX12_isUnit 2 := ⟨tbz_tb (tk6 (List.mem_of_getElem? (i := 215) rfl)) rfl, tbz_tb (tk1 (List.mem_of_getElem? (i := 12) rfl)) rfl, by decide, by decide, by decide +kernel⟩
theorem imX12_isUnit : Cond.instanceMethod yX12_isUnit ∈ tbz := tbz_tb (tk6 (List.mem_of_getElem? (i := 214) rfl)) rfl
theorem seX12_isUnit : Cond.selects yX12_isUnit.cls yX12_isUnit yX12_isUnit ∈ tbz := tp3 (q := (yX12_isUnit, _)) (List.mem_of_getElem? (i := 7) rfl)
abbrev mX12_judge : Mi := (yX12_judge, cX12_judge, 8, some .int, 3, 78)
theorem lcX12_judge : Lc mX12_judge 6 := ⟨tbz_tb (tk7 (List.mem_of_getElem? (i := 92) rfl)) rfl, tbz_tb (tk1 (List.mem_of_getElem? (i := 12) rfl)) rfl, by decide, by decide, by decide +kernel⟩
theorem imX12_judge : Cond.instanceMethod yX12_judge ∈ tbz := tbz_tb (tk7 (List.mem_of_getElem? (i := 90) rfl)) rfl
theorem seX12_judge : Cond.selects yX12_judge.cls yX12_judge yX12_judge ∈ tbz := tbz_tb (tk7 (List.mem_of_getElem? (i := 91) rfl)) rfl
abbrev mX12_knock : Mi := (yX12_knock, cX12_knock, 10, some .long, 2, 49)
theorem lcX12_knock : Lc mX12_knock 0 := ⟨tbz_tb (tk7 (List.mem_of_getElem? (i := 121) rfl)) rfl, tbz_tb (tk1 (List.mem_of_getElem? (i := 12) rfl)) rfl, by decide, by decide, by decide +kernel⟩
theorem imX12_knock : Cond.instanceMethod yX12_knock ∈ tbz := tbz_tb (tk7 (List.mem_of_getElem? (i := 119) rfl)) rfl
theorem seX12_knock : Cond.selects yX12_knock.cls yX12_knock yX12_knock ∈ tbz := tbz_tb (tk7 (List.mem_of_getElem? (i := 120) rfl)) rfl
abbrev mX12_knocked : Mi := (yX12_knocked, cX12_knocked, 3, some .long, 2, 46)
theorem lcX12_knocked : Lc mX12_knocked 2 := ⟨tbz_tb (tk7 (List.mem_of_getElem? (i := 136) rfl)) rfl, tbz_tb (tk1 (List.mem_of_getElem? (i := 12) rfl)) rfl, by decide, by decide, by decide +kernel⟩
theorem imX12_knocked : Cond.instanceMethod yX12_knocked ∈ tbz := tbz_tb (tk7 (List.mem_of_getElem? (i := 134) rfl)) rfl
theorem seX12_knocked : Cond.selects yX12_knocked.cls yX12_knocked yX12_knocked ∈ tbz := tbz_tb (tk7 (List.mem_of_getElem? (i := 135) rfl)) rfl
abbrev mX12_likes : Mi := (yX12_likes, cX12_likes, 4, some .int, 2, 49)
theorem lcX12_likes : Lc mX12_likes 2 := ⟨tbz_tb (tk7 (List.mem_of_getElem? (i := 201) rfl)) rfl, tbz_tb (tk1 (List.mem_of_getElem? (i := 12) rfl)) rfl, by decide, by decide, by decide +kernel⟩
theorem imX12_likes : Cond.instanceMethod yX12_likes ∈ tbz := tbz_tb (tk7 (List.mem_of_getElem? (i := 200) rfl)) rfl
theorem seX12_likes : Cond.selects yX12_likes.cls yX12_likes yX12_likes ∈ tbz := tp5 (q := (yX12_likes, _)) (List.mem_of_getElem? (i := 7) rfl)
abbrev mX12_listens : Mi := (yX12_listens, cX12_listens, 3, none, 5, 125)
theorem lcX12_listens : Lc mX12_listens 0 := ⟨tbz_tb (tk7 (List.mem_of_getElem? (i := 34) rfl)) rfl, tbz_tb (tk1 (List.mem_of_getElem? (i := 12) rfl)) rfl, by decide, by decide, by decide +kernel⟩
theorem imX12_listens : Cond.instanceMethod yX12_listens ∈ tbz := tbz_tb (tk7 (List.mem_of_getElem? (i := 33) rfl)) rfl
theorem seX12_listens : Cond.selects yX12_listens.cls yX12_listens yX12_listens ∈ tbz := tp4 (q := (yX12_listens, _)) (List.mem_of_getElem? (i := 0) rfl)
abbrev mX12_looks : Mi := (yX12_looks, cX12_looks, 4, none, 3, 72)
theorem lcX12_looks : Lc mX12_looks 1 := ⟨tbz_tb (tk7 (List.mem_of_getElem? (i := 197) rfl)) rfl, tbz_tb (tk1 (List.mem_of_getElem? (i := 12) rfl)) rfl, by decide, by decide, by decide +kernel⟩
theorem imX12_looks : Cond.instanceMethod yX12_looks ∈ tbz := tbz_tb (tk7 (List.mem_of_getElem? (i := 196) rfl)) rfl
theorem seX12_looks : Cond.selects yX12_looks.cls yX12_looks yX12_looks ∈ tbz := tp5 (q := (yX12_looks, _)) (List.mem_of_getElem? (i := 6) rfl)
abbrev mX12_lot : Mi := (yX12_lot, cX12_lot, 6, some .int, 3, 69)
theorem lcX12_lot : Lc mX12_lot 4 := ⟨tbz_tb (tk7 (List.mem_of_getElem? (i := 112) rfl)) rfl, tbz_tb (tk1 (List.mem_of_getElem? (i := 12) rfl)) rfl, by decide, by decide, by decide +kernel⟩
theorem imX12_lot : Cond.instanceMethod yX12_lot ∈ tbz := tbz_tb (tk7 (List.mem_of_getElem? (i := 110) rfl)) rfl
theorem seX12_lot : Cond.selects yX12_lot.cls yX12_lot yX12_lot ∈ tbz := tbz_tb (tk7 (List.mem_of_getElem? (i := 111) rfl)) rfl
abbrev mX12_moved : Mi := (yX12_moved, cX12_moved, 7, some .int, 2, 46)
theorem lcX12_moved : Lc mX12_moved 2 := ⟨tbz_tb (tk7 (List.mem_of_getElem? (i := 185) rfl)) rfl, tbz_tb (tk1 (List.mem_of_getElem? (i := 12) rfl)) rfl, by decide, by decide, by decide +kernel⟩
theorem imX12_moved : Cond.instanceMethod yX12_moved ∈ tbz := tbz_tb (tk7 (List.mem_of_getElem? (i := 183) rfl)) rfl
theorem seX12_moved : Cond.selects yX12_moved.cls yX12_moved yX12_moved ∈ tbz := tbz_tb (tk7 (List.mem_of_getElem? (i := 184) rfl)) rfl
abbrev mX12_offered : Mi := (yX12_offered, cX12_offered, 3, some .long, 0, 0)
theorem lcX12_offered : Lc mX12_offered 2 := ⟨tbz_tb (tk7 (List.mem_of_getElem? (i := 130) rfl)) rfl, tbz_tb (tk1 (List.mem_of_getElem? (i := 12) rfl)) rfl, by decide, by decide, by decide +kernel⟩
theorem imX12_offered : Cond.instanceMethod yX12_offered ∈ tbz := tbz_tb (tk7 (List.mem_of_getElem? (i := 129) rfl)) rfl
theorem seX12_offered : Cond.selects yX12_offered.cls yX12_offered yX12_offered ∈ tbz := tp4 (q := (yX12_offered, _)) (List.mem_of_getElem? (i := 12) rfl)
abbrev mX12_offers : Mi := (yX12_offers, cX12_offers, 6, some .int, 2, 45)
theorem lcX12_offers : Lc mX12_offers 2 := ⟨tbz_tb (tk7 (List.mem_of_getElem? (i := 116) rfl)) rfl, tbz_tb (tk1 (List.mem_of_getElem? (i := 12) rfl)) rfl, by decide, by decide, by decide +kernel⟩
theorem imX12_offers : Cond.instanceMethod yX12_offers ∈ tbz := tbz_tb (tk7 (List.mem_of_getElem? (i := 114) rfl)) rfl
theorem seX12_offers : Cond.selects yX12_offers.cls yX12_offers yX12_offers ∈ tbz := tbz_tb (tk7 (List.mem_of_getElem? (i := 115) rfl)) rfl
abbrev mX12_ownRun : Mi := (yX12_ownRun, cX12_ownRun, 4, some .int, 0, 0)
theorem lcX12_ownRun : Lc mX12_ownRun 1 := ⟨tbz_tb (tk7 (List.mem_of_getElem? (i := 218) rfl)) rfl, tbz_tb (tk1 (List.mem_of_getElem? (i := 12) rfl)) rfl, by decide, by decide, by decide +kernel⟩
theorem imX12_ownRun : Cond.instanceMethod yX12_ownRun ∈ tbz := tbz_tb (tk7 (List.mem_of_getElem? (i := 217) rfl)) rfl
theorem seX12_ownRun : Cond.selects yX12_ownRun.cls yX12_ownRun yX12_ownRun ∈ tbz := tp5 (q := (yX12_ownRun, _)) (List.mem_of_getElem? (i := 9) rfl)
abbrev mX12_ownerOf : Mi := (yX12_ownerOf, cX12_ownerOf, 6, some .int, 3, 78)
theorem lcX12_ownerOf : Lc mX12_ownerOf 4 := ⟨tbz_tb (tk7 (List.mem_of_getElem? (i := 72) rfl)) rfl, tbz_tb (tk1 (List.mem_of_getElem? (i := 12) rfl)) rfl, by decide, by decide, by decide +kernel⟩
theorem imX12_ownerOf : Cond.instanceMethod yX12_ownerOf ∈ tbz := tbz_tb (tk7 (List.mem_of_getElem? (i := 71) rfl)) rfl
theorem seX12_ownerOf : Cond.selects yX12_ownerOf.cls yX12_ownerOf yX12_ownerOf ∈ tbz := tp4 (q := (yX12_ownerOf, _)) (List.mem_of_getElem? (i := 5) rfl)
abbrev mX12_owns : Mi := (yX12_owns, cX12_owns, 4, none, 0, 0)
theorem lcX12_owns : Lc mX12_owns 2 := ⟨tbz_tb (tk7 (List.mem_of_getElem? (i := 100) rfl)) rfl, tbz_tb (tk1 (List.mem_of_getElem? (i := 12) rfl)) rfl, by decide, by decide, by decide +kernel⟩
theorem imX12_owns : Cond.instanceMethod yX12_owns ∈ tbz := tbz_tb (tk7 (List.mem_of_getElem? (i := 99) rfl)) rfl
theorem seX12_owns : Cond.selects yX12_owns.cls yX12_owns yX12_owns ∈ tbz := tp4 (q := (yX12_owns, _)) (List.mem_of_getElem? (i := 10) rfl)
abbrev mX12_paste : Mi := (yX12_paste, cX12_paste, 7, some .int, 2, 45)
theorem lcX12_paste : Lc mX12_paste 5 := ⟨tbz_tb (tk6 (List.mem_of_getElem? (i := 180) rfl)) rfl, tbz_tb (tk1 (List.mem_of_getElem? (i := 12) rfl)) rfl, by decide, by decide, by decide +kernel⟩
theorem imX12_paste : Cond.instanceMethod yX12_paste ∈ tbz := tbz_tb (tk6 (List.mem_of_getElem? (i := 178) rfl)) rfl
theorem seX12_paste : Cond.selects yX12_paste.cls yX12_paste yX12_paste ∈ tbz := tbz_tb (tk6 (List.mem_of_getElem? (i := 179) rfl)) rfl
abbrev mX12_pillar : Mi := (yX12_pillar, cX12_pillar, 4, some .int, 2, 46)
theorem lcX12_pillar : Lc mX12_pillar 3 := ⟨tbz_tb (tk6 (List.mem_of_getElem? (i := 200) rfl)) rfl, tbz_tb (tk1 (List.mem_of_getElem? (i := 12) rfl)) rfl, by decide, by decide, by decide +kernel⟩
theorem imX12_pillar : Cond.instanceMethod yX12_pillar ∈ tbz := tbz_tb (tk6 (List.mem_of_getElem? (i := 198) rfl)) rfl
theorem seX12_pillar : Cond.selects yX12_pillar.cls yX12_pillar yX12_pillar ∈ tbz := tbz_tb (tk6 (List.mem_of_getElem? (i := 199) rfl)) rfl
abbrev mX12_plotOf : Mi := (yX12_plotOf, cX12_plotOf, 3, some .int, 1, 25)
theorem lcX12_plotOf : Lc mX12_plotOf 2 := ⟨tbz_tb (tk7 (List.mem_of_getElem? (i := 108) rfl)) rfl, tbz_tb (tk1 (List.mem_of_getElem? (i := 12) rfl)) rfl, by decide, by decide, by decide +kernel⟩
theorem imX12_plotOf : Cond.instanceMethod yX12_plotOf ∈ tbz := tbz_tb (tk7 (List.mem_of_getElem? (i := 106) rfl)) rfl
theorem seX12_plotOf : Cond.selects yX12_plotOf.cls yX12_plotOf yX12_plotOf ∈ tbz := tbz_tb (tk7 (List.mem_of_getElem? (i := 107) rfl)) rfl
abbrev mX12_pulpit : Mi := (yX12_pulpit, cX12_pulpit, 4, some .int, 2, 46)
theorem lcX12_pulpit : Lc mX12_pulpit 3 := ⟨tbz_tb (tk6 (List.mem_of_getElem? (i := 184) rfl)) rfl, tbz_tb (tk1 (List.mem_of_getElem? (i := 12) rfl)) rfl, by decide, by decide, by decide +kernel⟩
theorem imX12_pulpit : Cond.instanceMethod yX12_pulpit ∈ tbz := tbz_tb (tk6 (List.mem_of_getElem? (i := 182) rfl)) rfl
theorem seX12_pulpit : Cond.selects yX12_pulpit.cls yX12_pulpit yX12_pulpit ∈ tbz := tbz_tb (tk6 (List.mem_of_getElem? (i := 183) rfl)) rfl
abbrev mX12_right : Mi := (yX12_right, cX12_right, 10, some .int, 3, 69)
theorem lcX12_right : Lc mX12_right 8 := ⟨tbz_tb (tk7 (List.mem_of_getElem? (i := 42) rfl)) rfl, tbz_tb (tk1 (List.mem_of_getElem? (i := 12) rfl)) rfl, by decide, by decide, by decide +kernel⟩
theorem imX12_right : Cond.instanceMethod yX12_right ∈ tbz := tbz_tb (tk7 (List.mem_of_getElem? (i := 40) rfl)) rfl
theorem seX12_right : Cond.selects yX12_right.cls yX12_right yX12_right ∈ tbz := tbz_tb (tk7 (List.mem_of_getElem? (i := 41) rfl)) rfl
abbrev mX12_rightOf : Mi := (yX12_rightOf, cX12_rightOf, 3, some .int, 1, 25)
theorem lcX12_rightOf : Lc mX12_rightOf 2 := ⟨tbz_tb (tk7 (List.mem_of_getElem? (i := 60) rfl)) rfl, tbz_tb (tk1 (List.mem_of_getElem? (i := 12) rfl)) rfl, by decide, by decide, by decide +kernel⟩
theorem imX12_rightOf : Cond.instanceMethod yX12_rightOf ∈ tbz := tbz_tb (tk7 (List.mem_of_getElem? (i := 58) rfl)) rfl
theorem seX12_rightOf : Cond.selects yX12_rightOf.cls yX12_rightOf yX12_rightOf ∈ tbz := tbz_tb (tk7 (List.mem_of_getElem? (i := 59) rfl)) rfl
abbrev mX12_row : Mi := (yX12_row, cX12_row, 5, some .int, 2, 45)
theorem lcX12_row : Lc mX12_row 3 := ⟨tbz_tb (tk6 (List.mem_of_getElem? (i := 158) rfl)) rfl, tbz_tb (tk1 (List.mem_of_getElem? (i := 12) rfl)) rfl, by decide, by decide, by decide +kernel⟩
theorem imX12_row : Cond.instanceMethod yX12_row ∈ tbz := tbz_tb (tk6 (List.mem_of_getElem? (i := 156) rfl)) rfl
theorem seX12_row : Cond.selects yX12_row.cls yX12_row yX12_row ∈ tbz := tbz_tb (tk6 (List.mem_of_getElem? (i := 157) rfl)) rfl
abbrev mX12_sat : Mi := (yX12_sat, cX12_sat, 2, some .int, 1, 25)
theorem lcX12_sat : Lc mX12_sat 1 := ⟨tbz_tb (tk7 (List.mem_of_getElem? (i := 226) rfl)) rfl, tbz_tb (tk1 (List.mem_of_getElem? (i := 12) rfl)) rfl, by decide, by decide, by decide +kernel⟩
theorem imX12_sat : Cond.instanceMethod yX12_sat ∈ tbz := tbz_tb (tk7 (List.mem_of_getElem? (i := 224) rfl)) rfl
theorem seX12_sat : Cond.selects yX12_sat.cls yX12_sat yX12_sat ∈ tbz := tbz_tb (tk7 (List.mem_of_getElem? (i := 225) rfl)) rfl
abbrev mX12_seat : Mi := (yX12_seat, cX12_seat, 5, some .int, 2, 46)
theorem lcX12_seat : Lc mX12_seat 3 := ⟨tbz_tb (tk7 (List.mem_of_getElem? (i := 177) rfl)) rfl, tbz_tb (tk1 (List.mem_of_getElem? (i := 12) rfl)) rfl, by decide, by decide, by decide +kernel⟩
theorem imX12_seat : Cond.instanceMethod yX12_seat ∈ tbz := tbz_tb (tk7 (List.mem_of_getElem? (i := 175) rfl)) rfl
theorem seX12_seat : Cond.selects yX12_seat.cls yX12_seat yX12_seat ∈ tbz := tbz_tb (tk7 (List.mem_of_getElem? (i := 176) rfl)) rfl
abbrev mX12_seats : Mi := (yX12_seats, cX12_seats, 11, none, 6, 147)
theorem lcX12_seats : Lc mX12_seats 1 := ⟨tbz_tb (tk7 (List.mem_of_getElem? (i := 145) rfl)) rfl, tbz_tb (tk1 (List.mem_of_getElem? (i := 12) rfl)) rfl, by decide, by decide, by decide +kernel⟩
theorem imX12_seats : Cond.instanceMethod yX12_seats ∈ tbz := tbz_tb (tk7 (List.mem_of_getElem? (i := 144) rfl)) rfl
theorem seX12_seats : Cond.selects yX12_seats.cls yX12_seats yX12_seats ∈ tbz := tp4 (q := (yX12_seats, _)) (List.mem_of_getElem? (i := 13) rfl)
abbrev mX12_sell : Mi := (yX12_sell, cX12_sell, 4, some .int, 3, 67)
theorem lcX12_sell : Lc mX12_sell 2 := ⟨tbz_tb (tk7 (List.mem_of_getElem? (i := 104) rfl)) rfl, tbz_tb (tk1 (List.mem_of_getElem? (i := 12) rfl)) rfl, by decide, by decide, by decide +kernel⟩
theorem imX12_sell : Cond.instanceMethod yX12_sell ∈ tbz := tbz_tb (tk7 (List.mem_of_getElem? (i := 102) rfl)) rfl
theorem seX12_sell : Cond.selects yX12_sell.cls yX12_sell yX12_sell ∈ tbz := tbz_tb (tk7 (List.mem_of_getElem? (i := 103) rfl)) rfl
abbrev mX12_side : Mi := (yX12_side, cX12_side, 5, some .int, 1, 20)
theorem lcX12_side : Lc mX12_side 4 := ⟨tbz_tb (tk6 (List.mem_of_getElem? (i := 237) rfl)) rfl, tbz_tb (tk1 (List.mem_of_getElem? (i := 12) rfl)) rfl, by decide, by decide, by decide +kernel⟩
theorem imX12_side : Cond.instanceMethod yX12_side ∈ tbz := tbz_tb (tk6 (List.mem_of_getElem? (i := 236) rfl)) rfl
theorem seX12_side : Cond.selects yX12_side.cls yX12_side yX12_side ∈ tbz := tp3 (q := (yX12_side, _)) (List.mem_of_getElem? (i := 12) rfl)
abbrev mX12_stops : Mi := (yX12_stops, cX12_stops, 2, none, 0, 0)
theorem lcX12_stops : Lc mX12_stops 1 := ⟨tbz_tb (tk7 (List.mem_of_getElem? (i := 56) rfl)) rfl, tbz_tb (tk1 (List.mem_of_getElem? (i := 12) rfl)) rfl, by decide, by decide, by decide +kernel⟩
theorem imX12_stops : Cond.instanceMethod yX12_stops ∈ tbz := tbz_tb (tk7 (List.mem_of_getElem? (i := 55) rfl)) rfl
theorem seX12_stops : Cond.selects yX12_stops.cls yX12_stops yX12_stops ∈ tbz := tp4 (q := (yX12_stops, _)) (List.mem_of_getElem? (i := 3) rfl)
abbrev mX12_sumsBut : Mi := (yX12_sumsBut, cX12_sumsBut, 7, some .long, 1, 23)
theorem lcX12_sumsBut : Lc mX12_sumsBut 1 := ⟨tbz_tb (tk7 (List.mem_of_getElem? (i := 126) rfl)) rfl, tbz_tb (tk1 (List.mem_of_getElem? (i := 12) rfl)) rfl, by decide, by decide, by decide +kernel⟩
theorem imX12_sumsBut : Cond.instanceMethod yX12_sumsBut ∈ tbz := tbz_tb (tk7 (List.mem_of_getElem? (i := 125) rfl)) rfl
theorem seX12_sumsBut : Cond.selects yX12_sumsBut.cls yX12_sumsBut yX12_sumsBut ∈ tbz := tp4 (q := (yX12_sumsBut, _)) (List.mem_of_getElem? (i := 11) rfl)
abbrev mX12_sunday : Mi := (yX12_sunday, cX12_sunday, 11, some .int, 6, 147)
theorem lcX12_sunday : Lc mX12_sunday 2 := ⟨tbz_tb (tk7 (List.mem_of_getElem? (i := 213) rfl)) rfl, tbz_tb (tk1 (List.mem_of_getElem? (i := 12) rfl)) rfl, by decide, by decide, by decide +kernel⟩
theorem imX12_sunday : Cond.instanceMethod yX12_sunday ∈ tbz := tbz_tb (tk7 (List.mem_of_getElem? (i := 211) rfl)) rfl
theorem seX12_sunday : Cond.selects yX12_sunday.cls yX12_sunday yX12_sunday ∈ tbz := tbz_tb (tk7 (List.mem_of_getElem? (i := 212) rfl)) rfl
abbrev mX12_takes : Mi := (yX12_takes, cX12_takes, 6, none, 2, 49)
theorem lcX12_takes : Lc mX12_takes 4 := ⟨tbz_tb (tk7 (List.mem_of_getElem? (i := 157) rfl)) rfl, tbz_tb (tk1 (List.mem_of_getElem? (i := 12) rfl)) rfl, by decide, by decide, by decide +kernel⟩
theorem imX12_takes : Cond.instanceMethod yX12_takes ∈ tbz := tbz_tb (tk7 (List.mem_of_getElem? (i := 156) rfl)) rfl
theorem seX12_takes : Cond.selects yX12_takes.cls yX12_takes yX12_takes ∈ tbz := tp5 (q := (yX12_takes, _)) (List.mem_of_getElem? (i := 0) rfl)
abbrev mX12_tear : Mi := (yX12_tear, cX12_tear, 2, some .boolean, 2, 45)
theorem lcX12_tear : Lc mX12_tear 1 := ⟨tbz_tb (tk6 (List.mem_of_getElem? (i := 169) rfl)) rfl, tbz_tb (tk1 (List.mem_of_getElem? (i := 12) rfl)) rfl, by decide, by decide, by decide +kernel⟩
theorem imX12_tear : Cond.instanceMethod yX12_tear ∈ tbz := tbz_tb (tk6 (List.mem_of_getElem? (i := 167) rfl)) rfl
theorem seX12_tear : Cond.selects yX12_tear.cls yX12_tear yX12_tear ∈ tbz := tbz_tb (tk6 (List.mem_of_getElem? (i := 168) rfl)) rfl
abbrev mX12_terms : Mi := (yX12_terms, cX12_terms, 3, some .int, 1, 25)
theorem lcX12_terms : Lc mX12_terms 2 := ⟨tbz_tb (tk6 (List.mem_of_getElem? (i := 193) rfl)) rfl, tbz_tb (tk1 (List.mem_of_getElem? (i := 12) rfl)) rfl, by decide, by decide, by decide +kernel⟩
theorem imX12_terms : Cond.instanceMethod yX12_terms ∈ tbz := tbz_tb (tk6 (List.mem_of_getElem? (i := 191) rfl)) rfl
theorem seX12_terms : Cond.selects yX12_terms.cls yX12_terms yX12_terms ∈ tbz := tbz_tb (tk6 (List.mem_of_getElem? (i := 192) rfl)) rfl
abbrev mX12_unit : Mi := (yX12_unit, cX12_unit, 4, some .int, 5, 125)
theorem lcX12_unit : Lc mX12_unit 3 := ⟨tbz_tb (tk6 (List.mem_of_getElem? (i := 211) rfl)) rfl, tbz_tb (tk1 (List.mem_of_getElem? (i := 12) rfl)) rfl, by decide, by decide, by decide +kernel⟩
theorem imX12_unit : Cond.instanceMethod yX12_unit ∈ tbz := tbz_tb (tk6 (List.mem_of_getElem? (i := 209) rfl)) rfl
theorem seX12_unit : Cond.selects yX12_unit.cls yX12_unit yX12_unit ∈ tbz := tbz_tb (tk6 (List.mem_of_getElem? (i := 210) rfl)) rfl
abbrev mX12_whose : Mi := (yX12_whose, cX12_whose, 5, some .int, 1, 25)
theorem lcX12_whose : Lc mX12_whose 3 := ⟨tbz_tb (tk7 (List.mem_of_getElem? (i := 84) rfl)) rfl, tbz_tb (tk1 (List.mem_of_getElem? (i := 12) rfl)) rfl, by decide, by decide, by decide +kernel⟩
theorem imX12_whose : Cond.instanceMethod yX12_whose ∈ tbz := tbz_tb (tk7 (List.mem_of_getElem? (i := 83) rfl)) rfl
theorem seX12_whose : Cond.selects yX12_whose.cls yX12_whose yX12_whose ∈ tbz := tp4 (q := (yX12_whose, _)) (List.mem_of_getElem? (i := 8) rfl)
abbrev mX12_worth : Mi := (yX12_worth, cX12_worth, 4, some .int, 6, 147)
theorem lcX12_worth : Lc mX12_worth 3 := ⟨tbz_tb (tk7 (List.mem_of_getElem? (i := 26) rfl)) rfl, tbz_tb (tk1 (List.mem_of_getElem? (i := 12) rfl)) rfl, by decide, by decide, by decide +kernel⟩
theorem imX12_worth : Cond.instanceMethod yX12_worth ∈ tbz := tbz_tb (tk7 (List.mem_of_getElem? (i := 24) rfl)) rfl
theorem seX12_worth : Cond.selects yX12_worth.cls yX12_worth yX12_worth ∈ tbz := tbz_tb (tk7 (List.mem_of_getElem? (i := 25) rfl)) rfl
abbrev mX12_worthOf : Mi := (yX12_worthOf, cX12_worthOf, 9, some .int, 1, 21)
theorem lcX12_worthOf : Lc mX12_worthOf 4 := ⟨tbz_tb (tk7 (List.mem_of_getElem? (i := 38) rfl)) rfl, tbz_tb (tk1 (List.mem_of_getElem? (i := 12) rfl)) rfl, by decide, by decide, by decide +kernel⟩
theorem imX12_worthOf : Cond.instanceMethod yX12_worthOf ∈ tbz := tbz_tb (tk7 (List.mem_of_getElem? (i := 37) rfl)) rfl
theorem seX12_worthOf : Cond.selects yX12_worthOf.cls yX12_worthOf yX12_worthOf ∈ tbz := tp4 (q := (yX12_worthOf, _)) (List.mem_of_getElem? (i := 1) rfl)
abbrev mX12_write : Mi := (yX12_write, cX12_write, 5, some .int, 2, 45)
theorem lcX12_write : Lc mX12_write 3 := ⟨tbz_tb (tk6 (List.mem_of_getElem? (i := 173) rfl)) rfl, tbz_tb (tk1 (List.mem_of_getElem? (i := 12) rfl)) rfl, by decide, by decide, by decide +kernel⟩
theorem imX12_write : Cond.instanceMethod yX12_write ∈ tbz := tbz_tb (tk6 (List.mem_of_getElem? (i := 171) rfl)) rfl
theorem seX12_write : Cond.selects yX12_write.cls yX12_write yX12_write ∈ tbz := tbz_tb (tk6 (List.mem_of_getElem? (i := 172) rfl)) rfl
abbrev mJ6_signum_0f7a4 : Mi := (yJ6_signum_0f7a4, cJ6_signum_0f7a4, 1, some .int, 0, 0)
theorem lcJ6_signum_0f7a4 : Lc mJ6_signum_0f7a4 1 := ⟨tbz_tb (tk7 (List.mem_of_getElem? (i := 0) rfl)) rfl, tbz_tb (tk1 (List.mem_of_getElem? (i := 16) rfl)) rfl, by decide, by decide, by decide +kernel⟩
theorem sxJ6_signum_0f7a4 : Cond.static yJ6_signum_0f7a4 ∈ tbz := tbz_tb (tk6 (List.mem_of_getElem? (i := 239) rfl)) rfl
abbrev mJ9_max_7cf53 : Mi := (yJ9_max_7cf53, cJ9_max_7cf53, 2, some .int, 0, 0)
theorem lcJ9_max_7cf53 : Lc mJ9_max_7cf53 2 := ⟨tbz_tb (tk2 (List.mem_of_getElem? (i := 157) rfl)) rfl, tbz_tb (tk1 (List.mem_of_getElem? (i := 13) rfl)) rfl, by decide, by decide, by decide +kernel⟩
theorem sxJ9_max_7cf53 : Cond.static yJ9_max_7cf53 ∈ tbz := tbz_tb (tk2 (List.mem_of_getElem? (i := 156) rfl)) rfl
abbrev mJ9_max_f86c9 : Mi := (yJ9_max_f86c9, cJ9_max_f86c9, 4, some .long, 0, 0)
theorem lcJ9_max_f86c9 : Lc mJ9_max_f86c9 2 := ⟨tbz_tb (tk5 (List.mem_of_getElem? (i := 24) rfl)) rfl, tbz_tb (tk1 (List.mem_of_getElem? (i := 13) rfl)) rfl, by decide, by decide, by decide +kernel⟩
theorem sxJ9_max_f86c9 : Cond.static yJ9_max_f86c9 ∈ tbz := tbz_tb (tk5 (List.mem_of_getElem? (i := 23) rfl)) rfl
abbrev mJ9_min_7cf53 : Mi := (yJ9_min_7cf53, cJ9_min_7cf53, 2, some .int, 0, 0)
theorem lcJ9_min_7cf53 : Lc mJ9_min_7cf53 2 := ⟨tbz_tb (tk2 (List.mem_of_getElem? (i := 160) rfl)) rfl, tbz_tb (tk1 (List.mem_of_getElem? (i := 13) rfl)) rfl, by decide, by decide, by decide +kernel⟩
theorem sxJ9_min_7cf53 : Cond.static yJ9_min_7cf53 ∈ tbz := tbz_tb (tk2 (List.mem_of_getElem? (i := 159) rfl)) rfl
abbrev mJ7_fill_53178 : Mi := (yJ7_fill_53178, cJ7_fill_53178, 4, none, 0, 0)
theorem lcJ7_fill_53178 : Lc mJ7_fill_53178 2 := ⟨tbz_tb (tk1 (List.mem_of_getElem? (i := 112) rfl)) rfl, tbz_tb (tk1 (List.mem_of_getElem? (i := 5) rfl)) rfl, by decide, by decide, by decide +kernel⟩
theorem sxJ7_fill_53178 : Cond.static yJ7_fill_53178 ∈ tbz := tbz_tb (tk1 (List.mem_of_getElem? (i := 111) rfl)) rfl
abbrev mJ7_fill_fda19 : Mi := (yJ7_fill_fda19, cJ7_fill_fda19, 5, none, 1, 30)
theorem lcJ7_fill_fda19 : Lc mJ7_fill_fda19 4 := ⟨tbz_tb (tk3 (List.mem_of_getElem? (i := 130) rfl)) rfl, tbz_tb (tk1 (List.mem_of_getElem? (i := 5) rfl)) rfl, by decide, by decide, by decide +kernel⟩
theorem sxJ7_fill_fda19 : Cond.static yJ7_fill_fda19 ∈ tbz := tbz_tb (tk3 (List.mem_of_getElem? (i := 129) rfl)) rfl
abbrev mJ7_fill_bad5a : Mi := (yJ7_fill_bad5a, cJ7_fill_bad5a, 6, none, 1, 30)
theorem lcJ7_fill_bad5a : Lc mJ7_fill_bad5a 4 := ⟨tbz_tb (tk5 (List.mem_of_getElem? (i := 21) rfl)) rfl, tbz_tb (tk1 (List.mem_of_getElem? (i := 5) rfl)) rfl, by decide, by decide, by decide +kernel⟩
theorem sxJ7_fill_bad5a : Cond.static yJ7_fill_bad5a ∈ tbz := tbz_tb (tk5 (List.mem_of_getElem? (i := 20) rfl)) rfl
abbrev mJ7_rangeCheck_23922 : Mi := (yJ7_rangeCheck_23922, cJ7_rangeCheck_23922, 3, none, 0, 0)
theorem lcJ7_rangeCheck_23922 : Lc mJ7_rangeCheck_23922 3 := ⟨tbz_tb (tk3 (List.mem_of_getElem? (i := 133) rfl)) rfl, tbz_tb (tk1 (List.mem_of_getElem? (i := 5) rfl)) rfl, by decide, by decide, by decide +kernel⟩
theorem sxJ7_rangeCheck_23922 : Cond.static yJ7_rangeCheck_23922 ∈ tbz := tbz_tb (tk3 (List.mem_of_getElem? (i := 132) rfl)) rfl
theorem clL_7 : Cond.classLink RL 7 RX11 ∈ tbz := tbz_tb (tk1 (List.mem_of_getElem? (i := 18) rfl)) rfl
theorem mlL_9 : Cond.methodLink RL 9 yX11_init ∈ tbz := tbz_tb (tk1 (List.mem_of_getElem? (i := 20) rfl)) rfl
theorem mlX11_1 : Cond.methodLink RX11 1 Lib.objectInit ∈ tbz := tbz_tb (tk1 (List.mem_of_getElem? (i := 23) rfl)) rfl
theorem clX11_7 : Cond.classLink RX11 7 RX1 ∈ tbz := tbz_tb (tk1 (List.mem_of_getElem? (i := 26) rfl)) rfl
theorem mlX1_3 : Cond.methodLink RX1 3 Lib.objectInit ∈ tbz := tbz_tb (tk1 (List.mem_of_getElem? (i := 31) rfl)) rfl
theorem flX1_9 : Fl RX1 9 1 0 false := ⟨_, rfl, Nat.le_of_ble_eq_true rfl, tbz_tb (tk1 (List.mem_of_getElem? (i := 32) rfl)) rfl, rfl, rfl⟩
theorem flX1_15 : Fl RX1 15 1 1 false := ⟨_, rfl, Nat.le_of_ble_eq_true rfl, tbz_tb (tk1 (List.mem_of_getElem? (i := 33) rfl)) rfl, rfl, rfl⟩
theorem flX1_18 : Fl RX1 18 1 2 false := ⟨_, rfl, Nat.le_of_ble_eq_true rfl, tbz_tb (tk1 (List.mem_of_getElem? (i := 34) rfl)) rfl, rfl, rfl⟩
theorem flX1_53 : Fl RX1 53 1 3 false := ⟨_, rfl, Nat.le_of_ble_eq_true rfl, tbz_tb (tk1 (List.mem_of_getElem? (i := 35) rfl)) rfl, rfl, rfl⟩
theorem flX11_415 : Fl RX11 415 1 3 false := ⟨_, rfl, Nat.le_of_ble_eq_true rfl, tbz_tb (tk1 (List.mem_of_getElem? (i := 36) rfl)) rfl, rfl, rfl⟩
theorem flX1_21 : Fl RX1 21 1 4 true := ⟨_, rfl, Nat.le_of_ble_eq_true rfl, tbz_tb (tk1 (List.mem_of_getElem? (i := 37) rfl)) rfl, rfl, rfl⟩
theorem flX1_25 : Fl RX1 25 1 5 true := ⟨_, rfl, Nat.le_of_ble_eq_true rfl, tbz_tb (tk1 (List.mem_of_getElem? (i := 38) rfl)) rfl, rfl, rfl⟩
theorem flX1_28 : Fl RX1 28 1 6 true := ⟨_, rfl, Nat.le_of_ble_eq_true rfl, tbz_tb (tk1 (List.mem_of_getElem? (i := 39) rfl)) rfl, rfl, rfl⟩
theorem flX1_56 : Fl RX1 56 1 7 false := ⟨_, rfl, Nat.le_of_ble_eq_true rfl, tbz_tb (tk1 (List.mem_of_getElem? (i := 40) rfl)) rfl, rfl, rfl⟩
theorem flX11_108 : Fl RX11 108 1 7 false := ⟨_, rfl, Nat.le_of_ble_eq_true rfl, tbz_tb (tk1 (List.mem_of_getElem? (i := 41) rfl)) rfl, rfl, rfl⟩
theorem flX1_31 : Fl RX1 31 1 8 true := ⟨_, rfl, Nat.le_of_ble_eq_true rfl, tbz_tb (tk1 (List.mem_of_getElem? (i := 42) rfl)) rfl, rfl, rfl⟩
theorem flX11_400 : Fl RX11 400 1 8 true := ⟨_, rfl, Nat.le_of_ble_eq_true rfl, tbz_tb (tk1 (List.mem_of_getElem? (i := 43) rfl)) rfl, rfl, rfl⟩
theorem flX1_34 : Fl RX1 34 1 9 true := ⟨_, rfl, Nat.le_of_ble_eq_true rfl, tbz_tb (tk1 (List.mem_of_getElem? (i := 44) rfl)) rfl, rfl, rfl⟩
theorem flX11_403 : Fl RX11 403 1 9 true := ⟨_, rfl, Nat.le_of_ble_eq_true rfl, tbz_tb (tk1 (List.mem_of_getElem? (i := 45) rfl)) rfl, rfl, rfl⟩
theorem flX1_37 : Fl RX1 37 1 10 true := ⟨_, rfl, Nat.le_of_ble_eq_true rfl, tbz_tb (tk1 (List.mem_of_getElem? (i := 46) rfl)) rfl, rfl, rfl⟩
theorem flX11_406 : Fl RX11 406 1 10 true := ⟨_, rfl, Nat.le_of_ble_eq_true rfl, tbz_tb (tk1 (List.mem_of_getElem? (i := 47) rfl)) rfl, rfl, rfl⟩
theorem flX1_40 : Fl RX1 40 1 11 true := ⟨_, rfl, Nat.le_of_ble_eq_true rfl, tbz_tb (tk1 (List.mem_of_getElem? (i := 48) rfl)) rfl, rfl, rfl⟩
theorem flX10_86 : Fl RX10 86 1 11 true := ⟨_, rfl, Nat.le_of_ble_eq_true rfl, tbz_tb (tk1 (List.mem_of_getElem? (i := 49) rfl)) rfl, rfl, rfl⟩
theorem flX11_409 : Fl RX11 409 1 11 true := ⟨_, rfl, Nat.le_of_ble_eq_true rfl, tbz_tb (tk1 (List.mem_of_getElem? (i := 50) rfl)) rfl, rfl, rfl⟩
theorem flX1_44 : Fl RX1 44 1 12 true := ⟨_, rfl, Nat.le_of_ble_eq_true rfl, tbz_tb (tk1 (List.mem_of_getElem? (i := 51) rfl)) rfl, rfl, rfl⟩
theorem flX11_218 : Fl RX11 218 1 12 true := ⟨_, rfl, Nat.le_of_ble_eq_true rfl, tbz_tb (tk1 (List.mem_of_getElem? (i := 52) rfl)) rfl, rfl, rfl⟩
theorem flX1_47 : Fl RX1 47 1 13 true := ⟨_, rfl, Nat.le_of_ble_eq_true rfl, tbz_tb (tk1 (List.mem_of_getElem? (i := 53) rfl)) rfl, rfl, rfl⟩
theorem flX11_221 : Fl RX11 221 1 13 true := ⟨_, rfl, Nat.le_of_ble_eq_true rfl, tbz_tb (tk1 (List.mem_of_getElem? (i := 54) rfl)) rfl, rfl, rfl⟩
theorem clX11_16 : Cond.classLink RX11 16 RX4 ∈ tbz := tbz_tb (tk1 (List.mem_of_getElem? (i := 86) rfl)) rfl
theorem mlX4_3 : Cond.methodLink RX4 3 Lib.objectInit ∈ tbz := tbz_tb (tk1 (List.mem_of_getElem? (i := 91) rfl)) rfl
theorem clX4_9 : Cond.classLink RX4 9 RX2 ∈ tbz := tbz_tb (tk1 (List.mem_of_getElem? (i := 92) rfl)) rfl
theorem flX4_11 : Fl RX4 11 4 0 true := ⟨_, rfl, Nat.le_of_ble_eq_true rfl, tbz_tb (tk1 (List.mem_of_getElem? (i := 94) rfl)) rfl, rfl, rfl⟩
theorem flX4_17 : Fl RX4 17 4 1 false := ⟨_, rfl, Nat.le_of_ble_eq_true rfl, tbz_tb (tk1 (List.mem_of_getElem? (i := 95) rfl)) rfl, rfl, rfl⟩
theorem flX11_304 : Fl RX11 304 4 1 false := ⟨_, rfl, Nat.le_of_ble_eq_true rfl, tbz_tb (tk1 (List.mem_of_getElem? (i := 96) rfl)) rfl, rfl, rfl⟩
theorem clX11_23 : Cond.classLink RX11 23 RX3 ∈ tbz := tbz_tb (tk1 (List.mem_of_getElem? (i := 102) rfl)) rfl
theorem mlX11_25 : Cond.methodLink RX11 25 yX3_init ∈ tbz := tbz_tb (tk1 (List.mem_of_getElem? (i := 104) rfl)) rfl
theorem mlX3_3 : Cond.methodLink RX3 3 Lib.objectInit ∈ tbz := tbz_tb (tk1 (List.mem_of_getElem? (i := 107) rfl)) rfl
theorem clX3_9 : Cond.classLink RX3 9 RX5 ∈ tbz := tbz_tb (tk1 (List.mem_of_getElem? (i := 108) rfl)) rfl
theorem mlX3_24 : Cond.methodLink RX3 24 yJ7_fill_53178 ∈ tbz := tbz_tb (tk1 (List.mem_of_getElem? (i := 110) rfl)) rfl
theorem flX3_11 : Fl RX3 11 3 0 true := ⟨_, rfl, Nat.le_of_ble_eq_true rfl, tbz_tb (tk1 (List.mem_of_getElem? (i := 113) rfl)) rfl, rfl, rfl⟩
theorem flX3_48 : Fl RX3 48 3 1 false := ⟨_, rfl, Nat.le_of_ble_eq_true rfl, tbz_tb (tk1 (List.mem_of_getElem? (i := 114) rfl)) rfl, rfl, rfl⟩
theorem flX11_418 : Fl RX11 418 3 1 false := ⟨_, rfl, Nat.le_of_ble_eq_true rfl, tbz_tb (tk1 (List.mem_of_getElem? (i := 115) rfl)) rfl, rfl, rfl⟩
theorem flX11_167 : Fl RX11 167 3 2 false := ⟨_, rfl, Nat.le_of_ble_eq_true rfl, tbz_tb (tk1 (List.mem_of_getElem? (i := 116) rfl)) rfl, rfl, rfl⟩
theorem flX3_17 : Fl RX3 17 3 3 true := ⟨_, rfl, Nat.le_of_ble_eq_true rfl, tbz_tb (tk1 (List.mem_of_getElem? (i := 117) rfl)) rfl, rfl, rfl⟩
theorem flX3_21 : Fl RX3 21 3 4 true := ⟨_, rfl, Nat.le_of_ble_eq_true rfl, tbz_tb (tk1 (List.mem_of_getElem? (i := 118) rfl)) rfl, rfl, rfl⟩
theorem clX11_30 : Cond.classLink RX11 30 RX10 ∈ tbz := tbz_tb (tk1 (List.mem_of_getElem? (i := 130) rfl)) rfl
theorem mlX11_32 : Cond.methodLink RX11 32 yX10_init ∈ tbz := tbz_tb (tk1 (List.mem_of_getElem? (i := 132) rfl)) rfl
theorem mlX10_3 : Cond.methodLink RX10 3 Lib.objectInit ∈ tbz := tbz_tb (tk1 (List.mem_of_getElem? (i := 135) rfl)) rfl
theorem flX10_25 : Fl RX10 25 10 0 true := ⟨_, rfl, Nat.le_of_ble_eq_true rfl, tbz_tb (tk1 (List.mem_of_getElem? (i := 136) rfl)) rfl, rfl, rfl⟩
theorem flX10_29 : Fl RX10 29 10 1 true := ⟨_, rfl, Nat.le_of_ble_eq_true rfl, tbz_tb (tk1 (List.mem_of_getElem? (i := 137) rfl)) rfl, rfl, rfl⟩
theorem flX10_9 : Fl RX10 9 10 2 true := ⟨_, rfl, Nat.le_of_ble_eq_true rfl, tbz_tb (tk1 (List.mem_of_getElem? (i := 138) rfl)) rfl, rfl, rfl⟩
theorem flX10_15 : Fl RX10 15 10 3 true := ⟨_, rfl, Nat.le_of_ble_eq_true rfl, tbz_tb (tk1 (List.mem_of_getElem? (i := 139) rfl)) rfl, rfl, rfl⟩
theorem flX10_18 : Fl RX10 18 10 4 true := ⟨_, rfl, Nat.le_of_ble_eq_true rfl, tbz_tb (tk1 (List.mem_of_getElem? (i := 140) rfl)) rfl, rfl, rfl⟩
theorem flX10_52 : Fl RX10 52 10 5 false := ⟨_, rfl, Nat.le_of_ble_eq_true rfl, tbz_tb (tk1 (List.mem_of_getElem? (i := 141) rfl)) rfl, rfl, rfl⟩
theorem flX10_21 : Fl RX10 21 10 6 true := ⟨_, rfl, Nat.le_of_ble_eq_true rfl, tbz_tb (tk1 (List.mem_of_getElem? (i := 142) rfl)) rfl, rfl, rfl⟩
theorem clX11_39 : Cond.classLink RX11 39 RX0 ∈ tbz := tbz_tb (tk1 (List.mem_of_getElem? (i := 159) rfl)) rfl
theorem mlX0_3 : Cond.methodLink RX0 3 Lib.objectInit ∈ tbz := tbz_tb (tk1 (List.mem_of_getElem? (i := 164) rfl)) rfl
theorem flX0_42 : Fl RX0 42 0 0 false := ⟨_, rfl, Nat.le_of_ble_eq_true rfl, tbz_tb (tk1 (List.mem_of_getElem? (i := 165) rfl)) rfl, rfl, rfl⟩
theorem flX11_263 : Fl RX11 263 0 0 false := ⟨_, rfl, Nat.le_of_ble_eq_true rfl, tbz_tb (tk1 (List.mem_of_getElem? (i := 166) rfl)) rfl, rfl, rfl⟩
theorem flX0_9 : Fl RX0 9 0 1 true := ⟨_, rfl, Nat.le_of_ble_eq_true rfl, tbz_tb (tk1 (List.mem_of_getElem? (i := 167) rfl)) rfl, rfl, rfl⟩
theorem flX11_438 : Fl RX11 438 0 1 true := ⟨_, rfl, Nat.le_of_ble_eq_true rfl, tbz_tb (tk1 (List.mem_of_getElem? (i := 168) rfl)) rfl, rfl, rfl⟩
theorem flX0_15 : Fl RX0 15 0 2 true := ⟨_, rfl, Nat.le_of_ble_eq_true rfl, tbz_tb (tk1 (List.mem_of_getElem? (i := 169) rfl)) rfl, rfl, rfl⟩
theorem flX11_441 : Fl RX11 441 0 2 true := ⟨_, rfl, Nat.le_of_ble_eq_true rfl, tbz_tb (tk1 (List.mem_of_getElem? (i := 170) rfl)) rfl, rfl, rfl⟩
theorem flX0_18 : Fl RX0 18 0 3 true := ⟨_, rfl, Nat.le_of_ble_eq_true rfl, tbz_tb (tk1 (List.mem_of_getElem? (i := 171) rfl)) rfl, rfl, rfl⟩
theorem flX11_444 : Fl RX11 444 0 3 true := ⟨_, rfl, Nat.le_of_ble_eq_true rfl, tbz_tb (tk1 (List.mem_of_getElem? (i := 172) rfl)) rfl, rfl, rfl⟩
theorem flX0_21 : Fl RX0 21 0 4 true := ⟨_, rfl, Nat.le_of_ble_eq_true rfl, tbz_tb (tk1 (List.mem_of_getElem? (i := 173) rfl)) rfl, rfl, rfl⟩
theorem flX11_447 : Fl RX11 447 0 4 true := ⟨_, rfl, Nat.le_of_ble_eq_true rfl, tbz_tb (tk1 (List.mem_of_getElem? (i := 174) rfl)) rfl, rfl, rfl⟩
theorem flX0_24 : Fl RX0 24 0 5 true := ⟨_, rfl, Nat.le_of_ble_eq_true rfl, tbz_tb (tk1 (List.mem_of_getElem? (i := 175) rfl)) rfl, rfl, rfl⟩
theorem flX0_27 : Fl RX0 27 0 6 true := ⟨_, rfl, Nat.le_of_ble_eq_true rfl, tbz_tb (tk1 (List.mem_of_getElem? (i := 176) rfl)) rfl, rfl, rfl⟩
theorem flX0_30 : Fl RX0 30 0 7 true := ⟨_, rfl, Nat.le_of_ble_eq_true rfl, tbz_tb (tk1 (List.mem_of_getElem? (i := 177) rfl)) rfl, rfl, rfl⟩
theorem flX0_33 : Fl RX0 33 0 8 true := ⟨_, rfl, Nat.le_of_ble_eq_true rfl, tbz_tb (tk1 (List.mem_of_getElem? (i := 178) rfl)) rfl, rfl, rfl⟩
theorem flX0_74 : Fl RX0 74 0 9 false := ⟨_, rfl, Nat.le_of_ble_eq_true rfl, tbz_tb (tk1 (List.mem_of_getElem? (i := 179) rfl)) rfl, rfl, rfl⟩
theorem flX11_290 : Fl RX11 290 0 9 false := ⟨_, rfl, Nat.le_of_ble_eq_true rfl, tbz_tb (tk1 (List.mem_of_getElem? (i := 180) rfl)) rfl, rfl, rfl⟩
theorem flX0_36 : Fl RX0 36 0 10 true := ⟨_, rfl, Nat.le_of_ble_eq_true rfl, tbz_tb (tk1 (List.mem_of_getElem? (i := 181) rfl)) rfl, rfl, rfl⟩
theorem flX11_295 : Fl RX11 295 0 10 true := ⟨_, rfl, Nat.le_of_ble_eq_true rfl, tbz_tb (tk1 (List.mem_of_getElem? (i := 182) rfl)) rfl, rfl, rfl⟩
theorem flX0_39 : Fl RX0 39 0 11 true := ⟨_, rfl, Nat.le_of_ble_eq_true rfl, tbz_tb (tk1 (List.mem_of_getElem? (i := 183) rfl)) rfl, rfl, rfl⟩
theorem flX11_298 : Fl RX11 298 0 11 true := ⟨_, rfl, Nat.le_of_ble_eq_true rfl, tbz_tb (tk1 (List.mem_of_getElem? (i := 184) rfl)) rfl, rfl, rfl⟩
theorem flX0_63 : Fl RX0 63 0 12 false := ⟨_, rfl, Nat.le_of_ble_eq_true rfl, tbz_tb (tk1 (List.mem_of_getElem? (i := 185) rfl)) rfl, rfl, rfl⟩
theorem flX11_301 : Fl RX11 301 0 12 false := ⟨_, rfl, Nat.le_of_ble_eq_true rfl, tbz_tb (tk1 (List.mem_of_getElem? (i := 186) rfl)) rfl, rfl, rfl⟩
theorem clX11_46 : Cond.classLink RX11 46 RX6 ∈ tbz := tbz_tb (tk1 (List.mem_of_getElem? (i := 214) rfl)) rfl
theorem mlX11_48 : Cond.methodLink RX11 48 yX6_init ∈ tbz := tbz_tb (tk1 (List.mem_of_getElem? (i := 216) rfl)) rfl
theorem mlX6_3 : Cond.methodLink RX6 3 Lib.objectInit ∈ tbz := tbz_tb (tk1 (List.mem_of_getElem? (i := 219) rfl)) rfl
theorem mlX6_26 : Cond.methodLink RX6 26 yJ7_fill_53178 ∈ tbz := tbz_tb (tk1 (List.mem_of_getElem? (i := 220) rfl)) rfl
theorem flX6_18 : Fl RX6 18 6 0 true := ⟨_, rfl, Nat.le_of_ble_eq_true rfl, tbz_tb (tk1 (List.mem_of_getElem? (i := 221) rfl)) rfl, rfl, rfl⟩
theorem flX6_22 : Fl RX6 22 6 1 true := ⟨_, rfl, Nat.le_of_ble_eq_true rfl, tbz_tb (tk1 (List.mem_of_getElem? (i := 222) rfl)) rfl, rfl, rfl⟩
theorem flX6_9 : Fl RX6 9 6 2 true := ⟨_, rfl, Nat.le_of_ble_eq_true rfl, tbz_tb (tk1 (List.mem_of_getElem? (i := 223) rfl)) rfl, rfl, rfl⟩
theorem flX6_15 : Fl RX6 15 6 3 true := ⟨_, rfl, Nat.le_of_ble_eq_true rfl, tbz_tb (tk1 (List.mem_of_getElem? (i := 224) rfl)) rfl, rfl, rfl⟩
theorem flX11_315 : Fl RX11 315 6 3 true := ⟨_, rfl, Nat.le_of_ble_eq_true rfl, tbz_tb (tk1 (List.mem_of_getElem? (i := 225) rfl)) rfl, rfl, rfl⟩
theorem clX11_53 : Cond.classLink RX11 53 RX9 ∈ tbz := tbz_tb (tk1 (List.mem_of_getElem? (i := 235) rfl)) rfl
theorem mlX11_55 : Cond.methodLink RX11 55 yX9_init ∈ tbz := tbz_tb (tk1 (List.mem_of_getElem? (i := 237) rfl)) rfl
theorem mlX9_3 : Cond.methodLink RX9 3 Lib.objectInit ∈ tbz := tbz_tb (tk2 (List.mem_of_getElem? (i := 0) rfl)) rfl
theorem flX9_22 : Fl RX9 22 9 0 true := ⟨_, rfl, Nat.le_of_ble_eq_true rfl, tbz_tb (tk2 (List.mem_of_getElem? (i := 1) rfl)) rfl, rfl, rfl⟩
theorem flX9_26 : Fl RX9 26 9 1 true := ⟨_, rfl, Nat.le_of_ble_eq_true rfl, tbz_tb (tk2 (List.mem_of_getElem? (i := 2) rfl)) rfl, rfl, rfl⟩
theorem flX9_30 : Fl RX9 30 9 2 true := ⟨_, rfl, Nat.le_of_ble_eq_true rfl, tbz_tb (tk2 (List.mem_of_getElem? (i := 3) rfl)) rfl, rfl, rfl⟩
theorem flX9_9 : Fl RX9 9 9 3 true := ⟨_, rfl, Nat.le_of_ble_eq_true rfl, tbz_tb (tk2 (List.mem_of_getElem? (i := 4) rfl)) rfl, rfl, rfl⟩
theorem flX9_15 : Fl RX9 15 9 4 true := ⟨_, rfl, Nat.le_of_ble_eq_true rfl, tbz_tb (tk2 (List.mem_of_getElem? (i := 5) rfl)) rfl, rfl, rfl⟩
theorem flX9_54 : Fl RX9 54 9 5 false := ⟨_, rfl, Nat.le_of_ble_eq_true rfl, tbz_tb (tk2 (List.mem_of_getElem? (i := 6) rfl)) rfl, rfl, rfl⟩
theorem flX9_58 : Fl RX9 58 9 6 false := ⟨_, rfl, Nat.le_of_ble_eq_true rfl, tbz_tb (tk2 (List.mem_of_getElem? (i := 7) rfl)) rfl, rfl, rfl⟩
theorem flX9_77 : Fl RX9 77 9 7 false := ⟨_, rfl, Nat.le_of_ble_eq_true rfl, tbz_tb (tk2 (List.mem_of_getElem? (i := 8) rfl)) rfl, rfl, rfl⟩
theorem flX11_334 : Fl RX11 334 9 7 false := ⟨_, rfl, Nat.le_of_ble_eq_true rfl, tbz_tb (tk2 (List.mem_of_getElem? (i := 9) rfl)) rfl, rfl, rfl⟩
theorem flX9_18 : Fl RX9 18 9 8 true := ⟨_, rfl, Nat.le_of_ble_eq_true rfl, tbz_tb (tk2 (List.mem_of_getElem? (i := 10) rfl)) rfl, rfl, rfl⟩
theorem flX11_337 : Fl RX11 337 9 8 true := ⟨_, rfl, Nat.le_of_ble_eq_true rfl, tbz_tb (tk2 (List.mem_of_getElem? (i := 11) rfl)) rfl, rfl, rfl⟩
theorem clX11_62 : Cond.classLink RX11 62 RX7 ∈ tbz := tbz_tb (tk2 (List.mem_of_getElem? (i := 31) rfl)) rfl
theorem mlX11_64 : Cond.methodLink RX11 64 yX7_init ∈ tbz := tbz_tb (tk2 (List.mem_of_getElem? (i := 33) rfl)) rfl
theorem mlX7_3 : Cond.methodLink RX7 3 Lib.objectInit ∈ tbz := tbz_tb (tk2 (List.mem_of_getElem? (i := 36) rfl)) rfl
theorem mlX7_22 : Cond.methodLink RX7 22 yJ7_fill_53178 ∈ tbz := tbz_tb (tk2 (List.mem_of_getElem? (i := 37) rfl)) rfl
theorem flX7_9 : Fl RX7 9 7 0 true := ⟨_, rfl, Nat.le_of_ble_eq_true rfl, tbz_tb (tk2 (List.mem_of_getElem? (i := 38) rfl)) rfl, rfl, rfl⟩
theorem flX7_15 : Fl RX7 15 7 1 true := ⟨_, rfl, Nat.le_of_ble_eq_true rfl, tbz_tb (tk2 (List.mem_of_getElem? (i := 39) rfl)) rfl, rfl, rfl⟩
theorem flX7_19 : Fl RX7 19 7 2 true := ⟨_, rfl, Nat.le_of_ble_eq_true rfl, tbz_tb (tk2 (List.mem_of_getElem? (i := 40) rfl)) rfl, rfl, rfl⟩
theorem clX11_69 : Cond.classLink RX11 69 RX8 ∈ tbz := tbz_tb (tk2 (List.mem_of_getElem? (i := 48) rfl)) rfl
theorem mlX11_75 : Cond.methodLink RX11 75 yX8_init ∈ tbz := tbz_tb (tk2 (List.mem_of_getElem? (i := 51) rfl)) rfl
theorem mlX8_3 : Cond.methodLink RX8 3 Lib.objectInit ∈ tbz := tbz_tb (tk2 (List.mem_of_getElem? (i := 54) rfl)) rfl
theorem mlX8_25 : Cond.methodLink RX8 25 yJ7_fill_53178 ∈ tbz := tbz_tb (tk2 (List.mem_of_getElem? (i := 55) rfl)) rfl
theorem flX8_9 : Fl RX8 9 8 0 true := ⟨_, rfl, Nat.le_of_ble_eq_true rfl, tbz_tb (tk2 (List.mem_of_getElem? (i := 56) rfl)) rfl, rfl, rfl⟩
theorem flX9_67 : Fl RX9 67 8 0 true := ⟨_, rfl, Nat.le_of_ble_eq_true rfl, tbz_tb (tk2 (List.mem_of_getElem? (i := 57) rfl)) rfl, rfl, rfl⟩
theorem flX6_74 : Fl RX6 74 8 0 true := ⟨_, rfl, Nat.le_of_ble_eq_true rfl, tbz_tb (tk2 (List.mem_of_getElem? (i := 58) rfl)) rfl, rfl, rfl⟩
theorem flX11_365 : Fl RX11 365 8 0 true := ⟨_, rfl, Nat.le_of_ble_eq_true rfl, tbz_tb (tk2 (List.mem_of_getElem? (i := 59) rfl)) rfl, rfl, rfl⟩
theorem flX8_15 : Fl RX8 15 8 1 true := ⟨_, rfl, Nat.le_of_ble_eq_true rfl, tbz_tb (tk2 (List.mem_of_getElem? (i := 60) rfl)) rfl, rfl, rfl⟩
theorem flX9_70 : Fl RX9 70 8 1 true := ⟨_, rfl, Nat.le_of_ble_eq_true rfl, tbz_tb (tk2 (List.mem_of_getElem? (i := 61) rfl)) rfl, rfl, rfl⟩
theorem flX6_66 : Fl RX6 66 8 1 true := ⟨_, rfl, Nat.le_of_ble_eq_true rfl, tbz_tb (tk2 (List.mem_of_getElem? (i := 62) rfl)) rfl, rfl, rfl⟩
theorem flX11_368 : Fl RX11 368 8 1 true := ⟨_, rfl, Nat.le_of_ble_eq_true rfl, tbz_tb (tk2 (List.mem_of_getElem? (i := 63) rfl)) rfl, rfl, rfl⟩
theorem flX8_18 : Fl RX8 18 8 2 true := ⟨_, rfl, Nat.le_of_ble_eq_true rfl, tbz_tb (tk2 (List.mem_of_getElem? (i := 64) rfl)) rfl, rfl, rfl⟩
theorem flX4_54 : Fl RX4 54 8 2 true := ⟨_, rfl, Nat.le_of_ble_eq_true rfl, tbz_tb (tk2 (List.mem_of_getElem? (i := 65) rfl)) rfl, rfl, rfl⟩
theorem flX11_374 : Fl RX11 374 8 2 true := ⟨_, rfl, Nat.le_of_ble_eq_true rfl, tbz_tb (tk2 (List.mem_of_getElem? (i := 66) rfl)) rfl, rfl, rfl⟩
theorem flX8_21 : Fl RX8 21 8 3 true := ⟨_, rfl, Nat.le_of_ble_eq_true rfl, tbz_tb (tk2 (List.mem_of_getElem? (i := 67) rfl)) rfl, rfl, rfl⟩
theorem flX11_370 : Fl RX11 370 8 3 true := ⟨_, rfl, Nat.le_of_ble_eq_true rfl, tbz_tb (tk2 (List.mem_of_getElem? (i := 68) rfl)) rfl, rfl, rfl⟩
theorem flX8_31 : Fl RX8 31 8 4 false := ⟨_, rfl, Nat.le_of_ble_eq_true rfl, tbz_tb (tk2 (List.mem_of_getElem? (i := 69) rfl)) rfl, rfl, rfl⟩
theorem flX11_358 : Fl RX11 358 8 4 false := ⟨_, rfl, Nat.le_of_ble_eq_true rfl, tbz_tb (tk2 (List.mem_of_getElem? (i := 70) rfl)) rfl, rfl, rfl⟩
theorem flX11_10 : Fl RX11 10 11 0 true := ⟨_, rfl, Nat.le_of_ble_eq_true rfl, tbz_tb (tk2 (List.mem_of_getElem? (i := 82) rfl)) rfl, rfl, rfl⟩
theorem flX11_19 : Fl RX11 19 11 1 true := ⟨_, rfl, Nat.le_of_ble_eq_true rfl, tbz_tb (tk2 (List.mem_of_getElem? (i := 83) rfl)) rfl, rfl, rfl⟩
theorem flX11_26 : Fl RX11 26 11 2 true := ⟨_, rfl, Nat.le_of_ble_eq_true rfl, tbz_tb (tk2 (List.mem_of_getElem? (i := 84) rfl)) rfl, rfl, rfl⟩
theorem flX11_35 : Fl RX11 35 11 3 true := ⟨_, rfl, Nat.le_of_ble_eq_true rfl, tbz_tb (tk2 (List.mem_of_getElem? (i := 85) rfl)) rfl, rfl, rfl⟩
theorem flX11_42 : Fl RX11 42 11 4 true := ⟨_, rfl, Nat.le_of_ble_eq_true rfl, tbz_tb (tk2 (List.mem_of_getElem? (i := 86) rfl)) rfl, rfl, rfl⟩
theorem flX11_49 : Fl RX11 49 11 5 true := ⟨_, rfl, Nat.le_of_ble_eq_true rfl, tbz_tb (tk2 (List.mem_of_getElem? (i := 87) rfl)) rfl, rfl, rfl⟩
theorem flX11_58 : Fl RX11 58 11 6 true := ⟨_, rfl, Nat.le_of_ble_eq_true rfl, tbz_tb (tk2 (List.mem_of_getElem? (i := 88) rfl)) rfl, rfl, rfl⟩
theorem flX11_65 : Fl RX11 65 11 7 true := ⟨_, rfl, Nat.le_of_ble_eq_true rfl, tbz_tb (tk2 (List.mem_of_getElem? (i := 89) rfl)) rfl, rfl, rfl⟩
theorem flX11_71 : Fl RX11 71 11 8 true := ⟨_, rfl, Nat.le_of_ble_eq_true rfl, tbz_tb (tk2 (List.mem_of_getElem? (i := 90) rfl)) rfl, rfl, rfl⟩
theorem flX11_76 : Fl RX11 76 11 9 true := ⟨_, rfl, Nat.le_of_ble_eq_true rfl, tbz_tb (tk2 (List.mem_of_getElem? (i := 91) rfl)) rfl, rfl, rfl⟩
theorem flX11_80 : Fl RX11 80 11 10 true := ⟨_, rfl, Nat.le_of_ble_eq_true rfl, tbz_tb (tk2 (List.mem_of_getElem? (i := 92) rfl)) rfl, rfl, rfl⟩
theorem flX11_111 : Fl RX11 111 11 11 false := ⟨_, rfl, Nat.le_of_ble_eq_true rfl, tbz_tb (tk2 (List.mem_of_getElem? (i := 93) rfl)) rfl, rfl, rfl⟩
theorem flX11_84 : Fl RX11 84 11 12 false := ⟨_, rfl, Nat.le_of_ble_eq_true rfl, tbz_tb (tk2 (List.mem_of_getElem? (i := 94) rfl)) rfl, rfl, rfl⟩
theorem flX11_88 : Fl RX11 88 11 13 false := ⟨_, rfl, Nat.le_of_ble_eq_true rfl, tbz_tb (tk2 (List.mem_of_getElem? (i := 95) rfl)) rfl, rfl, rfl⟩
theorem flX11_279 : Fl RX11 279 11 14 false := ⟨_, rfl, Nat.le_of_ble_eq_true rfl, tbz_tb (tk2 (List.mem_of_getElem? (i := 96) rfl)) rfl, rfl, rfl⟩
theorem mlL_13 : Cond.methodLink RL 13 yX11_pulpit ∈ tbz := tbz_tb (tk2 (List.mem_of_getElem? (i := 128) rfl)) rfl
theorem mlX11_91 : Cond.methodLink RX11 91 yX11_isPoint ∈ tbz := tbz_tb (tk2 (List.mem_of_getElem? (i := 132) rfl)) rfl
theorem mlX11_96 : Cond.methodLink RX11 96 yX11_isWithin ∈ tbz := tbz_tb (tk2 (List.mem_of_getElem? (i := 135) rfl)) rfl
theorem kcX11_95 : Cond.constant RX11 95 (100000) ∈ tbz := tbz_tb (tk2 (List.mem_of_getElem? (i := 138) rfl)) rfl
theorem mlX11_100 : Cond.methodLink RX11 100 yX1_standPulpit ∈ tbz := tbz_tb (tk2 (List.mem_of_getElem? (i := 139) rfl)) rfl
theorem mlX1_50 : Cond.methodLink RX1 50 yX1_measureAll ∈ tbz := tbz_tb (tk2 (List.mem_of_getElem? (i := 143) rfl)) rfl
theorem mlX1_59 : Cond.methodLink RX1 59 yX1_measureBench ∈ tbz := tbz_tb (tk2 (List.mem_of_getElem? (i := 147) rfl)) rfl
theorem mlX1_77 : Cond.methodLink RX1 77 yX1_isInWay ∈ tbz := tbz_tb (tk2 (List.mem_of_getElem? (i := 151) rfl)) rfl
theorem mlX1_71 : Cond.methodLink RX1 71 yJ9_max_7cf53 ∈ tbz := tbz_tb (tk2 (List.mem_of_getElem? (i := 155) rfl)) rfl
theorem mlX1_84 : Cond.methodLink RX1 84 yJ9_min_7cf53 ∈ tbz := tbz_tb (tk2 (List.mem_of_getElem? (i := 158) rfl)) rfl
theorem mlX1_87 : Cond.methodLink RX1 87 yX1_sideOf ∈ tbz := tbz_tb (tk2 (List.mem_of_getElem? (i := 161) rfl)) rfl
theorem mlX1_80 : Cond.methodLink RX1 80 yX1_heardAt ∈ tbz := tbz_tb (tk2 (List.mem_of_getElem? (i := 165) rfl)) rfl
theorem mlL_18 : Cond.methodLink RL 18 yX11_terms ∈ tbz := tbz_tb (tk2 (List.mem_of_getElem? (i := 169) rfl)) rfl
theorem mlL_23 : Cond.methodLink RL 23 yX11_pillar ∈ tbz := tbz_tb (tk2 (List.mem_of_getElem? (i := 173) rfl)) rfl
theorem mlX11_104 : Cond.methodLink RX11 104 yX1_addPillar ∈ tbz := tbz_tb (tk2 (List.mem_of_getElem? (i := 177) rfl)) rfl
theorem mlL_27 : Cond.methodLink RL 27 yX11_bench ∈ tbz := tbz_tb (tk2 (List.mem_of_getElem? (i := 181) rfl)) rfl
theorem mlX11_114 : Cond.methodLink RX11 114 yX1_addBench ∈ tbz := tbz_tb (tk2 (List.mem_of_getElem? (i := 185) rfl)) rfl
theorem mlL_32 : Cond.methodLink RL 32 yX11_household ∈ tbz := tbz_tb (tk2 (List.mem_of_getElem? (i := 189) rfl)) rfl
theorem mlX11_118 : Cond.methodLink RX11 118 yX11_isHouseholdAsTold ∈ tbz := tbz_tb (tk2 (List.mem_of_getElem? (i := 193) rfl)) rfl
theorem mlX11_121 : Cond.methodLink RX11 121 yX4_addHousehold ∈ tbz := tbz_tb (tk2 (List.mem_of_getElem? (i := 196) rfl)) rfl
theorem mlX4_21 : Cond.methodLink RX4 21 yX2_init ∈ tbz := tbz_tb (tk2 (List.mem_of_getElem? (i := 201) rfl)) rfl
theorem mlX2_1 : Cond.methodLink RX2 1 Lib.objectInit ∈ tbz := tbz_tb (tk2 (List.mem_of_getElem? (i := 204) rfl)) rfl
theorem flX2_7 : Fl RX2 7 2 0 false := ⟨_, rfl, Nat.le_of_ble_eq_true rfl, tbz_tb (tk2 (List.mem_of_getElem? (i := 205) rfl)) rfl, rfl, rfl⟩
theorem flX4_32 : Fl RX4 32 2 0 false := ⟨_, rfl, Nat.le_of_ble_eq_true rfl, tbz_tb (tk2 (List.mem_of_getElem? (i := 206) rfl)) rfl, rfl, rfl⟩
theorem flX11_134 : Fl RX11 134 2 0 false := ⟨_, rfl, Nat.le_of_ble_eq_true rfl, tbz_tb (tk2 (List.mem_of_getElem? (i := 207) rfl)) rfl, rfl, rfl⟩
theorem flX9_116 : Fl RX9 116 2 0 false := ⟨_, rfl, Nat.le_of_ble_eq_true rfl, tbz_tb (tk2 (List.mem_of_getElem? (i := 208) rfl)) rfl, rfl, rfl⟩
theorem flX10_126 : Fl RX10 126 2 0 false := ⟨_, rfl, Nat.le_of_ble_eq_true rfl, tbz_tb (tk2 (List.mem_of_getElem? (i := 209) rfl)) rfl, rfl, rfl⟩
theorem flX2_13 : Fl RX2 13 2 1 false := ⟨_, rfl, Nat.le_of_ble_eq_true rfl, tbz_tb (tk2 (List.mem_of_getElem? (i := 210) rfl)) rfl, rfl, rfl⟩
theorem flX6_69 : Fl RX6 69 2 1 false := ⟨_, rfl, Nat.le_of_ble_eq_true rfl, tbz_tb (tk2 (List.mem_of_getElem? (i := 211) rfl)) rfl, rfl, rfl⟩
theorem flX9_105 : Fl RX9 105 2 1 false := ⟨_, rfl, Nat.le_of_ble_eq_true rfl, tbz_tb (tk2 (List.mem_of_getElem? (i := 212) rfl)) rfl, rfl, rfl⟩
theorem flX10_94 : Fl RX10 94 2 1 false := ⟨_, rfl, Nat.le_of_ble_eq_true rfl, tbz_tb (tk2 (List.mem_of_getElem? (i := 213) rfl)) rfl, rfl, rfl⟩
theorem flX11_137 : Fl RX11 137 2 1 false := ⟨_, rfl, Nat.le_of_ble_eq_true rfl, tbz_tb (tk2 (List.mem_of_getElem? (i := 214) rfl)) rfl, rfl, rfl⟩
theorem flX2_16 : Fl RX2 16 2 2 false := ⟨_, rfl, Nat.le_of_ble_eq_true rfl, tbz_tb (tk2 (List.mem_of_getElem? (i := 215) rfl)) rfl, rfl, rfl⟩
theorem flX6_77 : Fl RX6 77 2 2 false := ⟨_, rfl, Nat.le_of_ble_eq_true rfl, tbz_tb (tk2 (List.mem_of_getElem? (i := 216) rfl)) rfl, rfl, rfl⟩
theorem flX10_99 : Fl RX10 99 2 2 false := ⟨_, rfl, Nat.le_of_ble_eq_true rfl, tbz_tb (tk2 (List.mem_of_getElem? (i := 217) rfl)) rfl, rfl, rfl⟩
theorem flX11_140 : Fl RX11 140 2 2 false := ⟨_, rfl, Nat.le_of_ble_eq_true rfl, tbz_tb (tk2 (List.mem_of_getElem? (i := 218) rfl)) rfl, rfl, rfl⟩
theorem flX9_113 : Fl RX9 113 2 2 false := ⟨_, rfl, Nat.le_of_ble_eq_true rfl, tbz_tb (tk2 (List.mem_of_getElem? (i := 219) rfl)) rfl, rfl, rfl⟩
theorem flX4_35 : Fl RX4 35 2 3 false := ⟨_, rfl, Nat.le_of_ble_eq_true rfl, tbz_tb (tk2 (List.mem_of_getElem? (i := 220) rfl)) rfl, rfl, rfl⟩
theorem flX11_128 : Fl RX11 128 2 3 false := ⟨_, rfl, Nat.le_of_ble_eq_true rfl, tbz_tb (tk2 (List.mem_of_getElem? (i := 221) rfl)) rfl, rfl, rfl⟩
theorem flX4_42 : Fl RX4 42 2 4 false := ⟨_, rfl, Nat.le_of_ble_eq_true rfl, tbz_tb (tk2 (List.mem_of_getElem? (i := 222) rfl)) rfl, rfl, rfl⟩
theorem flX11_394 : Fl RX11 394 2 4 false := ⟨_, rfl, Nat.le_of_ble_eq_true rfl, tbz_tb (tk2 (List.mem_of_getElem? (i := 223) rfl)) rfl, rfl, rfl⟩
theorem mlL_36 : Cond.methodLink RL 36 yX11_changed ∈ tbz := tbz_tb (tk2 (List.mem_of_getElem? (i := 235) rfl)) rfl
theorem mlX11_124 : Cond.methodLink RX11 124 yX4_find ∈ tbz := tbz_tb (tk2 (List.mem_of_getElem? (i := 239) rfl)) rfl
theorem mlX4_24 : Cond.methodLink RX4 24 yX4_isHousehold ∈ tbz := tbz_tb (tk3 (List.mem_of_getElem? (i := 3) rfl)) rfl
theorem mlL_41 : Cond.methodLink RL 41 yX11_gone ∈ tbz := tbz_tb (tk3 (List.mem_of_getElem? (i := 7) rfl)) rfl
theorem mlX11_143 : Cond.methodLink RX11 143 yX4_isStaying ∈ tbz := tbz_tb (tk3 (List.mem_of_getElem? (i := 11) rfl)) rfl
theorem mlX4_28 : Cond.methodLink RX4 28 yX4_find ∈ tbz := tbz_tb (tk3 (List.mem_of_getElem? (i := 15) rfl)) rfl
theorem mlX11_146 : Cond.methodLink RX11 146 yX3_heritableOf ∈ tbz := tbz_tb (tk3 (List.mem_of_getElem? (i := 16) rfl)) rfl
theorem mlX3_52 : Cond.methodLink RX3 52 yX3_find ∈ tbz := tbz_tb (tk3 (List.mem_of_getElem? (i := 20) rfl)) rfl
theorem mlX3_89 : Cond.methodLink RX3 89 yX5_isStillHeldBy ∈ tbz := tbz_tb (tk3 (List.mem_of_getElem? (i := 24) rfl)) rfl
theorem mlX11_150 : Cond.methodLink RX11 150 yX3_numbersLeft ∈ tbz := tbz_tb (tk3 (List.mem_of_getElem? (i := 28) rfl)) rfl
theorem mlX11_154 : Cond.methodLink RX11 154 yX3_passRights ∈ tbz := tbz_tb (tk3 (List.mem_of_getElem? (i := 32) rfl)) rfl
theorem mlX3_99 : Cond.methodLink RX3 99 yX5_endAhead ∈ tbz := tbz_tb (tk3 (List.mem_of_getElem? (i := 36) rfl)) rfl
theorem mlX3_103 : Cond.methodLink RX3 103 yX3_inherited ∈ tbz := tbz_tb (tk3 (List.mem_of_getElem? (i := 40) rfl)) rfl
theorem mlX3_111 : Cond.methodLink RX3 111 yX5_init ∈ tbz := tbz_tb (tk3 (List.mem_of_getElem? (i := 44) rfl)) rfl
theorem mlX5_3 : Cond.methodLink RX5 3 Lib.objectInit ∈ tbz := tbz_tb (tk3 (List.mem_of_getElem? (i := 47) rfl)) rfl
theorem flX5_15 : Fl RX5 15 5 0 true := ⟨_, rfl, Nat.le_of_ble_eq_true rfl, tbz_tb (tk3 (List.mem_of_getElem? (i := 48) rfl)) rfl, rfl, rfl⟩
theorem flX3_56 : Fl RX3 56 5 0 true := ⟨_, rfl, Nat.le_of_ble_eq_true rfl, tbz_tb (tk3 (List.mem_of_getElem? (i := 49) rfl)) rfl, rfl, rfl⟩
theorem flX5_18 : Fl RX5 18 5 1 true := ⟨_, rfl, Nat.le_of_ble_eq_true rfl, tbz_tb (tk3 (List.mem_of_getElem? (i := 50) rfl)) rfl, rfl, rfl⟩
theorem flX3_59 : Fl RX3 59 5 1 true := ⟨_, rfl, Nat.le_of_ble_eq_true rfl, tbz_tb (tk3 (List.mem_of_getElem? (i := 51) rfl)) rfl, rfl, rfl⟩
theorem flX5_21 : Fl RX5 21 5 2 true := ⟨_, rfl, Nat.le_of_ble_eq_true rfl, tbz_tb (tk3 (List.mem_of_getElem? (i := 52) rfl)) rfl, rfl, rfl⟩
theorem flX3_80 : Fl RX3 80 5 2 true := ⟨_, rfl, Nat.le_of_ble_eq_true rfl, tbz_tb (tk3 (List.mem_of_getElem? (i := 53) rfl)) rfl, rfl, rfl⟩
theorem flX5_24 : Fl RX5 24 5 3 true := ⟨_, rfl, Nat.le_of_ble_eq_true rfl, tbz_tb (tk3 (List.mem_of_getElem? (i := 54) rfl)) rfl, rfl, rfl⟩
theorem flX3_83 : Fl RX3 83 5 3 true := ⟨_, rfl, Nat.le_of_ble_eq_true rfl, tbz_tb (tk3 (List.mem_of_getElem? (i := 55) rfl)) rfl, rfl, rfl⟩
theorem flX5_27 : Fl RX5 27 5 4 true := ⟨_, rfl, Nat.le_of_ble_eq_true rfl, tbz_tb (tk3 (List.mem_of_getElem? (i := 56) rfl)) rfl, rfl, rfl⟩
theorem flX3_86 : Fl RX3 86 5 4 true := ⟨_, rfl, Nat.le_of_ble_eq_true rfl, tbz_tb (tk3 (List.mem_of_getElem? (i := 57) rfl)) rfl, rfl, rfl⟩
theorem flX5_30 : Fl RX5 30 5 5 false := ⟨_, rfl, Nat.le_of_ble_eq_true rfl, tbz_tb (tk3 (List.mem_of_getElem? (i := 58) rfl)) rfl, rfl, rfl⟩
theorem flX3_114 : Fl RX3 114 5 5 false := ⟨_, rfl, Nat.le_of_ble_eq_true rfl, tbz_tb (tk3 (List.mem_of_getElem? (i := 59) rfl)) rfl, rfl, rfl⟩
theorem flX5_33 : Fl RX5 33 5 6 false := ⟨_, rfl, Nat.le_of_ble_eq_true rfl, tbz_tb (tk3 (List.mem_of_getElem? (i := 60) rfl)) rfl, rfl, rfl⟩
theorem flX5_36 : Fl RX5 36 5 7 false := ⟨_, rfl, Nat.le_of_ble_eq_true rfl, tbz_tb (tk3 (List.mem_of_getElem? (i := 61) rfl)) rfl, rfl, rfl⟩
theorem flX11_204 : Fl RX11 204 5 7 false := ⟨_, rfl, Nat.le_of_ble_eq_true rfl, tbz_tb (tk3 (List.mem_of_getElem? (i := 62) rfl)) rfl, rfl, rfl⟩
theorem flX3_96 : Fl RX3 96 5 7 false := ⟨_, rfl, Nat.le_of_ble_eq_true rfl, tbz_tb (tk3 (List.mem_of_getElem? (i := 63) rfl)) rfl, rfl, rfl⟩
theorem flX5_42 : Fl RX5 42 5 8 false := ⟨_, rfl, Nat.le_of_ble_eq_true rfl, tbz_tb (tk3 (List.mem_of_getElem? (i := 64) rfl)) rfl, rfl, rfl⟩
theorem flX5_45 : Fl RX5 45 5 9 false := ⟨_, rfl, Nat.le_of_ble_eq_true rfl, tbz_tb (tk3 (List.mem_of_getElem? (i := 65) rfl)) rfl, rfl, rfl⟩
theorem flX11_194 : Fl RX11 194 5 9 false := ⟨_, rfl, Nat.le_of_ble_eq_true rfl, tbz_tb (tk3 (List.mem_of_getElem? (i := 66) rfl)) rfl, rfl, rfl⟩
theorem flX3_92 : Fl RX3 92 5 9 false := ⟨_, rfl, Nat.le_of_ble_eq_true rfl, tbz_tb (tk3 (List.mem_of_getElem? (i := 67) rfl)) rfl, rfl, rfl⟩
theorem flX5_49 : Fl RX5 49 5 10 false := ⟨_, rfl, Nat.le_of_ble_eq_true rfl, tbz_tb (tk3 (List.mem_of_getElem? (i := 68) rfl)) rfl, rfl, rfl⟩
theorem flX3_126 : Fl RX3 126 5 10 false := ⟨_, rfl, Nat.le_of_ble_eq_true rfl, tbz_tb (tk3 (List.mem_of_getElem? (i := 69) rfl)) rfl, rfl, rfl⟩
theorem flX11_455 : Fl RX11 455 5 10 false := ⟨_, rfl, Nat.le_of_ble_eq_true rfl, tbz_tb (tk3 (List.mem_of_getElem? (i := 70) rfl)) rfl, rfl, rfl⟩
theorem flX5_39 : Fl RX5 39 5 11 false := ⟨_, rfl, Nat.le_of_ble_eq_true rfl, tbz_tb (tk3 (List.mem_of_getElem? (i := 71) rfl)) rfl, rfl, rfl⟩
theorem flX5_9 : Fl RX5 9 5 12 false := ⟨_, rfl, Nat.le_of_ble_eq_true rfl, tbz_tb (tk3 (List.mem_of_getElem? (i := 72) rfl)) rfl, rfl, rfl⟩
theorem mlX3_117 : Cond.methodLink RX3 117 yJ9_max_7cf53 ∈ tbz := tbz_tb (tk3 (List.mem_of_getElem? (i := 100) rfl)) rfl
theorem mlX3_122 : Cond.methodLink RX3 122 yX5_setYears ∈ tbz := tbz_tb (tk3 (List.mem_of_getElem? (i := 101) rfl)) rfl
theorem mlX3_107 : Cond.methodLink RX3 107 yX3_enter ∈ tbz := tbz_tb (tk3 (List.mem_of_getElem? (i := 105) rfl)) rfl
theorem mlX11_157 : Cond.methodLink RX11 157 yX3_passPlots ∈ tbz := tbz_tb (tk3 (List.mem_of_getElem? (i := 109) rfl)) rfl
theorem mlX3_40 : Cond.methodLink RX3 40 yX3_plotOwner ∈ tbz := tbz_tb (tk3 (List.mem_of_getElem? (i := 113) rfl)) rfl
theorem mlX3_30 : Cond.methodLink RX3 30 yX3_isPlot ∈ tbz := tbz_tb (tk3 (List.mem_of_getElem? (i := 117) rfl)) rfl
theorem mlX3_44 : Cond.methodLink RX3 44 yX3_givePlot ∈ tbz := tbz_tb (tk3 (List.mem_of_getElem? (i := 124) rfl)) rfl
theorem mlX3_37 : Cond.methodLink RX3 37 yJ7_fill_fda19 ∈ tbz := tbz_tb (tk3 (List.mem_of_getElem? (i := 128) rfl)) rfl
theorem mlJ7_13 : Cond.methodLink RJ7 13 yJ7_rangeCheck_23922 ∈ tbz := tbz_tb (tk3 (List.mem_of_getElem? (i := 131) rfl)) rfl
theorem mlX11_160 : Cond.methodLink RX11 160 yX0_dropOffersOf ∈ tbz := tbz_tb (tk3 (List.mem_of_getElem? (i := 134) rfl)) rfl
theorem mlX0_46 : Cond.methodLink RX0 46 yX0_noteOffer ∈ tbz := tbz_tb (tk3 (List.mem_of_getElem? (i := 138) rfl)) rfl
theorem mlL_45 : Cond.methodLink RL 45 yX11_sell ∈ tbz := tbz_tb (tk3 (List.mem_of_getElem? (i := 142) rfl)) rfl
theorem mlX11_164 : Cond.methodLink RX11 164 yX3_isPlot ∈ tbz := tbz_tb (tk3 (List.mem_of_getElem? (i := 146) rfl)) rfl
theorem mlX11_170 : Cond.methodLink RX11 170 yX3_plotOwner ∈ tbz := tbz_tb (tk3 (List.mem_of_getElem? (i := 147) rfl)) rfl
theorem mlX11_173 : Cond.methodLink RX11 173 yX3_givePlot ∈ tbz := tbz_tb (tk3 (List.mem_of_getElem? (i := 148) rfl)) rfl
theorem mlL_49 : Cond.methodLink RL 49 yX11_plotOf ∈ tbz := tbz_tb (tk3 (List.mem_of_getElem? (i := 149) rfl)) rfl
theorem mlX11_176 : Cond.methodLink RX11 176 yX11_isYear ∈ tbz := tbz_tb (tk3 (List.mem_of_getElem? (i := 153) rfl)) rfl
theorem mlL_53 : Cond.methodLink RL 53 yX11_right ∈ tbz := tbz_tb (tk3 (List.mem_of_getElem? (i := 154) rfl)) rfl
theorem mlX11_179 : Cond.methodLink RX11 179 yX1_hasRun ∈ tbz := tbz_tb (tk3 (List.mem_of_getElem? (i := 158) rfl)) rfl
theorem mlX1_63 : Cond.methodLink RX1 63 yX1_hasUnit ∈ tbz := tbz_tb (tk3 (List.mem_of_getElem? (i := 162) rfl)) rfl
theorem mlX11_182 : Cond.methodLink RX11 182 yX4_isHousehold ∈ tbz := tbz_tb (tk3 (List.mem_of_getElem? (i := 166) rfl)) rfl
theorem clX11_185 : Cond.classLink RX11 185 RX5 ∈ tbz := tbz_tb (tk3 (List.mem_of_getElem? (i := 167) rfl)) rfl
theorem mlX11_187 : Cond.methodLink RX11 187 yX5_init ∈ tbz := tbz_tb (tk3 (List.mem_of_getElem? (i := 168) rfl)) rfl
theorem mlX11_190 : Cond.methodLink RX11 190 yX5_setYears ∈ tbz := tbz_tb (tk3 (List.mem_of_getElem? (i := 169) rfl)) rfl
theorem mlX11_197 : Cond.methodLink RX11 197 yX3_enter ∈ tbz := tbz_tb (tk3 (List.mem_of_getElem? (i := 170) rfl)) rfl
theorem mlL_58 : Cond.methodLink RL 58 yX11_ends ∈ tbz := tbz_tb (tk3 (List.mem_of_getElem? (i := 171) rfl)) rfl
theorem mlX11_201 : Cond.methodLink RX11 201 yX3_find ∈ tbz := tbz_tb (tk3 (List.mem_of_getElem? (i := 175) rfl)) rfl
theorem mlX11_207 : Cond.methodLink RX11 207 yX5_endAhead ∈ tbz := tbz_tb (tk3 (List.mem_of_getElem? (i := 176) rfl)) rfl
theorem mlL_63 : Cond.methodLink RL 63 yX11_rightOf ∈ tbz := tbz_tb (tk3 (List.mem_of_getElem? (i := 177) rfl)) rfl
theorem mlX11_210 : Cond.methodLink RX11 210 yX5_detail ∈ tbz := tbz_tb (tk3 (List.mem_of_getElem? (i := 181) rfl)) rfl
theorem mlL_67 : Cond.methodLink RL 67 yX11_unit ∈ tbz := tbz_tb (tk3 (List.mem_of_getElem? (i := 185) rfl)) rfl
theorem mlX11_214 : Cond.methodLink RX11 214 yX1_hasUnit ∈ tbz := tbz_tb (tk3 (List.mem_of_getElem? (i := 189) rfl)) rfl
theorem mlL_71 : Cond.methodLink RL 71 yX11_worth ∈ tbz := tbz_tb (tk3 (List.mem_of_getElem? (i := 190) rfl)) rfl
theorem mlX11_224 : Cond.methodLink RX11 224 yX1_worthOf ∈ tbz := tbz_tb (tk3 (List.mem_of_getElem? (i := 194) rfl)) rfl
theorem mlX1_67 : Cond.methodLink RX1 67 yX1_hasRun ∈ tbz := tbz_tb (tk3 (List.mem_of_getElem? (i := 198) rfl)) rfl
theorem mlL_75 : Cond.methodLink RL 75 yX11_belongs ∈ tbz := tbz_tb (tk3 (List.mem_of_getElem? (i := 199) rfl)) rfl
theorem mlX11_227 : Cond.methodLink RX11 227 yX11_isAsked ∈ tbz := tbz_tb (tk3 (List.mem_of_getElem? (i := 203) rfl)) rfl
theorem mlX11_231 : Cond.methodLink RX11 231 yX3_bestFor ∈ tbz := tbz_tb (tk3 (List.mem_of_getElem? (i := 207) rfl)) rfl
theorem mlX3_62 : Cond.methodLink RX3 62 yX5_isOn ∈ tbz := tbz_tb (tk3 (List.mem_of_getElem? (i := 211) rfl)) rfl
theorem mlX3_66 : Cond.methodLink RX3 66 yX5_isFor ∈ tbz := tbz_tb (tk3 (List.mem_of_getElem? (i := 215) rfl)) rfl
theorem mlX3_69 : Cond.methodLink RX3 69 yX3_holderOf ∈ tbz := tbz_tb (tk3 (List.mem_of_getElem? (i := 219) rfl)) rfl
theorem mlX3_72 : Cond.methodLink RX3 72 yX5_isBetterThan ∈ tbz := tbz_tb (tk3 (List.mem_of_getElem? (i := 223) rfl)) rfl
theorem mlX11_235 : Cond.methodLink RX11 235 yX3_holderOf ∈ tbz := tbz_tb (tk3 (List.mem_of_getElem? (i := 227) rfl)) rfl
theorem mlL_80 : Cond.methodLink RL 80 yX11_judge ∈ tbz := tbz_tb (tk3 (List.mem_of_getElem? (i := 228) rfl)) rfl
theorem mlL_85 : Cond.methodLink RL 85 yX11_lot ∈ tbz := tbz_tb (tk3 (List.mem_of_getElem? (i := 232) rfl)) rfl
theorem mlX11_238 : Cond.methodLink RX11 238 yX0_putUp ∈ tbz := tbz_tb (tk3 (List.mem_of_getElem? (i := 236) rfl)) rfl
theorem mlL_89 : Cond.methodLink RL 89 yX11_offers ∈ tbz := tbz_tb (tk4 (List.mem_of_getElem? (i := 0) rfl)) rfl
theorem mlX11_242 : Cond.methodLink RX11 242 yX0_isLot ∈ tbz := tbz_tb (tk4 (List.mem_of_getElem? (i := 4) rfl)) rfl
theorem mlX11_245 : Cond.methodLink RX11 245 yX7_isPlace ∈ tbz := tbz_tb (tk4 (List.mem_of_getElem? (i := 8) rfl)) rfl
theorem mlX11_248 : Cond.methodLink RX11 248 yX7_isFilled ∈ tbz := tbz_tb (tk4 (List.mem_of_getElem? (i := 12) rfl)) rfl
theorem mlX11_251 : Cond.methodLink RX11 251 yX7_lengthOf ∈ tbz := tbz_tb (tk4 (List.mem_of_getElem? (i := 16) rfl)) rfl
theorem mlX7_32 : Cond.methodLink RX7 32 yJ9_max_7cf53 ∈ tbz := tbz_tb (tk4 (List.mem_of_getElem? (i := 20) rfl)) rfl
theorem mlX11_254 : Cond.methodLink RX11 254 yX7_numberAt ∈ tbz := tbz_tb (tk4 (List.mem_of_getElem? (i := 21) rfl)) rfl
theorem mlX7_38 : Cond.methodLink RX7 38 yX7_lengthOf ∈ tbz := tbz_tb (tk4 (List.mem_of_getElem? (i := 25) rfl)) rfl
theorem kcX11_258 : Cond.constantLong RX11 258 (10000) ∈ tbz := tbz_tb (tk4 (List.mem_of_getElem? (i := 26) rfl)) rfl
theorem mlX11_260 : Cond.methodLink RX11 260 yX0_noteOffer ∈ tbz := tbz_tb (tk4 (List.mem_of_getElem? (i := 27) rfl)) rfl
theorem mlL_93 : Cond.methodLink RL 93 yX11_knock ∈ tbz := tbz_tb (tk4 (List.mem_of_getElem? (i := 28) rfl)) rfl
theorem kcX11_266 : Cond.constantLong RX11 266 (-1) ∈ tbz := tbz_tb (tk4 (List.mem_of_getElem? (i := 32) rfl)) rfl
theorem mlX11_268 : Cond.methodLink RX11 268 yX0_findWinners ∈ tbz := tbz_tb (tk4 (List.mem_of_getElem? (i := 33) rfl)) rfl
theorem mlX0_50 : Cond.methodLink RX0 50 yX0_fillBest ∈ tbz := tbz_tb (tk4 (List.mem_of_getElem? (i := 37) rfl)) rfl
theorem mlX0_78 : Cond.methodLink RX0 78 yJ7_fill_fda19 ∈ tbz := tbz_tb (tk4 (List.mem_of_getElem? (i := 41) rfl)) rfl
theorem mlX0_81 : Cond.methodLink RX0 81 yX0_bestWithLot ∈ tbz := tbz_tb (tk4 (List.mem_of_getElem? (i := 42) rfl)) rfl
theorem mlX0_89 : Cond.methodLink RX0 89 yX0_sumWithLot ∈ tbz := tbz_tb (tk4 (List.mem_of_getElem? (i := 46) rfl)) rfl
theorem mlX0_84 : Cond.methodLink RX0 84 yJ9_max_7cf53 ∈ tbz := tbz_tb (tk4 (List.mem_of_getElem? (i := 50) rfl)) rfl
theorem mlX0_53 : Cond.methodLink RX0 53 yX0_leastLot ∈ tbz := tbz_tb (tk4 (List.mem_of_getElem? (i := 51) rfl)) rfl
theorem kcX11_271 : Cond.constantLong RX11 271 (-3) ∈ tbz := tbz_tb (tk4 (List.mem_of_getElem? (i := 55) rfl)) rfl
theorem mlX11_273 : Cond.methodLink RX11 273 yX0_findPrices ∈ tbz := tbz_tb (tk4 (List.mem_of_getElem? (i := 56) rfl)) rfl
theorem mlX0_57 : Cond.methodLink RX0 57 yJ7_fill_53178 ∈ tbz := tbz_tb (tk4 (List.mem_of_getElem? (i := 60) rfl)) rfl
theorem mlX0_66 : Cond.methodLink RX0 66 yX0_bestWithout ∈ tbz := tbz_tb (tk4 (List.mem_of_getElem? (i := 61) rfl)) rfl
theorem mlX0_70 : Cond.methodLink RX0 70 yX0_addAhead ∈ tbz := tbz_tb (tk4 (List.mem_of_getElem? (i := 65) rfl)) rfl
theorem mlX11_276 : Cond.methodLink RX11 276 yX11_enterRent ∈ tbz := tbz_tb (tk4 (List.mem_of_getElem? (i := 69) rfl)) rfl
theorem mlX11_450 : Cond.methodLink RX11 450 yJ9_min_7cf53 ∈ tbz := tbz_tb (tk4 (List.mem_of_getElem? (i := 73) rfl)) rfl
theorem mlX11_283 : Cond.methodLink RX11 283 yX0_income ∈ tbz := tbz_tb (tk4 (List.mem_of_getElem? (i := 74) rfl)) rfl
theorem mlX11_287 : Cond.methodLink RX11 287 yX0_close ∈ tbz := tbz_tb (tk4 (List.mem_of_getElem? (i := 78) rfl)) rfl
theorem mlL_98 : Cond.methodLink RL 98 yX11_knocked ∈ tbz := tbz_tb (tk4 (List.mem_of_getElem? (i := 82) rfl)) rfl
theorem kcX11_293 : Cond.constantLong RX11 293 (-2) ∈ tbz := tbz_tb (tk4 (List.mem_of_getElem? (i := 86) rfl)) rfl
theorem mlL_103 : Cond.methodLink RL 103 yX11_change ∈ tbz := tbz_tb (tk4 (List.mem_of_getElem? (i := 87) rfl)) rfl
theorem mlX11_307 : Cond.methodLink RX11 307 yX11_latestSeating ∈ tbz := tbz_tb (tk4 (List.mem_of_getElem? (i := 91) rfl)) rfl
theorem mlX11_361 : Cond.methodLink RX11 361 yX11_seatingOf ∈ tbz := tbz_tb (tk4 (List.mem_of_getElem? (i := 95) rfl)) rfl
theorem mlX11_311 : Cond.methodLink RX11 311 yX6_turn ∈ tbz := tbz_tb (tk4 (List.mem_of_getElem? (i := 99) rfl)) rfl
theorem mlX6_32 : Cond.methodLink RX6 32 yX4_isStaying ∈ tbz := tbz_tb (tk4 (List.mem_of_getElem? (i := 103) rfl)) rfl
theorem mlX6_38 : Cond.methodLink RX6 38 yX8_isSitting ∈ tbz := tbz_tb (tk4 (List.mem_of_getElem? (i := 104) rfl)) rfl
theorem mlX6_43 : Cond.methodLink RX6 43 yX6_lookRound ∈ tbz := tbz_tb (tk4 (List.mem_of_getElem? (i := 108) rfl)) rfl
theorem mlX6_54 : Cond.methodLink RX6 54 yX6_favourite ∈ tbz := tbz_tb (tk4 (List.mem_of_getElem? (i := 112) rfl)) rfl
theorem mlX6_58 : Cond.methodLink RX6 58 yX4_find ∈ tbz := tbz_tb (tk4 (List.mem_of_getElem? (i := 116) rfl)) rfl
theorem mlX6_62 : Cond.methodLink RX6 62 yX6_worthOfRun ∈ tbz := tbz_tb (tk4 (List.mem_of_getElem? (i := 117) rfl)) rfl
theorem mlX6_80 : Cond.methodLink RX6 80 yX1_worthOf ∈ tbz := tbz_tb (tk4 (List.mem_of_getElem? (i := 121) rfl)) rfl
theorem mlX6_47 : Cond.methodLink RX6 47 yX6_ringed ∈ tbz := tbz_tb (tk4 (List.mem_of_getElem? (i := 122) rfl)) rfl
theorem mlX6_86 : Cond.methodLink RX6 86 yX6_isInRing ∈ tbz := tbz_tb (tk4 (List.mem_of_getElem? (i := 126) rfl)) rfl
theorem mlX6_51 : Cond.methodLink RX6 51 yX6_letGo ∈ tbz := tbz_tb (tk4 (List.mem_of_getElem? (i := 130) rfl)) rfl
theorem mlL_108 : Cond.methodLink RL 108 yX11_changedTo ∈ tbz := tbz_tb (tk4 (List.mem_of_getElem? (i := 134) rfl)) rfl
theorem mlL_112 : Cond.methodLink RL 112 yX11_sunday ∈ tbz := tbz_tb (tk4 (List.mem_of_getElem? (i := 138) rfl)) rfl
theorem mlX11_318 : Cond.methodLink RX11 318 yX9_canCome ∈ tbz := tbz_tb (tk4 (List.mem_of_getElem? (i := 142) rfl)) rfl
theorem mlX9_34 : Cond.methodLink RX9 34 yX7_lengthOf ∈ tbz := tbz_tb (tk4 (List.mem_of_getElem? (i := 146) rfl)) rfl
theorem mlX9_40 : Cond.methodLink RX9 40 yX7_numberAt ∈ tbz := tbz_tb (tk4 (List.mem_of_getElem? (i := 147) rfl)) rfl
theorem kcX9_44 : Cond.constantLong RX9 44 (-12) ∈ tbz := tbz_tb (tk4 (List.mem_of_getElem? (i := 148) rfl)) rfl
theorem kcX9_46 : Cond.constantLong RX9 46 (12) ∈ tbz := tbz_tb (tk4 (List.mem_of_getElem? (i := 149) rfl)) rfl
theorem mlX9_48 : Cond.methodLink RX9 48 yX4_isStaying ∈ tbz := tbz_tb (tk4 (List.mem_of_getElem? (i := 150) rfl)) rfl
theorem mlX11_322 : Cond.methodLink RX11 322 yX3_fillOwners ∈ tbz := tbz_tb (tk4 (List.mem_of_getElem? (i := 151) rfl)) rfl
theorem mlX3_76 : Cond.methodLink RX3 76 yX3_markBest ∈ tbz := tbz_tb (tk4 (List.mem_of_getElem? (i := 155) rfl)) rfl
theorem mlX11_326 : Cond.methodLink RX11 326 yX9_open ∈ tbz := tbz_tb (tk4 (List.mem_of_getElem? (i := 159) rfl)) rfl
theorem mlX9_62 : Cond.methodLink RX9 62 yX8_isSitting ∈ tbz := tbz_tb (tk4 (List.mem_of_getElem? (i := 163) rfl)) rfl
theorem mlX9_73 : Cond.methodLink RX9 73 yX9_keepRun ∈ tbz := tbz_tb (tk4 (List.mem_of_getElem? (i := 164) rfl)) rfl
theorem mlX11_330 : Cond.methodLink RX11 330 yX9_hold ∈ tbz := tbz_tb (tk4 (List.mem_of_getElem? (i := 168) rfl)) rfl
theorem mlX9_80 : Cond.methodLink RX9 80 yX9_seatStranger ∈ tbz := tbz_tb (tk4 (List.mem_of_getElem? (i := 172) rfl)) rfl
theorem mlX9_87 : Cond.methodLink RX9 87 yX9_openSpots ∈ tbz := tbz_tb (tk4 (List.mem_of_getElem? (i := 176) rfl)) rfl
theorem mlX9_119 : Cond.methodLink RX9 119 yX1_spotsEnd ∈ tbz := tbz_tb (tk4 (List.mem_of_getElem? (i := 180) rfl)) rfl
theorem mlX9_125 : Cond.methodLink RX9 125 yX1_isUnitSpot ∈ tbz := tbz_tb (tk4 (List.mem_of_getElem? (i := 184) rfl)) rfl
theorem mlX9_128 : Cond.methodLink RX9 128 yX10_setOpen ∈ tbz := tbz_tb (tk4 (List.mem_of_getElem? (i := 188) rfl)) rfl
theorem mlX9_91 : Cond.methodLink RX9 91 yX10_bestRun ∈ tbz := tbz_tb (tk4 (List.mem_of_getElem? (i := 192) rfl)) rfl
theorem mlX10_33 : Cond.methodLink RX10 33 yX1_spotsEnd ∈ tbz := tbz_tb (tk4 (List.mem_of_getElem? (i := 196) rfl)) rfl
theorem mlX10_39 : Cond.methodLink RX10 39 yX10_isRunOpen ∈ tbz := tbz_tb (tk4 (List.mem_of_getElem? (i := 197) rfl)) rfl
theorem mlX10_43 : Cond.methodLink RX10 43 yX1_worthOf ∈ tbz := tbz_tb (tk4 (List.mem_of_getElem? (i := 201) rfl)) rfl
theorem mlX9_97 : Cond.methodLink RX9 97 yX9_take ∈ tbz := tbz_tb (tk4 (List.mem_of_getElem? (i := 202) rfl)) rfl
theorem mlX9_84 : Cond.methodLink RX9 84 yX9_seatHousehold ∈ tbz := tbz_tb (tk4 (List.mem_of_getElem? (i := 206) rfl)) rfl
theorem mlX9_101 : Cond.methodLink RX9 101 yX4_find ∈ tbz := tbz_tb (tk4 (List.mem_of_getElem? (i := 210) rfl)) rfl
theorem mlX9_109 : Cond.methodLink RX9 109 yX9_isOwnRunFree ∈ tbz := tbz_tb (tk4 (List.mem_of_getElem? (i := 211) rfl)) rfl
theorem mlL_116 : Cond.methodLink RL 116 yX11_sat ∈ tbz := tbz_tb (tk4 (List.mem_of_getElem? (i := 215) rfl)) rfl
theorem mlL_120 : Cond.methodLink RL 120 yX11_go ∈ tbz := tbz_tb (tk4 (List.mem_of_getElem? (i := 219) rfl)) rfl
theorem mlX11_340 : Cond.methodLink RX11 340 yX10_seatAll ∈ tbz := tbz_tb (tk4 (List.mem_of_getElem? (i := 223) rfl)) rfl
theorem mlX10_47 : Cond.methodLink RX10 47 yX8_clear ∈ tbz := tbz_tb (tk4 (List.mem_of_getElem? (i := 227) rfl)) rfl
theorem mlX10_56 : Cond.methodLink RX10 56 yX4_fillOrder ∈ tbz := tbz_tb (tk4 (List.mem_of_getElem? (i := 231) rfl)) rfl
theorem mlX4_45 : Cond.methodLink RX4 45 yX4_rankOf ∈ tbz := tbz_tb (tk4 (List.mem_of_getElem? (i := 235) rfl)) rfl
theorem mlX10_62 : Cond.methodLink RX10 62 yX10_seatByRight ∈ tbz := tbz_tb (tk4 (List.mem_of_getElem? (i := 239) rfl)) rfl
theorem mlX10_90 : Cond.methodLink RX10 90 yX4_find ∈ tbz := tbz_tb (tk5 (List.mem_of_getElem? (i := 3) rfl)) rfl
theorem mlX10_66 : Cond.methodLink RX10 66 yX10_openThoseOf ∈ tbz := tbz_tb (tk5 (List.mem_of_getElem? (i := 4) rfl)) rfl
theorem mlX10_78 : Cond.methodLink RX10 78 yX1_isUnitSpot ∈ tbz := tbz_tb (tk5 (List.mem_of_getElem? (i := 8) rfl)) rfl
theorem mlX10_82 : Cond.methodLink RX10 82 yX10_setOpen ∈ tbz := tbz_tb (tk5 (List.mem_of_getElem? (i := 9) rfl)) rfl
theorem mlX10_102 : Cond.methodLink RX10 102 yX10_bestRun ∈ tbz := tbz_tb (tk5 (List.mem_of_getElem? (i := 10) rfl)) rfl
theorem mlX10_106 : Cond.methodLink RX10 106 yX8_put ∈ tbz := tbz_tb (tk5 (List.mem_of_getElem? (i := 11) rfl)) rfl
theorem mlX10_70 : Cond.methodLink RX10 70 yX10_fillBest ∈ tbz := tbz_tb (tk5 (List.mem_of_getElem? (i := 15) rfl)) rfl
theorem mlX10_110 : Cond.methodLink RX10 110 yJ7_fill_bad5a ∈ tbz := tbz_tb (tk5 (List.mem_of_getElem? (i := 19) rfl)) rfl
theorem mlX10_116 : Cond.methodLink RX10 116 yJ9_max_f86c9 ∈ tbz := tbz_tb (tk5 (List.mem_of_getElem? (i := 22) rfl)) rfl
theorem mlX10_122 : Cond.methodLink RX10 122 yX10_sumSeated ∈ tbz := tbz_tb (tk5 (List.mem_of_getElem? (i := 25) rfl)) rfl
theorem kcX10_129 : Cond.constantLong RX10 129 (-1) ∈ tbz := tbz_tb (tk5 (List.mem_of_getElem? (i := 29) rfl)) rfl
theorem mlX10_74 : Cond.methodLink RX10 74 yX10_seatByRank ∈ tbz := tbz_tb (tk5 (List.mem_of_getElem? (i := 30) rfl)) rfl
theorem mlX10_131 : Cond.methodLink RX10 131 yX10_firstOfBest ∈ tbz := tbz_tb (tk5 (List.mem_of_getElem? (i := 34) rfl)) rfl
theorem mlX11_344 : Cond.methodLink RX11 344 yX8_isSitting ∈ tbz := tbz_tb (tk5 (List.mem_of_getElem? (i := 38) rfl)) rfl
theorem mlX11_347 : Cond.methodLink RX11 347 yX4_noteYear ∈ tbz := tbz_tb (tk5 (List.mem_of_getElem? (i := 39) rfl)) rfl
theorem mlX11_351 : Cond.methodLink RX11 351 yX11_hasComeToCustom ∈ tbz := tbz_tb (tk5 (List.mem_of_getElem? (i := 43) rfl)) rfl
theorem mlX11_377 : Cond.methodLink RX11 377 yX8_isSameRun ∈ tbz := tbz_tb (tk5 (List.mem_of_getElem? (i := 47) rfl)) rfl
theorem mlX11_354 : Cond.methodLink RX11 354 yX11_enterCustom ∈ tbz := tbz_tb (tk5 (List.mem_of_getElem? (i := 51) rfl)) rfl
theorem mlL_125 : Cond.methodLink RL 125 yX11_seat ∈ tbz := tbz_tb (tk5 (List.mem_of_getElem? (i := 55) rfl)) rfl
theorem mlL_129 : Cond.methodLink RL 129 yX11_moved ∈ tbz := tbz_tb (tk5 (List.mem_of_getElem? (i := 59) rfl)) rfl
theorem mlL_133 : Cond.methodLink RL 133 yX11_beside ∈ tbz := tbz_tb (tk5 (List.mem_of_getElem? (i := 63) rfl)) rfl
theorem mlX11_381 : Cond.methodLink RX11 381 yJ7_fill_53178 ∈ tbz := tbz_tb (tk5 (List.mem_of_getElem? (i := 67) rfl)) rfl
theorem mlX11_387 : Cond.methodLink RX11 387 yX4_worthOfAll ∈ tbz := tbz_tb (tk5 (List.mem_of_getElem? (i := 68) rfl)) rfl
theorem mlX4_49 : Cond.methodLink RX4 49 yX8_isSitting ∈ tbz := tbz_tb (tk5 (List.mem_of_getElem? (i := 72) rfl)) rfl
theorem mlX11_391 : Cond.methodLink RX11 391 yX8_unitsSatOn ∈ tbz := tbz_tb (tk5 (List.mem_of_getElem? (i := 73) rfl)) rfl
theorem mlX8_35 : Cond.methodLink RX8 35 yX8_isSitting ∈ tbz := tbz_tb (tk5 (List.mem_of_getElem? (i := 77) rfl)) rfl
theorem mlL_138 : Cond.methodLink RL 138 yX11_householdOf ∈ tbz := tbz_tb (tk5 (List.mem_of_getElem? (i := 78) rfl)) rfl
theorem mlX11_397 : Cond.methodLink RX11 397 yX3_heldBy ∈ tbz := tbz_tb (tk5 (List.mem_of_getElem? (i := 82) rfl)) rfl
theorem mlL_142 : Cond.methodLink RL 142 yX11_benchOf ∈ tbz := tbz_tb (tk5 (List.mem_of_getElem? (i := 86) rfl)) rfl
theorem mlX11_412 : Cond.methodLink RX11 412 yX11_ownedUnits ∈ tbz := tbz_tb (tk5 (List.mem_of_getElem? (i := 90) rfl)) rfl
theorem mlL_146 : Cond.methodLink RL 146 yX11_count ∈ tbz := tbz_tb (tk5 (List.mem_of_getElem? (i := 94) rfl)) rfl
theorem mlX11_419 : Cond.methodLink RX11 419 yX7_filled ∈ tbz := tbz_tb (tk5 (List.mem_of_getElem? (i := 98) rfl)) rfl
theorem mlX7_28 : Cond.methodLink RX7 28 yX7_isFilled ∈ tbz := tbz_tb (tk5 (List.mem_of_getElem? (i := 102) rfl)) rfl
theorem mlX11_422 : Cond.methodLink RX11 422 yX4_staying ∈ tbz := tbz_tb (tk5 (List.mem_of_getElem? (i := 103) rfl)) rfl
theorem mlX4_39 : Cond.methodLink RX4 39 yX4_isStaying ∈ tbz := tbz_tb (tk5 (List.mem_of_getElem? (i := 107) rfl)) rfl
theorem mlL_150 : Cond.methodLink RL 150 yX11_fund ∈ tbz := tbz_tb (tk5 (List.mem_of_getElem? (i := 108) rfl)) rfl
theorem mlL_154 : Cond.methodLink RL 154 yX11_row ∈ tbz := tbz_tb (tk5 (List.mem_of_getElem? (i := 112) rfl)) rfl
theorem mlX11_425 : Cond.methodLink RX11 425 yX7_lay ∈ tbz := tbz_tb (tk5 (List.mem_of_getElem? (i := 116) rfl)) rfl
theorem mlX7_42 : Cond.methodLink RX7 42 yJ7_fill_bad5a ∈ tbz := tbz_tb (tk5 (List.mem_of_getElem? (i := 120) rfl)) rfl
theorem mlL_158 : Cond.methodLink RL 158 yX11_tear ∈ tbz := tbz_tb (tk5 (List.mem_of_getElem? (i := 121) rfl)) rfl
theorem mlX11_428 : Cond.methodLink RX11 428 yX7_clear ∈ tbz := tbz_tb (tk5 (List.mem_of_getElem? (i := 125) rfl)) rfl
theorem mlL_164 : Cond.methodLink RL 164 yX11_write ∈ tbz := tbz_tb (tk5 (List.mem_of_getElem? (i := 129) rfl)) rfl
theorem mlX11_431 : Cond.methodLink RX11 431 yX7_put ∈ tbz := tbz_tb (tk5 (List.mem_of_getElem? (i := 133) rfl)) rfl
theorem mlX7_45 : Cond.methodLink RX7 45 yX7_cut ∈ tbz := tbz_tb (tk5 (List.mem_of_getElem? (i := 137) rfl)) rfl
theorem mlL_169 : Cond.methodLink RL 169 yX11_paste ∈ tbz := tbz_tb (tk5 (List.mem_of_getElem? (i := 140) rfl)) rfl
theorem mlX11_435 : Cond.methodLink RX11 435 yX7_copy ∈ tbz := tbz_tb (tk5 (List.mem_of_getElem? (i := 144) rfl)) rfl
theorem clL_10 : Cond.classLink RL 10 RX12 ∈ tbz := tbz_tb (tk5 (List.mem_of_getElem? (i := 151) rfl)) rfl
theorem mlL_12 : Cond.methodLink RL 12 yX12_init ∈ tbz := tbz_tb (tk5 (List.mem_of_getElem? (i := 153) rfl)) rfl
theorem mlX12_3 : Cond.methodLink RX12 3 Lib.objectInit ∈ tbz := tbz_tb (tk5 (List.mem_of_getElem? (i := 156) rfl)) rfl
theorem flX12_208 : Fl RX12 208 12 0 false := ⟨_, rfl, Nat.le_of_ble_eq_true rfl, tbz_tb (tk5 (List.mem_of_getElem? (i := 157) rfl)) rfl, rfl, rfl⟩
theorem flX12_9 : Fl RX12 9 12 1 true := ⟨_, rfl, Nat.le_of_ble_eq_true rfl, tbz_tb (tk5 (List.mem_of_getElem? (i := 158) rfl)) rfl, rfl, rfl⟩
theorem flX12_13 : Fl RX12 13 12 2 true := ⟨_, rfl, Nat.le_of_ble_eq_true rfl, tbz_tb (tk5 (List.mem_of_getElem? (i := 159) rfl)) rfl, rfl, rfl⟩
theorem flX12_16 : Fl RX12 16 12 3 true := ⟨_, rfl, Nat.le_of_ble_eq_true rfl, tbz_tb (tk5 (List.mem_of_getElem? (i := 160) rfl)) rfl, rfl, rfl⟩
theorem flX12_20 : Fl RX12 20 12 4 true := ⟨_, rfl, Nat.le_of_ble_eq_true rfl, tbz_tb (tk5 (List.mem_of_getElem? (i := 161) rfl)) rfl, rfl, rfl⟩
theorem flX12_251 : Fl RX12 251 12 5 false := ⟨_, rfl, Nat.le_of_ble_eq_true rfl, tbz_tb (tk5 (List.mem_of_getElem? (i := 162) rfl)) rfl, rfl, rfl⟩
theorem flX12_241 : Fl RX12 241 12 6 false := ⟨_, rfl, Nat.le_of_ble_eq_true rfl, tbz_tb (tk5 (List.mem_of_getElem? (i := 163) rfl)) rfl, rfl, rfl⟩
theorem flX12_248 : Fl RX12 248 12 7 false := ⟨_, rfl, Nat.le_of_ble_eq_true rfl, tbz_tb (tk5 (List.mem_of_getElem? (i := 164) rfl)) rfl, rfl, rfl⟩
theorem flX12_295 : Fl RX12 295 12 8 false := ⟨_, rfl, Nat.le_of_ble_eq_true rfl, tbz_tb (tk5 (List.mem_of_getElem? (i := 165) rfl)) rfl, rfl, rfl⟩
theorem flX12_316 : Fl RX12 316 12 9 false := ⟨_, rfl, Nat.le_of_ble_eq_true rfl, tbz_tb (tk5 (List.mem_of_getElem? (i := 166) rfl)) rfl, rfl, rfl⟩
theorem flX12_358 : Fl RX12 358 12 10 false := ⟨_, rfl, Nat.le_of_ble_eq_true rfl, tbz_tb (tk5 (List.mem_of_getElem? (i := 167) rfl)) rfl, rfl, rfl⟩
theorem flX12_355 : Fl RX12 355 12 11 false := ⟨_, rfl, Nat.le_of_ble_eq_true rfl, tbz_tb (tk5 (List.mem_of_getElem? (i := 168) rfl)) rfl, rfl, rfl⟩
theorem flX12_378 : Fl RX12 378 12 12 false := ⟨_, rfl, Nat.le_of_ble_eq_true rfl, tbz_tb (tk5 (List.mem_of_getElem? (i := 169) rfl)) rfl, rfl, rfl⟩
theorem flX12_23 : Fl RX12 23 12 13 false := ⟨_, rfl, Nat.le_of_ble_eq_true rfl, tbz_tb (tk5 (List.mem_of_getElem? (i := 170) rfl)) rfl, rfl, rfl⟩
theorem flX12_27 : Fl RX12 27 12 14 false := ⟨_, rfl, Nat.le_of_ble_eq_true rfl, tbz_tb (tk5 (List.mem_of_getElem? (i := 171) rfl)) rfl, rfl, rfl⟩
theorem flX12_30 : Fl RX12 30 12 15 false := ⟨_, rfl, Nat.le_of_ble_eq_true rfl, tbz_tb (tk5 (List.mem_of_getElem? (i := 172) rfl)) rfl, rfl, rfl⟩
theorem flX12_33 : Fl RX12 33 12 16 false := ⟨_, rfl, Nat.le_of_ble_eq_true rfl, tbz_tb (tk5 (List.mem_of_getElem? (i := 173) rfl)) rfl, rfl, rfl⟩
theorem flX12_36 : Fl RX12 36 12 17 false := ⟨_, rfl, Nat.le_of_ble_eq_true rfl, tbz_tb (tk5 (List.mem_of_getElem? (i := 174) rfl)) rfl, rfl, rfl⟩
theorem flX12_39 : Fl RX12 39 12 18 true := ⟨_, rfl, Nat.le_of_ble_eq_true rfl, tbz_tb (tk5 (List.mem_of_getElem? (i := 175) rfl)) rfl, rfl, rfl⟩
theorem flX12_42 : Fl RX12 42 12 19 true := ⟨_, rfl, Nat.le_of_ble_eq_true rfl, tbz_tb (tk5 (List.mem_of_getElem? (i := 176) rfl)) rfl, rfl, rfl⟩
theorem flX12_45 : Fl RX12 45 12 20 true := ⟨_, rfl, Nat.le_of_ble_eq_true rfl, tbz_tb (tk5 (List.mem_of_getElem? (i := 177) rfl)) rfl, rfl, rfl⟩
theorem flX12_48 : Fl RX12 48 12 21 true := ⟨_, rfl, Nat.le_of_ble_eq_true rfl, tbz_tb (tk5 (List.mem_of_getElem? (i := 178) rfl)) rfl, rfl, rfl⟩
theorem flX12_51 : Fl RX12 51 12 22 true := ⟨_, rfl, Nat.le_of_ble_eq_true rfl, tbz_tb (tk5 (List.mem_of_getElem? (i := 179) rfl)) rfl, rfl, rfl⟩
theorem flX12_54 : Fl RX12 54 12 23 true := ⟨_, rfl, Nat.le_of_ble_eq_true rfl, tbz_tb (tk5 (List.mem_of_getElem? (i := 180) rfl)) rfl, rfl, rfl⟩
theorem flX12_57 : Fl RX12 57 12 24 true := ⟨_, rfl, Nat.le_of_ble_eq_true rfl, tbz_tb (tk5 (List.mem_of_getElem? (i := 181) rfl)) rfl, rfl, rfl⟩
theorem flX12_61 : Fl RX12 61 12 25 true := ⟨_, rfl, Nat.le_of_ble_eq_true rfl, tbz_tb (tk5 (List.mem_of_getElem? (i := 182) rfl)) rfl, rfl, rfl⟩
theorem flX12_64 : Fl RX12 64 12 26 true := ⟨_, rfl, Nat.le_of_ble_eq_true rfl, tbz_tb (tk5 (List.mem_of_getElem? (i := 183) rfl)) rfl, rfl, rfl⟩
theorem flX12_67 : Fl RX12 67 12 27 true := ⟨_, rfl, Nat.le_of_ble_eq_true rfl, tbz_tb (tk5 (List.mem_of_getElem? (i := 184) rfl)) rfl, rfl, rfl⟩
theorem flX12_70 : Fl RX12 70 12 28 true := ⟨_, rfl, Nat.le_of_ble_eq_true rfl, tbz_tb (tk5 (List.mem_of_getElem? (i := 185) rfl)) rfl, rfl, rfl⟩
theorem flX12_73 : Fl RX12 73 12 29 true := ⟨_, rfl, Nat.le_of_ble_eq_true rfl, tbz_tb (tk5 (List.mem_of_getElem? (i := 186) rfl)) rfl, rfl, rfl⟩
theorem flX12_76 : Fl RX12 76 12 30 true := ⟨_, rfl, Nat.le_of_ble_eq_true rfl, tbz_tb (tk5 (List.mem_of_getElem? (i := 187) rfl)) rfl, rfl, rfl⟩
theorem flX12_79 : Fl RX12 79 12 31 true := ⟨_, rfl, Nat.le_of_ble_eq_true rfl, tbz_tb (tk5 (List.mem_of_getElem? (i := 188) rfl)) rfl, rfl, rfl⟩
theorem flX12_82 : Fl RX12 82 12 32 true := ⟨_, rfl, Nat.le_of_ble_eq_true rfl, tbz_tb (tk5 (List.mem_of_getElem? (i := 189) rfl)) rfl, rfl, rfl⟩
theorem flX12_85 : Fl RX12 85 12 33 true := ⟨_, rfl, Nat.le_of_ble_eq_true rfl, tbz_tb (tk5 (List.mem_of_getElem? (i := 190) rfl)) rfl, rfl, rfl⟩
theorem flX12_88 : Fl RX12 88 12 34 true := ⟨_, rfl, Nat.le_of_ble_eq_true rfl, tbz_tb (tk5 (List.mem_of_getElem? (i := 191) rfl)) rfl, rfl, rfl⟩
theorem flX12_91 : Fl RX12 91 12 35 true := ⟨_, rfl, Nat.le_of_ble_eq_true rfl, tbz_tb (tk5 (List.mem_of_getElem? (i := 192) rfl)) rfl, rfl, rfl⟩
theorem flX12_94 : Fl RX12 94 12 36 true := ⟨_, rfl, Nat.le_of_ble_eq_true rfl, tbz_tb (tk5 (List.mem_of_getElem? (i := 193) rfl)) rfl, rfl, rfl⟩
theorem flX12_97 : Fl RX12 97 12 37 true := ⟨_, rfl, Nat.le_of_ble_eq_true rfl, tbz_tb (tk5 (List.mem_of_getElem? (i := 194) rfl)) rfl, rfl, rfl⟩
theorem flX12_100 : Fl RX12 100 12 38 true := ⟨_, rfl, Nat.le_of_ble_eq_true rfl, tbz_tb (tk5 (List.mem_of_getElem? (i := 195) rfl)) rfl, rfl, rfl⟩
theorem flX12_103 : Fl RX12 103 12 39 true := ⟨_, rfl, Nat.le_of_ble_eq_true rfl, tbz_tb (tk5 (List.mem_of_getElem? (i := 196) rfl)) rfl, rfl, rfl⟩
theorem flX12_106 : Fl RX12 106 12 40 true := ⟨_, rfl, Nat.le_of_ble_eq_true rfl, tbz_tb (tk5 (List.mem_of_getElem? (i := 197) rfl)) rfl, rfl, rfl⟩
theorem flX12_109 : Fl RX12 109 12 41 true := ⟨_, rfl, Nat.le_of_ble_eq_true rfl, tbz_tb (tk5 (List.mem_of_getElem? (i := 198) rfl)) rfl, rfl, rfl⟩
theorem flX12_112 : Fl RX12 112 12 42 true := ⟨_, rfl, Nat.le_of_ble_eq_true rfl, tbz_tb (tk5 (List.mem_of_getElem? (i := 199) rfl)) rfl, rfl, rfl⟩
theorem flX12_115 : Fl RX12 115 12 43 true := ⟨_, rfl, Nat.le_of_ble_eq_true rfl, tbz_tb (tk5 (List.mem_of_getElem? (i := 200) rfl)) rfl, rfl, rfl⟩
theorem flX12_118 : Fl RX12 118 12 44 true := ⟨_, rfl, Nat.le_of_ble_eq_true rfl, tbz_tb (tk5 (List.mem_of_getElem? (i := 201) rfl)) rfl, rfl, rfl⟩
theorem flX12_121 : Fl RX12 121 12 45 true := ⟨_, rfl, Nat.le_of_ble_eq_true rfl, tbz_tb (tk5 (List.mem_of_getElem? (i := 202) rfl)) rfl, rfl, rfl⟩
theorem flX12_124 : Fl RX12 124 12 46 true := ⟨_, rfl, Nat.le_of_ble_eq_true rfl, tbz_tb (tk5 (List.mem_of_getElem? (i := 203) rfl)) rfl, rfl, rfl⟩
theorem flX12_127 : Fl RX12 127 12 47 true := ⟨_, rfl, Nat.le_of_ble_eq_true rfl, tbz_tb (tk5 (List.mem_of_getElem? (i := 204) rfl)) rfl, rfl, rfl⟩
theorem flX12_130 : Fl RX12 130 12 48 true := ⟨_, rfl, Nat.le_of_ble_eq_true rfl, tbz_tb (tk5 (List.mem_of_getElem? (i := 205) rfl)) rfl, rfl, rfl⟩
theorem flX12_133 : Fl RX12 133 12 49 true := ⟨_, rfl, Nat.le_of_ble_eq_true rfl, tbz_tb (tk5 (List.mem_of_getElem? (i := 206) rfl)) rfl, rfl, rfl⟩
theorem flX12_136 : Fl RX12 136 12 50 true := ⟨_, rfl, Nat.le_of_ble_eq_true rfl, tbz_tb (tk5 (List.mem_of_getElem? (i := 207) rfl)) rfl, rfl, rfl⟩
theorem flX12_139 : Fl RX12 139 12 51 true := ⟨_, rfl, Nat.le_of_ble_eq_true rfl, tbz_tb (tk5 (List.mem_of_getElem? (i := 208) rfl)) rfl, rfl, rfl⟩
theorem flX12_142 : Fl RX12 142 12 52 true := ⟨_, rfl, Nat.le_of_ble_eq_true rfl, tbz_tb (tk5 (List.mem_of_getElem? (i := 209) rfl)) rfl, rfl, rfl⟩
theorem flX12_145 : Fl RX12 145 12 53 true := ⟨_, rfl, Nat.le_of_ble_eq_true rfl, tbz_tb (tk5 (List.mem_of_getElem? (i := 210) rfl)) rfl, rfl, rfl⟩
theorem flX12_148 : Fl RX12 148 12 54 true := ⟨_, rfl, Nat.le_of_ble_eq_true rfl, tbz_tb (tk5 (List.mem_of_getElem? (i := 211) rfl)) rfl, rfl, rfl⟩
theorem flX12_151 : Fl RX12 151 12 55 true := ⟨_, rfl, Nat.le_of_ble_eq_true rfl, tbz_tb (tk5 (List.mem_of_getElem? (i := 212) rfl)) rfl, rfl, rfl⟩
theorem flX12_388 : Fl RX12 388 12 56 false := ⟨_, rfl, Nat.le_of_ble_eq_true rfl, tbz_tb (tk5 (List.mem_of_getElem? (i := 213) rfl)) rfl, rfl, rfl⟩
theorem flX12_154 : Fl RX12 154 12 57 true := ⟨_, rfl, Nat.le_of_ble_eq_true rfl, tbz_tb (tk5 (List.mem_of_getElem? (i := 214) rfl)) rfl, rfl, rfl⟩
theorem flX12_157 : Fl RX12 157 12 58 true := ⟨_, rfl, Nat.le_of_ble_eq_true rfl, tbz_tb (tk5 (List.mem_of_getElem? (i := 215) rfl)) rfl, rfl, rfl⟩
theorem flX12_160 : Fl RX12 160 12 59 true := ⟨_, rfl, Nat.le_of_ble_eq_true rfl, tbz_tb (tk5 (List.mem_of_getElem? (i := 216) rfl)) rfl, rfl, rfl⟩
theorem flX12_385 : Fl RX12 385 12 60 false := ⟨_, rfl, Nat.le_of_ble_eq_true rfl, tbz_tb (tk5 (List.mem_of_getElem? (i := 217) rfl)) rfl, rfl, rfl⟩
theorem flX12_382 : Fl RX12 382 12 61 false := ⟨_, rfl, Nat.le_of_ble_eq_true rfl, tbz_tb (tk5 (List.mem_of_getElem? (i := 218) rfl)) rfl, rfl, rfl⟩
theorem flX12_163 : Fl RX12 163 12 62 true := ⟨_, rfl, Nat.le_of_ble_eq_true rfl, tbz_tb (tk5 (List.mem_of_getElem? (i := 219) rfl)) rfl, rfl, rfl⟩
theorem flX12_166 : Fl RX12 166 12 63 true := ⟨_, rfl, Nat.le_of_ble_eq_true rfl, tbz_tb (tk5 (List.mem_of_getElem? (i := 220) rfl)) rfl, rfl, rfl⟩
theorem flX12_169 : Fl RX12 169 12 64 true := ⟨_, rfl, Nat.le_of_ble_eq_true rfl, tbz_tb (tk5 (List.mem_of_getElem? (i := 221) rfl)) rfl, rfl, rfl⟩
theorem flX12_172 : Fl RX12 172 12 65 true := ⟨_, rfl, Nat.le_of_ble_eq_true rfl, tbz_tb (tk5 (List.mem_of_getElem? (i := 222) rfl)) rfl, rfl, rfl⟩
theorem flX12_175 : Fl RX12 175 12 66 true := ⟨_, rfl, Nat.le_of_ble_eq_true rfl, tbz_tb (tk5 (List.mem_of_getElem? (i := 223) rfl)) rfl, rfl, rfl⟩
theorem flX12_178 : Fl RX12 178 12 67 true := ⟨_, rfl, Nat.le_of_ble_eq_true rfl, tbz_tb (tk5 (List.mem_of_getElem? (i := 224) rfl)) rfl, rfl, rfl⟩
theorem flX12_181 : Fl RX12 181 12 68 true := ⟨_, rfl, Nat.le_of_ble_eq_true rfl, tbz_tb (tk5 (List.mem_of_getElem? (i := 225) rfl)) rfl, rfl, rfl⟩
theorem flX12_184 : Fl RX12 184 12 69 true := ⟨_, rfl, Nat.le_of_ble_eq_true rfl, tbz_tb (tk5 (List.mem_of_getElem? (i := 226) rfl)) rfl, rfl, rfl⟩
theorem flX12_187 : Fl RX12 187 12 70 true := ⟨_, rfl, Nat.le_of_ble_eq_true rfl, tbz_tb (tk5 (List.mem_of_getElem? (i := 227) rfl)) rfl, rfl, rfl⟩
theorem flX12_190 : Fl RX12 190 12 71 true := ⟨_, rfl, Nat.le_of_ble_eq_true rfl, tbz_tb (tk5 (List.mem_of_getElem? (i := 228) rfl)) rfl, rfl, rfl⟩
theorem flX12_193 : Fl RX12 193 12 72 true := ⟨_, rfl, Nat.le_of_ble_eq_true rfl, tbz_tb (tk5 (List.mem_of_getElem? (i := 229) rfl)) rfl, rfl, rfl⟩
theorem flX12_196 : Fl RX12 196 12 73 true := ⟨_, rfl, Nat.le_of_ble_eq_true rfl, tbz_tb (tk5 (List.mem_of_getElem? (i := 230) rfl)) rfl, rfl, rfl⟩
theorem flX12_199 : Fl RX12 199 12 74 true := ⟨_, rfl, Nat.le_of_ble_eq_true rfl, tbz_tb (tk5 (List.mem_of_getElem? (i := 231) rfl)) rfl, rfl, rfl⟩
theorem flX12_427 : Fl RX12 427 12 75 false := ⟨_, rfl, Nat.le_of_ble_eq_true rfl, tbz_tb (tk5 (List.mem_of_getElem? (i := 232) rfl)) rfl, rfl, rfl⟩
theorem flX12_202 : Fl RX12 202 12 76 true := ⟨_, rfl, Nat.le_of_ble_eq_true rfl, tbz_tb (tk5 (List.mem_of_getElem? (i := 233) rfl)) rfl, rfl, rfl⟩
theorem flX12_438 : Fl RX12 438 12 77 false := ⟨_, rfl, Nat.le_of_ble_eq_true rfl, tbz_tb (tk5 (List.mem_of_getElem? (i := 234) rfl)) rfl, rfl, rfl⟩
theorem flX12_205 : Fl RX12 205 12 78 true := ⟨_, rfl, Nat.le_of_ble_eq_true rfl, tbz_tb (tk5 (List.mem_of_getElem? (i := 235) rfl)) rfl, rfl, rfl⟩
theorem mlL_157 : Cond.methodLink RL 157 yX12_row ∈ tbz := tbz_tb (tk6 (List.mem_of_getElem? (i := 155) rfl)) rfl
theorem mlX12_217 : Cond.methodLink RX12 217 yX12_isPlace ∈ tbz := tbz_tb (tk6 (List.mem_of_getElem? (i := 159) rfl)) rfl
theorem kcX12_211 : Cond.constantLong RX12 211 (3) ∈ tbz := tbz_tb (tk6 (List.mem_of_getElem? (i := 162) rfl)) rfl
theorem mlX12_213 : Cond.methodLink RX12 213 yX12_in ∈ tbz := tbz_tb (tk6 (List.mem_of_getElem? (i := 163) rfl)) rfl
theorem mlL_161 : Cond.methodLink RL 161 yX12_tear ∈ tbz := tbz_tb (tk6 (List.mem_of_getElem? (i := 166) rfl)) rfl
theorem mlL_168 : Cond.methodLink RL 168 yX12_write ∈ tbz := tbz_tb (tk6 (List.mem_of_getElem? (i := 170) rfl)) rfl
theorem mlX12_221 : Cond.methodLink RX12 221 yX12_cut ∈ tbz := tbz_tb (tk6 (List.mem_of_getElem? (i := 174) rfl)) rfl
theorem mlL_172 : Cond.methodLink RL 172 yX12_paste ∈ tbz := tbz_tb (tk6 (List.mem_of_getElem? (i := 177) rfl)) rfl
theorem mlL_17 : Cond.methodLink RL 17 yX12_pulpit ∈ tbz := tbz_tb (tk6 (List.mem_of_getElem? (i := 181) rfl)) rfl
theorem mlX12_227 : Cond.methodLink RX12 227 yX12_isPoint ∈ tbz := tbz_tb (tk6 (List.mem_of_getElem? (i := 185) rfl)) rfl
theorem kcX12_225 : Cond.constantLong RX12 225 (60) ∈ tbz := tbz_tb (tk6 (List.mem_of_getElem? (i := 188) rfl)) rfl
theorem kcX12_231 : Cond.constantLong RX12 231 (100000) ∈ tbz := tbz_tb (tk6 (List.mem_of_getElem? (i := 189) rfl)) rfl
theorem mlL_22 : Cond.methodLink RL 22 yX12_terms ∈ tbz := tbz_tb (tk6 (List.mem_of_getElem? (i := 190) rfl)) rfl
theorem kcX12_233 : Cond.constantLong RX12 233 (2) ∈ tbz := tbz_tb (tk6 (List.mem_of_getElem? (i := 194) rfl)) rfl
theorem kcX12_235 : Cond.constantLong RX12 235 (30) ∈ tbz := tbz_tb (tk6 (List.mem_of_getElem? (i := 195) rfl)) rfl
theorem kcX12_237 : Cond.constantLong RX12 237 (100) ∈ tbz := tbz_tb (tk6 (List.mem_of_getElem? (i := 196) rfl)) rfl
theorem mlL_26 : Cond.methodLink RL 26 yX12_pillar ∈ tbz := tbz_tb (tk6 (List.mem_of_getElem? (i := 197) rfl)) rfl
theorem kcX12_239 : Cond.constantLong RX12 239 (5) ∈ tbz := tbz_tb (tk6 (List.mem_of_getElem? (i := 201) rfl)) rfl
theorem mlL_31 : Cond.methodLink RL 31 yX12_bench ∈ tbz := tbz_tb (tk6 (List.mem_of_getElem? (i := 202) rfl)) rfl
theorem kcX12_244 : Cond.constantLong RX12 244 (4) ∈ tbz := tbz_tb (tk6 (List.mem_of_getElem? (i := 206) rfl)) rfl
theorem kcX12_246 : Cond.constantLong RX12 246 (32) ∈ tbz := tbz_tb (tk6 (List.mem_of_getElem? (i := 207) rfl)) rfl
theorem mlL_70 : Cond.methodLink RL 70 yX12_unit ∈ tbz := tbz_tb (tk6 (List.mem_of_getElem? (i := 208) rfl)) rfl
theorem mlX12_283 : Cond.methodLink RX12 283 yX12_isUnit ∈ tbz := tbz_tb (tk6 (List.mem_of_getElem? (i := 212) rfl)) rfl
theorem mlX12_254 : Cond.methodLink RX12 254 yX12_isBench ∈ tbz := tbz_tb (tk6 (List.mem_of_getElem? (i := 216) rfl)) rfl
theorem mlX12_286 : Cond.methodLink RX12 286 yX12_hearing ∈ tbz := tbz_tb (tk6 (List.mem_of_getElem? (i := 220) rfl)) rfl
theorem mlX12_280 : Cond.methodLink RX12 280 yX12_inWay ∈ tbz := tbz_tb (tk6 (List.mem_of_getElem? (i := 224) rfl)) rfl
theorem mlX12_276 : Cond.methodLink RX12 276 yX12_isInWay ∈ tbz := tbz_tb (tk6 (List.mem_of_getElem? (i := 228) rfl)) rfl
theorem mlX12_263 : Cond.methodLink RX12 263 yJ9_max_7cf53 ∈ tbz := tbz_tb (tk6 (List.mem_of_getElem? (i := 232) rfl)) rfl
theorem mlX12_269 : Cond.methodLink RX12 269 yJ9_min_7cf53 ∈ tbz := tbz_tb (tk6 (List.mem_of_getElem? (i := 233) rfl)) rfl
theorem mlX12_272 : Cond.methodLink RX12 272 yX12_side ∈ tbz := tbz_tb (tk6 (List.mem_of_getElem? (i := 234) rfl)) rfl
theorem mlX12_257 : Cond.methodLink RX12 257 yJ6_signum_0f7a4 ∈ tbz := tbz_tb (tk6 (List.mem_of_getElem? (i := 238) rfl)) rfl
theorem mlL_35 : Cond.methodLink RL 35 yX12_household ∈ tbz := tbz_tb (tk7 (List.mem_of_getElem? (i := 1) rfl)) rfl
theorem mlX12_301 : Cond.methodLink RX12 301 yX12_isLike ∈ tbz := tbz_tb (tk7 (List.mem_of_getElem? (i := 5) rfl)) rfl
theorem kcX12_289 : Cond.constantLong RX12 289 (99) ∈ tbz := tbz_tb (tk7 (List.mem_of_getElem? (i := 8) rfl)) rfl
theorem kcX12_291 : Cond.constantLong RX12 291 (12) ∈ tbz := tbz_tb (tk7 (List.mem_of_getElem? (i := 9) rfl)) rfl
theorem kcX12_293 : Cond.constantLong RX12 293 (9) ∈ tbz := tbz_tb (tk7 (List.mem_of_getElem? (i := 10) rfl)) rfl
theorem mlL_40 : Cond.methodLink RL 40 yX12_changed ∈ tbz := tbz_tb (tk7 (List.mem_of_getElem? (i := 11) rfl)) rfl
theorem mlX12_304 : Cond.methodLink RX12 304 yX12_isThere ∈ tbz := tbz_tb (tk7 (List.mem_of_getElem? (i := 15) rfl)) rfl
theorem mlX12_298 : Cond.methodLink RX12 298 yX12_isHouse ∈ tbz := tbz_tb (tk7 (List.mem_of_getElem? (i := 19) rfl)) rfl
theorem mlL_74 : Cond.methodLink RL 74 yX12_worth ∈ tbz := tbz_tb (tk7 (List.mem_of_getElem? (i := 23) rfl)) rfl
theorem mlX12_307 : Cond.methodLink RX12 307 yX12_isRun ∈ tbz := tbz_tb (tk7 (List.mem_of_getElem? (i := 27) rfl)) rfl
theorem mlX12_310 : Cond.methodLink RX12 310 yX12_listens ∈ tbz := tbz_tb (tk7 (List.mem_of_getElem? (i := 31) rfl)) rfl
theorem mlX12_313 : Cond.methodLink RX12 313 yX12_worthOf ∈ tbz := tbz_tb (tk7 (List.mem_of_getElem? (i := 35) rfl)) rfl
theorem mlL_57 : Cond.methodLink RL 57 yX12_right ∈ tbz := tbz_tb (tk7 (List.mem_of_getElem? (i := 39) rfl)) rfl
theorem kcX12_319 : Cond.constantLong RX12 319 (7) ∈ tbz := tbz_tb (tk7 (List.mem_of_getElem? (i := 43) rfl)) rfl
theorem kcX12_321 : Cond.constantLong RX12 321 (199) ∈ tbz := tbz_tb (tk7 (List.mem_of_getElem? (i := 44) rfl)) rfl
theorem mlX12_323 : Cond.methodLink RX12 323 yX12_adds ∈ tbz := tbz_tb (tk7 (List.mem_of_getElem? (i := 45) rfl)) rfl
theorem mlL_62 : Cond.methodLink RL 62 yX12_ends ∈ tbz := tbz_tb (tk7 (List.mem_of_getElem? (i := 49) rfl)) rfl
theorem mlX12_327 : Cond.methodLink RX12 327 yX12_stops ∈ tbz := tbz_tb (tk7 (List.mem_of_getElem? (i := 53) rfl)) rfl
theorem mlL_66 : Cond.methodLink RL 66 yX12_rightOf ∈ tbz := tbz_tb (tk7 (List.mem_of_getElem? (i := 57) rfl)) rfl
theorem mlL_79 : Cond.methodLink RL 79 yX12_belongs ∈ tbz := tbz_tb (tk7 (List.mem_of_getElem? (i := 61) rfl)) rfl
theorem mlX12_345 : Cond.methodLink RX12 345 yX12_areYears ∈ tbz := tbz_tb (tk7 (List.mem_of_getElem? (i := 65) rfl)) rfl
theorem mlX12_348 : Cond.methodLink RX12 348 yX12_ownerOf ∈ tbz := tbz_tb (tk7 (List.mem_of_getElem? (i := 69) rfl)) rfl
theorem mlX12_341 : Cond.methodLink RX12 341 yX12_bestRight ∈ tbz := tbz_tb (tk7 (List.mem_of_getElem? (i := 73) rfl)) rfl
theorem mlX12_331 : Cond.methodLink RX12 331 yX12_isFor ∈ tbz := tbz_tb (tk7 (List.mem_of_getElem? (i := 77) rfl)) rfl
theorem mlX12_334 : Cond.methodLink RX12 334 yX12_whose ∈ tbz := tbz_tb (tk7 (List.mem_of_getElem? (i := 81) rfl)) rfl
theorem mlX12_338 : Cond.methodLink RX12 338 yX12_isBetter ∈ tbz := tbz_tb (tk7 (List.mem_of_getElem? (i := 85) rfl)) rfl
theorem mlL_84 : Cond.methodLink RL 84 yX12_judge ∈ tbz := tbz_tb (tk7 (List.mem_of_getElem? (i := 89) rfl)) rfl
theorem mlL_44 : Cond.methodLink RL 44 yX12_gone ∈ tbz := tbz_tb (tk7 (List.mem_of_getElem? (i := 93) rfl)) rfl
theorem mlX12_351 : Cond.methodLink RX12 351 yX12_owns ∈ tbz := tbz_tb (tk7 (List.mem_of_getElem? (i := 97) rfl)) rfl
theorem mlL_48 : Cond.methodLink RL 48 yX12_sell ∈ tbz := tbz_tb (tk7 (List.mem_of_getElem? (i := 101) rfl)) rfl
theorem mlL_52 : Cond.methodLink RL 52 yX12_plotOf ∈ tbz := tbz_tb (tk7 (List.mem_of_getElem? (i := 105) rfl)) rfl
theorem mlL_88 : Cond.methodLink RL 88 yX12_lot ∈ tbz := tbz_tb (tk7 (List.mem_of_getElem? (i := 109) rfl)) rfl
theorem mlL_92 : Cond.methodLink RL 92 yX12_offers ∈ tbz := tbz_tb (tk7 (List.mem_of_getElem? (i := 113) rfl)) rfl
theorem kcX12_361 : Cond.constantLong RX12 361 (10000) ∈ tbz := tbz_tb (tk7 (List.mem_of_getElem? (i := 117) rfl)) rfl
theorem mlL_97 : Cond.methodLink RL 97 yX12_knock ∈ tbz := tbz_tb (tk7 (List.mem_of_getElem? (i := 118) rfl)) rfl
theorem kcX12_370 : Cond.constantLong RX12 370 (-1) ∈ tbz := tbz_tb (tk7 (List.mem_of_getElem? (i := 122) rfl)) rfl
theorem mlX12_372 : Cond.methodLink RX12 372 yX12_sumsBut ∈ tbz := tbz_tb (tk7 (List.mem_of_getElem? (i := 123) rfl)) rfl
theorem mlX12_363 : Cond.methodLink RX12 363 yX12_offered ∈ tbz := tbz_tb (tk7 (List.mem_of_getElem? (i := 127) rfl)) rfl
theorem mlX12_367 : Cond.methodLink RX12 367 yJ9_max_f86c9 ∈ tbz := tbz_tb (tk7 (List.mem_of_getElem? (i := 131) rfl)) rfl
theorem kcX12_376 : Cond.constantLong RX12 376 (-3) ∈ tbz := tbz_tb (tk7 (List.mem_of_getElem? (i := 132) rfl)) rfl
theorem mlL_102 : Cond.methodLink RL 102 yX12_knocked ∈ tbz := tbz_tb (tk7 (List.mem_of_getElem? (i := 133) rfl)) rfl
theorem kcX12_392 : Cond.constantLong RX12 392 (-2) ∈ tbz := tbz_tb (tk7 (List.mem_of_getElem? (i := 137) rfl)) rfl
theorem mlL_124 : Cond.methodLink RL 124 yX12_go ∈ tbz := tbz_tb (tk7 (List.mem_of_getElem? (i := 138) rfl)) rfl
theorem mlX12_411 : Cond.methodLink RX12 411 yX12_seats ∈ tbz := tbz_tb (tk7 (List.mem_of_getElem? (i := 142) rfl)) rfl
theorem mlX12_402 : Cond.methodLink RX12 402 yX12_byRights ∈ tbz := tbz_tb (tk7 (List.mem_of_getElem? (i := 146) rfl)) rfl
theorem mlX12_394 : Cond.methodLink RX12 394 yX12_isFree ∈ tbz := tbz_tb (tk7 (List.mem_of_getElem? (i := 150) rfl)) rfl
theorem mlX12_398 : Cond.methodLink RX12 398 yX12_takes ∈ tbz := tbz_tb (tk7 (List.mem_of_getElem? (i := 154) rfl)) rfl
theorem mlX12_405 : Cond.methodLink RX12 405 yX12_canByRank ∈ tbz := tbz_tb (tk7 (List.mem_of_getElem? (i := 158) rfl)) rfl
theorem mlX12_408 : Cond.methodLink RX12 408 yX12_gains ∈ tbz := tbz_tb (tk7 (List.mem_of_getElem? (i := 162) rfl)) rfl
theorem mlX12_415 : Cond.methodLink RX12 415 yX12_hasUse ∈ tbz := tbz_tb (tk7 (List.mem_of_getElem? (i := 166) rfl)) rfl
theorem mlX12_418 : Cond.methodLink RX12 418 yX12_customs ∈ tbz := tbz_tb (tk7 (List.mem_of_getElem? (i := 170) rfl)) rfl
theorem mlL_128 : Cond.methodLink RL 128 yX12_seat ∈ tbz := tbz_tb (tk7 (List.mem_of_getElem? (i := 174) rfl)) rfl
theorem mlX12_421 : Cond.methodLink RX12 421 yX12_isPast ∈ tbz := tbz_tb (tk7 (List.mem_of_getElem? (i := 178) rfl)) rfl
theorem mlL_132 : Cond.methodLink RL 132 yX12_moved ∈ tbz := tbz_tb (tk7 (List.mem_of_getElem? (i := 182) rfl)) rfl
theorem mlL_137 : Cond.methodLink RL 137 yX12_beside ∈ tbz := tbz_tb (tk7 (List.mem_of_getElem? (i := 186) rfl)) rfl
theorem mlL_107 : Cond.methodLink RL 107 yX12_change ∈ tbz := tbz_tb (tk7 (List.mem_of_getElem? (i := 190) rfl)) rfl
theorem mlX12_430 : Cond.methodLink RX12 430 yX12_looks ∈ tbz := tbz_tb (tk7 (List.mem_of_getElem? (i := 194) rfl)) rfl
theorem mlX12_424 : Cond.methodLink RX12 424 yX12_likes ∈ tbz := tbz_tb (tk7 (List.mem_of_getElem? (i := 198) rfl)) rfl
theorem mlX12_433 : Cond.methodLink RX12 433 yX12_comesBack ∈ tbz := tbz_tb (tk7 (List.mem_of_getElem? (i := 202) rfl)) rfl
theorem mlL_111 : Cond.methodLink RL 111 yX12_changedTo ∈ tbz := tbz_tb (tk7 (List.mem_of_getElem? (i := 206) rfl)) rfl
theorem mlL_115 : Cond.methodLink RL 115 yX12_sunday ∈ tbz := tbz_tb (tk7 (List.mem_of_getElem? (i := 210) rfl)) rfl
theorem kcX12_436 : Cond.constantLong RX12 436 (-12) ∈ tbz := tbz_tb (tk7 (List.mem_of_getElem? (i := 214) rfl)) rfl
theorem mlX12_441 : Cond.methodLink RX12 441 yX12_ownRun ∈ tbz := tbz_tb (tk7 (List.mem_of_getElem? (i := 215) rfl)) rfl
theorem mlX12_444 : Cond.methodLink RX12 444 yX12_bestRun ∈ tbz := tbz_tb (tk7 (List.mem_of_getElem? (i := 219) rfl)) rfl
theorem mlL_119 : Cond.methodLink RL 119 yX12_sat ∈ tbz := tbz_tb (tk7 (List.mem_of_getElem? (i := 223) rfl)) rfl
theorem mlL_141 : Cond.methodLink RL 141 yX12_householdOf ∈ tbz := tbz_tb (tk7 (List.mem_of_getElem? (i := 227) rfl)) rfl
theorem mlL_145 : Cond.methodLink RL 145 yX12_benchOf ∈ tbz := tbz_tb (tk7 (List.mem_of_getElem? (i := 231) rfl)) rfl
theorem mlL_149 : Cond.methodLink RL 149 yX12_count ∈ tbz := tbz_tb (tk7 (List.mem_of_getElem? (i := 235) rfl)) rfl
theorem mlL_153 : Cond.methodLink RL 153 yX12_fund ∈ tbz := tbz_tb (tk7 (List.mem_of_getElem? (i := 239) rfl)) rfl
theorem kcL_162 : Cond.constantLong RL 162 (4294967295) ∈ tbz := tbz_tb (tk8 (List.mem_of_getElem? (i := 3) rfl)) rfl
theorem oiI : Cond.instanceMethod Lib.objectInit ∈ tbz := tbz_tb (tk1 (List.mem_of_getElem? (i := 24) rfl)) rfl
theorem oiC : Cond.code Lib.objectInit ⟨#[0xb1]⟩ 1 none ∈ tbz := tbz_tb (tk1 (List.mem_of_getElem? (i := 25) rfl)) rfl
theorem ac_int : Cond.arrayClass (.int) ∈ tbz := tbz_tb (tk1 (List.mem_of_getElem? (i := 84) rfl)) rfl
theorem ac_boolean : Cond.arrayClass (.boolean) ∈ tbz := tbz_tb (tk1 (List.mem_of_getElem? (i := 85) rfl)) rfl
theorem ac_long : Cond.arrayClass (.long) ∈ tbz := tbz_tb (tk1 (List.mem_of_getElem? (i := 158) rfl)) rfl
theorem u_inz (ws : List Cond) (ps : List (Nat × Nat)) (hp : ∀ w ∈ ws, w ∈ tables_1) (hg : ws.all goodWord = true) : ∀ w ∈ ws, w ∈ tbz := fun w hw => tbz_tb (hp w hw) (List.all_eq_true.mp hg w hw)
theorem uw0 : ∀ w ∈ u_ws RX0 TX0 13, w ∈ tbz := List.forall_mem_cons.mpr ⟨tbz_tb (tk1 (List.mem_of_getElem? (i := 187) rfl)) rfl, List.forall_mem_cons.mpr ⟨tbz_tb (tk1 (List.mem_of_getElem? (i := 189) rfl)) rfl, List.forall_mem_cons.mpr ⟨tbz_tb (tk1 (List.mem_of_getElem? (i := 191) rfl)) rfl, List.forall_mem_cons.mpr ⟨tbz_tb (tk1 (List.mem_of_getElem? (i := 193) rfl)) rfl, List.forall_mem_cons.mpr ⟨tbz_tb (tk1 (List.mem_of_getElem? (i := 195) rfl)) rfl, List.forall_mem_cons.mpr ⟨tbz_tb (tk1 (List.mem_of_getElem? (i := 197) rfl)) rfl, List.forall_mem_cons.mpr ⟨tbz_tb (tk1 (List.mem_of_getElem? (i := 199) rfl)) rfl, List.forall_mem_cons.mpr ⟨tbz_tb (tk1 (List.mem_of_getElem? (i := 201) rfl)) rfl, List.forall_mem_cons.mpr ⟨tbz_tb (tk1 (List.mem_of_getElem? (i := 203) rfl)) rfl, List.forall_mem_cons.mpr ⟨tbz_tb (tk1 (List.mem_of_getElem? (i := 205) rfl)) rfl, List.forall_mem_cons.mpr ⟨tbz_tb (tk1 (List.mem_of_getElem? (i := 207) rfl)) rfl, List.forall_mem_cons.mpr ⟨tbz_tb (tk1 (List.mem_of_getElem? (i := 209) rfl)) rfl, List.forall_mem_cons.mpr ⟨tbz_tb (tk1 (List.mem_of_getElem? (i := 211) rfl)) rfl, fun _ h => absurd h List.not_mem_nil⟩⟩⟩⟩⟩⟩⟩⟩⟩⟩⟩⟩⟩
theorem cz0 : Cl 0 := ⟨(RX0, TX0, 13), tyX0, rfl, rfl, uw0, tyX0_ok, nmX0, by decide, tbz_tb (tk1 (List.mem_of_getElem? (i := 160) rfl)) rfl, tbz_tb (tk1 (List.mem_of_getElem? (i := 7) rfl)) rfl⟩
theorem uw1 : ∀ w ∈ u_ws RX1 TX1 14, w ∈ tbz := List.forall_mem_cons.mpr ⟨tbz_tb (tk1 (List.mem_of_getElem? (i := 55) rfl)) rfl, List.forall_mem_cons.mpr ⟨tbz_tb (tk1 (List.mem_of_getElem? (i := 57) rfl)) rfl, List.forall_mem_cons.mpr ⟨tbz_tb (tk1 (List.mem_of_getElem? (i := 59) rfl)) rfl, List.forall_mem_cons.mpr ⟨tbz_tb (tk1 (List.mem_of_getElem? (i := 61) rfl)) rfl, List.forall_mem_cons.mpr ⟨tbz_tb (tk1 (List.mem_of_getElem? (i := 63) rfl)) rfl, List.forall_mem_cons.mpr ⟨tbz_tb (tk1 (List.mem_of_getElem? (i := 65) rfl)) rfl, List.forall_mem_cons.mpr ⟨tbz_tb (tk1 (List.mem_of_getElem? (i := 67) rfl)) rfl, List.forall_mem_cons.mpr ⟨tbz_tb (tk1 (List.mem_of_getElem? (i := 69) rfl)) rfl, List.forall_mem_cons.mpr ⟨tbz_tb (tk1 (List.mem_of_getElem? (i := 71) rfl)) rfl, List.forall_mem_cons.mpr ⟨tbz_tb (tk1 (List.mem_of_getElem? (i := 73) rfl)) rfl, List.forall_mem_cons.mpr ⟨tbz_tb (tk1 (List.mem_of_getElem? (i := 75) rfl)) rfl, List.forall_mem_cons.mpr ⟨tbz_tb (tk1 (List.mem_of_getElem? (i := 77) rfl)) rfl, List.forall_mem_cons.mpr ⟨tbz_tb (tk1 (List.mem_of_getElem? (i := 79) rfl)) rfl, List.forall_mem_cons.mpr ⟨tbz_tb (tk1 (List.mem_of_getElem? (i := 81) rfl)) rfl, fun _ h => absurd h List.not_mem_nil⟩⟩⟩⟩⟩⟩⟩⟩⟩⟩⟩⟩⟩⟩
theorem cz1 : Cl 1 := ⟨(RX1, TX1, 14), tyX1, rfl, rfl, uw1, tyX1_ok, nmX1, by decide, tbz_tb (tk1 (List.mem_of_getElem? (i := 27) rfl)) rfl, tbz_tb (tk1 (List.mem_of_getElem? (i := 2) rfl)) rfl⟩
theorem uw2 : ∀ w ∈ u_ws RX2 TX2 5, w ∈ tbz := List.forall_mem_cons.mpr ⟨tbz_tb (tk2 (List.mem_of_getElem? (i := 224) rfl)) rfl, List.forall_mem_cons.mpr ⟨tbz_tb (tk2 (List.mem_of_getElem? (i := 226) rfl)) rfl, List.forall_mem_cons.mpr ⟨tbz_tb (tk2 (List.mem_of_getElem? (i := 228) rfl)) rfl, List.forall_mem_cons.mpr ⟨tbz_tb (tk2 (List.mem_of_getElem? (i := 230) rfl)) rfl, List.forall_mem_cons.mpr ⟨tbz_tb (tk2 (List.mem_of_getElem? (i := 232) rfl)) rfl, fun _ h => absurd h List.not_mem_nil⟩⟩⟩⟩⟩
theorem cz2 : Cl 2 := ⟨(RX2, TX2, 5), tyX2, rfl, rfl, uw2, tyX2_ok, nmX2, by decide, tbz_tb (tk2 (List.mem_of_getElem? (i := 200) rfl)) rfl, tbz_tb (tk1 (List.mem_of_getElem? (i := 14) rfl)) rfl⟩
theorem uw3 : ∀ w ∈ u_ws RX3 TX3 5, w ∈ tbz := List.forall_mem_cons.mpr ⟨tbz_tb (tk1 (List.mem_of_getElem? (i := 119) rfl)) rfl, List.forall_mem_cons.mpr ⟨tbz_tb (tk1 (List.mem_of_getElem? (i := 121) rfl)) rfl, List.forall_mem_cons.mpr ⟨tbz_tb (tk1 (List.mem_of_getElem? (i := 123) rfl)) rfl, List.forall_mem_cons.mpr ⟨tbz_tb (tk1 (List.mem_of_getElem? (i := 125) rfl)) rfl, List.forall_mem_cons.mpr ⟨tbz_tb (tk1 (List.mem_of_getElem? (i := 127) rfl)) rfl, fun _ h => absurd h List.not_mem_nil⟩⟩⟩⟩⟩
theorem cz3 : Cl 3 := ⟨(RX3, TX3, 5), tyX3, rfl, rfl, uw3, tyX3_ok, nmX3, by decide, tbz_tb (tk1 (List.mem_of_getElem? (i := 103) rfl)) rfl, tbz_tb (tk1 (List.mem_of_getElem? (i := 4) rfl)) rfl⟩
theorem uw4 : ∀ w ∈ u_ws RX4 TX4 2, w ∈ tbz := List.forall_mem_cons.mpr ⟨tbz_tb (tk1 (List.mem_of_getElem? (i := 97) rfl)) rfl, List.forall_mem_cons.mpr ⟨tbz_tb (tk1 (List.mem_of_getElem? (i := 99) rfl)) rfl, fun _ h => absurd h List.not_mem_nil⟩⟩
theorem cz4 : Cl 4 := ⟨(RX4, TX4, 2), tyX4, rfl, rfl, uw4, tyX4_ok, nmX4, by decide, tbz_tb (tk1 (List.mem_of_getElem? (i := 87) rfl)) rfl, tbz_tb (tk1 (List.mem_of_getElem? (i := 3) rfl)) rfl⟩
theorem uw5 : ∀ w ∈ u_ws RX5 TX5 13, w ∈ tbz := List.forall_mem_cons.mpr ⟨tbz_tb (tk3 (List.mem_of_getElem? (i := 73) rfl)) rfl, List.forall_mem_cons.mpr ⟨tbz_tb (tk3 (List.mem_of_getElem? (i := 75) rfl)) rfl, List.forall_mem_cons.mpr ⟨tbz_tb (tk3 (List.mem_of_getElem? (i := 77) rfl)) rfl, List.forall_mem_cons.mpr ⟨tbz_tb (tk3 (List.mem_of_getElem? (i := 79) rfl)) rfl, List.forall_mem_cons.mpr ⟨tbz_tb (tk3 (List.mem_of_getElem? (i := 81) rfl)) rfl, List.forall_mem_cons.mpr ⟨tbz_tb (tk3 (List.mem_of_getElem? (i := 83) rfl)) rfl, List.forall_mem_cons.mpr ⟨tbz_tb (tk3 (List.mem_of_getElem? (i := 85) rfl)) rfl, List.forall_mem_cons.mpr ⟨tbz_tb (tk3 (List.mem_of_getElem? (i := 87) rfl)) rfl, List.forall_mem_cons.mpr ⟨tbz_tb (tk3 (List.mem_of_getElem? (i := 89) rfl)) rfl, List.forall_mem_cons.mpr ⟨tbz_tb (tk3 (List.mem_of_getElem? (i := 91) rfl)) rfl, List.forall_mem_cons.mpr ⟨tbz_tb (tk3 (List.mem_of_getElem? (i := 93) rfl)) rfl, List.forall_mem_cons.mpr ⟨tbz_tb (tk3 (List.mem_of_getElem? (i := 95) rfl)) rfl, List.forall_mem_cons.mpr ⟨tbz_tb (tk3 (List.mem_of_getElem? (i := 97) rfl)) rfl, fun _ h => absurd h List.not_mem_nil⟩⟩⟩⟩⟩⟩⟩⟩⟩⟩⟩⟩⟩
theorem cz5 : Cl 5 := ⟨(RX5, TX5, 13), tyX5, rfl, rfl, uw5, tyX5_ok, nmX5, by decide, tbz_tb (tk3 (List.mem_of_getElem? (i := 43) rfl)) rfl, tbz_tb (tk1 (List.mem_of_getElem? (i := 15) rfl)) rfl⟩
theorem uw6 : ∀ w ∈ u_ws RX6 TX6 4, w ∈ tbz := List.forall_mem_cons.mpr ⟨tbz_tb (tk1 (List.mem_of_getElem? (i := 226) rfl)) rfl, List.forall_mem_cons.mpr ⟨tbz_tb (tk1 (List.mem_of_getElem? (i := 228) rfl)) rfl, List.forall_mem_cons.mpr ⟨tbz_tb (tk1 (List.mem_of_getElem? (i := 230) rfl)) rfl, List.forall_mem_cons.mpr ⟨tbz_tb (tk1 (List.mem_of_getElem? (i := 232) rfl)) rfl, fun _ h => absurd h List.not_mem_nil⟩⟩⟩⟩
theorem cz6 : Cl 6 := ⟨(RX6, TX6, 4), tyX6, rfl, rfl, uw6, tyX6_ok, nmX6, by decide, tbz_tb (tk1 (List.mem_of_getElem? (i := 215) rfl)) rfl, tbz_tb (tk1 (List.mem_of_getElem? (i := 8) rfl)) rfl⟩
theorem uw7 : ∀ w ∈ u_ws RX7 TX7 3, w ∈ tbz := List.forall_mem_cons.mpr ⟨tbz_tb (tk2 (List.mem_of_getElem? (i := 41) rfl)) rfl, List.forall_mem_cons.mpr ⟨tbz_tb (tk2 (List.mem_of_getElem? (i := 43) rfl)) rfl, List.forall_mem_cons.mpr ⟨tbz_tb (tk2 (List.mem_of_getElem? (i := 45) rfl)) rfl, fun _ h => absurd h List.not_mem_nil⟩⟩⟩
theorem cz7 : Cl 7 := ⟨(RX7, TX7, 3), tyX7, rfl, rfl, uw7, tyX7_ok, nmX7, by decide, tbz_tb (tk2 (List.mem_of_getElem? (i := 32) rfl)) rfl, tbz_tb (tk1 (List.mem_of_getElem? (i := 10) rfl)) rfl⟩
theorem uw8 : ∀ w ∈ u_ws RX8 TX8 5, w ∈ tbz := List.forall_mem_cons.mpr ⟨tbz_tb (tk2 (List.mem_of_getElem? (i := 71) rfl)) rfl, List.forall_mem_cons.mpr ⟨tbz_tb (tk2 (List.mem_of_getElem? (i := 73) rfl)) rfl, List.forall_mem_cons.mpr ⟨tbz_tb (tk2 (List.mem_of_getElem? (i := 75) rfl)) rfl, List.forall_mem_cons.mpr ⟨tbz_tb (tk2 (List.mem_of_getElem? (i := 77) rfl)) rfl, List.forall_mem_cons.mpr ⟨tbz_tb (tk2 (List.mem_of_getElem? (i := 79) rfl)) rfl, fun _ h => absurd h List.not_mem_nil⟩⟩⟩⟩⟩
theorem cz8 : Cl 8 := ⟨(RX8, TX8, 5), tyX8, rfl, rfl, uw8, tyX8_ok, nmX8, by decide, tbz_tb (tk2 (List.mem_of_getElem? (i := 50) rfl)) rfl, tbz_tb (tk1 (List.mem_of_getElem? (i := 11) rfl)) rfl⟩
theorem uw9 : ∀ w ∈ u_ws RX9 TX9 9, w ∈ tbz := List.forall_mem_cons.mpr ⟨tbz_tb (tk2 (List.mem_of_getElem? (i := 12) rfl)) rfl, List.forall_mem_cons.mpr ⟨tbz_tb (tk2 (List.mem_of_getElem? (i := 14) rfl)) rfl, List.forall_mem_cons.mpr ⟨tbz_tb (tk2 (List.mem_of_getElem? (i := 16) rfl)) rfl, List.forall_mem_cons.mpr ⟨tbz_tb (tk2 (List.mem_of_getElem? (i := 18) rfl)) rfl, List.forall_mem_cons.mpr ⟨tbz_tb (tk2 (List.mem_of_getElem? (i := 20) rfl)) rfl, List.forall_mem_cons.mpr ⟨tbz_tb (tk2 (List.mem_of_getElem? (i := 22) rfl)) rfl, List.forall_mem_cons.mpr ⟨tbz_tb (tk2 (List.mem_of_getElem? (i := 24) rfl)) rfl, List.forall_mem_cons.mpr ⟨tbz_tb (tk2 (List.mem_of_getElem? (i := 26) rfl)) rfl, List.forall_mem_cons.mpr ⟨tbz_tb (tk2 (List.mem_of_getElem? (i := 28) rfl)) rfl, fun _ h => absurd h List.not_mem_nil⟩⟩⟩⟩⟩⟩⟩⟩⟩
theorem cz9 : Cl 9 := ⟨(RX9, TX9, 9), tyX9, rfl, rfl, uw9, tyX9_ok, nmX9, by decide, tbz_tb (tk1 (List.mem_of_getElem? (i := 236) rfl)) rfl, tbz_tb (tk1 (List.mem_of_getElem? (i := 9) rfl)) rfl⟩
theorem uw10 : ∀ w ∈ u_ws RX10 TX10 7, w ∈ tbz := List.forall_mem_cons.mpr ⟨tbz_tb (tk1 (List.mem_of_getElem? (i := 143) rfl)) rfl, List.forall_mem_cons.mpr ⟨tbz_tb (tk1 (List.mem_of_getElem? (i := 145) rfl)) rfl, List.forall_mem_cons.mpr ⟨tbz_tb (tk1 (List.mem_of_getElem? (i := 147) rfl)) rfl, List.forall_mem_cons.mpr ⟨tbz_tb (tk1 (List.mem_of_getElem? (i := 149) rfl)) rfl, List.forall_mem_cons.mpr ⟨tbz_tb (tk1 (List.mem_of_getElem? (i := 151) rfl)) rfl, List.forall_mem_cons.mpr ⟨tbz_tb (tk1 (List.mem_of_getElem? (i := 153) rfl)) rfl, List.forall_mem_cons.mpr ⟨tbz_tb (tk1 (List.mem_of_getElem? (i := 155) rfl)) rfl, fun _ h => absurd h List.not_mem_nil⟩⟩⟩⟩⟩⟩⟩
theorem cz10 : Cl 10 := ⟨(RX10, TX10, 7), tyX10, rfl, rfl, uw10, tyX10_ok, nmX10, by decide, tbz_tb (tk1 (List.mem_of_getElem? (i := 131) rfl)) rfl, tbz_tb (tk1 (List.mem_of_getElem? (i := 6) rfl)) rfl⟩
theorem uw11 : ∀ w ∈ u_ws RX11 TX11 15, w ∈ tbz := List.forall_mem_cons.mpr ⟨tbz_tb (tk2 (List.mem_of_getElem? (i := 97) rfl)) rfl, List.forall_mem_cons.mpr ⟨tbz_tb (tk2 (List.mem_of_getElem? (i := 99) rfl)) rfl, List.forall_mem_cons.mpr ⟨tbz_tb (tk2 (List.mem_of_getElem? (i := 101) rfl)) rfl, List.forall_mem_cons.mpr ⟨tbz_tb (tk2 (List.mem_of_getElem? (i := 103) rfl)) rfl, List.forall_mem_cons.mpr ⟨tbz_tb (tk2 (List.mem_of_getElem? (i := 105) rfl)) rfl, List.forall_mem_cons.mpr ⟨tbz_tb (tk2 (List.mem_of_getElem? (i := 107) rfl)) rfl, List.forall_mem_cons.mpr ⟨tbz_tb (tk2 (List.mem_of_getElem? (i := 109) rfl)) rfl, List.forall_mem_cons.mpr ⟨tbz_tb (tk2 (List.mem_of_getElem? (i := 111) rfl)) rfl, List.forall_mem_cons.mpr ⟨tbz_tb (tk2 (List.mem_of_getElem? (i := 113) rfl)) rfl, List.forall_mem_cons.mpr ⟨tbz_tb (tk2 (List.mem_of_getElem? (i := 115) rfl)) rfl, List.forall_mem_cons.mpr ⟨tbz_tb (tk2 (List.mem_of_getElem? (i := 117) rfl)) rfl, List.forall_mem_cons.mpr ⟨tbz_tb (tk2 (List.mem_of_getElem? (i := 119) rfl)) rfl, List.forall_mem_cons.mpr ⟨tbz_tb (tk2 (List.mem_of_getElem? (i := 121) rfl)) rfl, List.forall_mem_cons.mpr ⟨tbz_tb (tk2 (List.mem_of_getElem? (i := 123) rfl)) rfl, List.forall_mem_cons.mpr ⟨tbz_tb (tk2 (List.mem_of_getElem? (i := 125) rfl)) rfl, fun _ h => absurd h List.not_mem_nil⟩⟩⟩⟩⟩⟩⟩⟩⟩⟩⟩⟩⟩⟩⟩
theorem cz11 : Cl 11 := ⟨(RX11, TX11, 15), tyX11, rfl, rfl, uw11, tyX11_ok, nmX11, by decide, tbz_tb (tk1 (List.mem_of_getElem? (i := 19) rfl)) rfl, tbz_tb (tk1 (List.mem_of_getElem? (i := 1) rfl)) rfl⟩
theorem uw12 : ∀ w ∈ u_ws RX12 TX12 79, w ∈ tbz := List.forall_mem_cons.mpr ⟨tbz_tb (tk5 (List.mem_of_getElem? (i := 236) rfl)) rfl, List.forall_mem_cons.mpr ⟨tbz_tb (tk5 (List.mem_of_getElem? (i := 238) rfl)) rfl, List.forall_mem_cons.mpr ⟨tbz_tb (tk6 (List.mem_of_getElem? (i := 0) rfl)) rfl, List.forall_mem_cons.mpr ⟨tbz_tb (tk6 (List.mem_of_getElem? (i := 2) rfl)) rfl, List.forall_mem_cons.mpr ⟨tbz_tb (tk6 (List.mem_of_getElem? (i := 4) rfl)) rfl, List.forall_mem_cons.mpr ⟨tbz_tb (tk6 (List.mem_of_getElem? (i := 6) rfl)) rfl, List.forall_mem_cons.mpr ⟨tbz_tb (tk6 (List.mem_of_getElem? (i := 8) rfl)) rfl, List.forall_mem_cons.mpr ⟨tbz_tb (tk6 (List.mem_of_getElem? (i := 10) rfl)) rfl, List.forall_mem_cons.mpr ⟨tbz_tb (tk6 (List.mem_of_getElem? (i := 12) rfl)) rfl, List.forall_mem_cons.mpr ⟨tbz_tb (tk6 (List.mem_of_getElem? (i := 14) rfl)) rfl, List.forall_mem_cons.mpr ⟨tbz_tb (tk6 (List.mem_of_getElem? (i := 16) rfl)) rfl, List.forall_mem_cons.mpr ⟨tbz_tb (tk6 (List.mem_of_getElem? (i := 18) rfl)) rfl, List.forall_mem_cons.mpr ⟨tbz_tb (tk6 (List.mem_of_getElem? (i := 20) rfl)) rfl, List.forall_mem_cons.mpr ⟨tbz_tb (tk6 (List.mem_of_getElem? (i := 22) rfl)) rfl, List.forall_mem_cons.mpr ⟨tbz_tb (tk6 (List.mem_of_getElem? (i := 24) rfl)) rfl, List.forall_mem_cons.mpr ⟨tbz_tb (tk6 (List.mem_of_getElem? (i := 26) rfl)) rfl, List.forall_mem_cons.mpr ⟨tbz_tb (tk6 (List.mem_of_getElem? (i := 28) rfl)) rfl, List.forall_mem_cons.mpr ⟨tbz_tb (tk6 (List.mem_of_getElem? (i := 30) rfl)) rfl, List.forall_mem_cons.mpr ⟨tbz_tb (tk6 (List.mem_of_getElem? (i := 32) rfl)) rfl, List.forall_mem_cons.mpr ⟨tbz_tb (tk6 (List.mem_of_getElem? (i := 34) rfl)) rfl, List.forall_mem_cons.mpr ⟨tbz_tb (tk6 (List.mem_of_getElem? (i := 36) rfl)) rfl, List.forall_mem_cons.mpr ⟨tbz_tb (tk6 (List.mem_of_getElem? (i := 38) rfl)) rfl, List.forall_mem_cons.mpr ⟨tbz_tb (tk6 (List.mem_of_getElem? (i := 40) rfl)) rfl, List.forall_mem_cons.mpr ⟨tbz_tb (tk6 (List.mem_of_getElem? (i := 42) rfl)) rfl, List.forall_mem_cons.mpr ⟨tbz_tb (tk6 (List.mem_of_getElem? (i := 44) rfl)) rfl, List.forall_mem_cons.mpr ⟨tbz_tb (tk6 (List.mem_of_getElem? (i := 46) rfl)) rfl, List.forall_mem_cons.mpr ⟨tbz_tb (tk6 (List.mem_of_getElem? (i := 48) rfl)) rfl, List.forall_mem_cons.mpr ⟨tbz_tb (tk6 (List.mem_of_getElem? (i := 50) rfl)) rfl, List.forall_mem_cons.mpr ⟨tbz_tb (tk6 (List.mem_of_getElem? (i := 52) rfl)) rfl, List.forall_mem_cons.mpr ⟨tbz_tb (tk6 (List.mem_of_getElem? (i := 54) rfl)) rfl, List.forall_mem_cons.mpr ⟨tbz_tb (tk6 (List.mem_of_getElem? (i := 56) rfl)) rfl, List.forall_mem_cons.mpr ⟨tbz_tb (tk6 (List.mem_of_getElem? (i := 58) rfl)) rfl, List.forall_mem_cons.mpr ⟨tbz_tb (tk6 (List.mem_of_getElem? (i := 60) rfl)) rfl, List.forall_mem_cons.mpr ⟨tbz_tb (tk6 (List.mem_of_getElem? (i := 62) rfl)) rfl, List.forall_mem_cons.mpr ⟨tbz_tb (tk6 (List.mem_of_getElem? (i := 64) rfl)) rfl, List.forall_mem_cons.mpr ⟨tbz_tb (tk6 (List.mem_of_getElem? (i := 66) rfl)) rfl, List.forall_mem_cons.mpr ⟨tbz_tb (tk6 (List.mem_of_getElem? (i := 68) rfl)) rfl, List.forall_mem_cons.mpr ⟨tbz_tb (tk6 (List.mem_of_getElem? (i := 70) rfl)) rfl, List.forall_mem_cons.mpr ⟨tbz_tb (tk6 (List.mem_of_getElem? (i := 72) rfl)) rfl, List.forall_mem_cons.mpr ⟨tbz_tb (tk6 (List.mem_of_getElem? (i := 74) rfl)) rfl, List.forall_mem_cons.mpr ⟨tbz_tb (tk6 (List.mem_of_getElem? (i := 76) rfl)) rfl, List.forall_mem_cons.mpr ⟨tbz_tb (tk6 (List.mem_of_getElem? (i := 78) rfl)) rfl, List.forall_mem_cons.mpr ⟨tbz_tb (tk6 (List.mem_of_getElem? (i := 80) rfl)) rfl, List.forall_mem_cons.mpr ⟨tbz_tb (tk6 (List.mem_of_getElem? (i := 82) rfl)) rfl, List.forall_mem_cons.mpr ⟨tbz_tb (tk6 (List.mem_of_getElem? (i := 84) rfl)) rfl, List.forall_mem_cons.mpr ⟨tbz_tb (tk6 (List.mem_of_getElem? (i := 86) rfl)) rfl, List.forall_mem_cons.mpr ⟨tbz_tb (tk6 (List.mem_of_getElem? (i := 88) rfl)) rfl, List.forall_mem_cons.mpr ⟨tbz_tb (tk6 (List.mem_of_getElem? (i := 90) rfl)) rfl, List.forall_mem_cons.mpr ⟨tbz_tb (tk6 (List.mem_of_getElem? (i := 92) rfl)) rfl, List.forall_mem_cons.mpr ⟨tbz_tb (tk6 (List.mem_of_getElem? (i := 94) rfl)) rfl, List.forall_mem_cons.mpr ⟨tbz_tb (tk6 (List.mem_of_getElem? (i := 96) rfl)) rfl, List.forall_mem_cons.mpr ⟨tbz_tb (tk6 (List.mem_of_getElem? (i := 98) rfl)) rfl, List.forall_mem_cons.mpr ⟨tbz_tb (tk6 (List.mem_of_getElem? (i := 100) rfl)) rfl, List.forall_mem_cons.mpr ⟨tbz_tb (tk6 (List.mem_of_getElem? (i := 102) rfl)) rfl, List.forall_mem_cons.mpr ⟨tbz_tb (tk6 (List.mem_of_getElem? (i := 104) rfl)) rfl, List.forall_mem_cons.mpr ⟨tbz_tb (tk6 (List.mem_of_getElem? (i := 106) rfl)) rfl, List.forall_mem_cons.mpr ⟨tbz_tb (tk6 (List.mem_of_getElem? (i := 108) rfl)) rfl, List.forall_mem_cons.mpr ⟨tbz_tb (tk6 (List.mem_of_getElem? (i := 110) rfl)) rfl, List.forall_mem_cons.mpr ⟨tbz_tb (tk6 (List.mem_of_getElem? (i := 112) rfl)) rfl, List.forall_mem_cons.mpr ⟨tbz_tb (tk6 (List.mem_of_getElem? (i := 114) rfl)) rfl, List.forall_mem_cons.mpr ⟨tbz_tb (tk6 (List.mem_of_getElem? (i := 116) rfl)) rfl, List.forall_mem_cons.mpr ⟨tbz_tb (tk6 (List.mem_of_getElem? (i := 118) rfl)) rfl, List.forall_mem_cons.mpr ⟨tbz_tb (tk6 (List.mem_of_getElem? (i := 120) rfl)) rfl, List.forall_mem_cons.mpr ⟨tbz_tb (tk6 (List.mem_of_getElem? (i := 122) rfl)) rfl, List.forall_mem_cons.mpr ⟨tbz_tb (tk6 (List.mem_of_getElem? (i := 124) rfl)) rfl, List.forall_mem_cons.mpr ⟨tbz_tb (tk6 (List.mem_of_getElem? (i := 126) rfl)) rfl, List.forall_mem_cons.mpr ⟨tbz_tb (tk6 (List.mem_of_getElem? (i := 128) rfl)) rfl, List.forall_mem_cons.mpr ⟨tbz_tb (tk6 (List.mem_of_getElem? (i := 130) rfl)) rfl, List.forall_mem_cons.mpr ⟨tbz_tb (tk6 (List.mem_of_getElem? (i := 132) rfl)) rfl, List.forall_mem_cons.mpr ⟨tbz_tb (tk6 (List.mem_of_getElem? (i := 134) rfl)) rfl, List.forall_mem_cons.mpr ⟨tbz_tb (tk6 (List.mem_of_getElem? (i := 136) rfl)) rfl, List.forall_mem_cons.mpr ⟨tbz_tb (tk6 (List.mem_of_getElem? (i := 138) rfl)) rfl, List.forall_mem_cons.mpr ⟨tbz_tb (tk6 (List.mem_of_getElem? (i := 140) rfl)) rfl, List.forall_mem_cons.mpr ⟨tbz_tb (tk6 (List.mem_of_getElem? (i := 142) rfl)) rfl, List.forall_mem_cons.mpr ⟨tbz_tb (tk6 (List.mem_of_getElem? (i := 144) rfl)) rfl, List.forall_mem_cons.mpr ⟨tbz_tb (tk6 (List.mem_of_getElem? (i := 146) rfl)) rfl, List.forall_mem_cons.mpr ⟨tbz_tb (tk6 (List.mem_of_getElem? (i := 148) rfl)) rfl, List.forall_mem_cons.mpr ⟨tbz_tb (tk6 (List.mem_of_getElem? (i := 150) rfl)) rfl, List.forall_mem_cons.mpr ⟨tbz_tb (tk6 (List.mem_of_getElem? (i := 152) rfl)) rfl, fun _ h => absurd h List.not_mem_nil⟩⟩⟩⟩⟩⟩⟩⟩⟩⟩⟩⟩⟩⟩⟩⟩⟩⟩⟩⟩⟩⟩⟩⟩⟩⟩⟩⟩⟩⟩⟩⟩⟩⟩⟩⟩⟩⟩⟩⟩⟩⟩⟩⟩⟩⟩⟩⟩⟩⟩⟩⟩⟩⟩⟩⟩⟩⟩⟩⟩⟩⟩⟩⟩⟩⟩⟩⟩⟩⟩⟩⟩⟩⟩⟩⟩⟩⟩⟩
theorem cz12 : Cl 12 := ⟨(RX12, TX12, 79), tyX12, rfl, rfl, uw12, tyX12_ok, nmX12, by decide, tbz_tb (tk5 (List.mem_of_getElem? (i := 152) rfl)) rfl, tbz_tb (tk1 (List.mem_of_getElem? (i := 12) rfl)) rfl⟩
