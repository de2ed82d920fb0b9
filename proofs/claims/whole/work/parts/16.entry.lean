/-! ===== the law's entry: classes, arrays, String constants ===== -/
theorem tbl_in {w : Cond} (h : w ∈ tables_1) : w ∈ lw_tbl := by unfold lw_tbl; exact List.mem_append_right _ h
theorem TBG_sub {w : Cond} (h : w ∈ TBG) : w ∈ lw_tbl := (List.mem_filter.mp h).1
def tmL : List Term := [.string "DustParish$Tokens" 55, .string "DustParish$Reader" 80, .string "DustParish$Reader" 90, .string "DustParish$Reader" 92, .string "DustParish$Reader" 94, .string "DustParish$Reader" 99, .string "DustParish$Reader" 104, .string "DustParish$Reader" 109, .string "DustParish$Reader" 114, .string "DustParish$Reader" 119, .string "DustParish$Reader" 124, .string "DustParish$RuleReader" 73, .string "DustParish$RuleReader" 93, .string "DustParish$RuleReader" 95, .string "DustParish$RuleReader" 97, .string "DustParish$RuleReader" 99, .string "DustParish$RuleReader" 101, .string "DustParish$RuleReader" 103, .string "DustParish$RuleReader" 123, .string "DustParish$RuleReader" 125]
def tmS (i : Nat) : Term := tmL.getD i (.int 0)
abbrev FW : List Cond := flatC (Jvm.Cond.and given_1 narrow_1)
theorem fw_ex : ∀ i : Nat, i < 20 → Cond.exactly (tmS i) "java/lang/String" ∈ FW := by decide +kernel
theorem fw_co : ∀ i : Nat, i < 20 → Cond.eq (.field (tmS i) "java/lang/String" "coder" "B") (.int 0) ∈ FW := by decide +kernel
theorem fw_ar : ∀ i : Nat, i < 20 → Cond.arrayOf (.field (tmS i) "java/lang/String" "value" "[B") .byte ∈ FW := by decide +kernel
theorem fw_le : ∀ i : Nat, i < 20 → Cond.eq (.length (.field (tmS i) "java/lang/String" "value" "[B")) (.int (Int32.ofNat (SL.getD i 0))) ∈ FW := by decide +kernel
theorem fw_el : ∀ i : Nat, i < 20 → ∀ j : Nat, j < SL.getD i 0 → Cond.eq (.elem (.field (tmS i) "java/lang/String" "value" "[B") (.int (Int32.ofNat j))) (.int ((SB.getD i []).getD j 0)) ∈ FW := by decide +kernel
theorem sl_lt : ∀ i : Nat, i < 20 → SL.getD i 0 < 2 ^ 31 := by decide +kernel
def sbT (i j : Nat) : Bool := (List.range 9).all fun k => !(Nat.blt k (SL.getD i 0)) || (!(Nat.blt k (SL.getD j 0)) || ((SB.getD i []).getD k 0 == (SB.getD j []).getD k 0))
theorem sb_ne0 : ∀ i : Nat, i < 20 → ∀ j : Nat, j < 20 → (i == j || !(Int32.ofNat (SL.getD i 0) == Int32.ofNat (SL.getD j 0)) || !(sbT i j)) = true := by decide +kernel
theorem sb_ne (i : Nat) (hi : i < 20) (j : Nat) (hj : j < 20) (h1 : Int32.ofNat (SL.getD i 0) = Int32.ofNat (SL.getD j 0)) (h2 : ∀ k : Nat, k < 9 → k < SL.getD i 0 → k < SL.getD j 0 → (SB.getD i []).getD k 0 = (SB.getD j []).getD k 0) : i = j := by
  have h9 := sb_ne0 i hi j hj
  have h8 : sbT i j = true := by
    unfold sbT
    rw [List.all_eq_true]
    intro k hk
    have hk := List.mem_range.mp hk
    by_cases a : k < SL.getD i 0
    · by_cases b : k < SL.getD j 0
      · rw [h2 k hk a b]; simp
      · have e : Nat.blt k (SL.getD j 0) = false := by rw [Bool.eq_false_iff]; intro q; exact b (Nat.blt_eq.mp q)
        rw [e]; simp
    · have e : Nat.blt k (SL.getD i 0) = false := by rw [Bool.eq_false_iff]; intro q; exact a (Nat.blt_eq.mp q)
      rw [e]; simp
  rw [h8, h1] at h9
  simpa using h9
theorem sl_9 : ∀ i : Nat, i < 20 → SL.getD i 0 ≤ 9 := by decide +kernel
theorem str_one {args : Array Value} {s : State} {A : Nat → Prop} (hs : ∀ w ∈ FW, w.before args s = true) (hA : ∀ a : Nat, a < s.heap.size → ¬ A a) {i : Nat} (hi : i < 20) :
    ∃ q : Nat × Nat, (tmS i).eval args s none [] s = some (.ref q.1) ∧ va_O "java/lang/String" q.1 A s s.heap ∧ va_OF "java/lang/String" "coder" "B" (.int 0) q.1 A s s.heap ∧ va_OF "java/lang/String" "value" "[B" (.ref q.2) q.1 A s s.heap ∧ va_T .byte q.2 (SL.getD i 0) (fun j => .int ((SB.getD i []).getD j 0)) A s s.heap := by
  obtain ⟨a, c, cA, kA, q1, q2, q3, q4, q5, q6, -⟩ := Cond.exactly_spec (args := args) (first := s) (o := none) (s := s) (idx := []) (t := tmS i) (cls := "java/lang/String") (hs _ (fw_ex i hi))
  obtain ⟨t, ht, hT⟩ := va_Tof (f := fun j => .int ((SB.getD i []).getD j 0)) (A := A) (sl_lt i hi) (hs _ (fw_ar i hi)) (va_eqt (hs _ (fw_le i hi))) (fun j hj => va_eqt (hs _ (fw_el i hi j hj))) hA
  exact ⟨(a, t), q1, ⟨cA, q3, q5, by rw [q6]; exact q2, hA a (Array.getElem?_eq_some_iff.mp q3).1⟩, vk_OFof q1 (va_eqt (hs _ (fw_co i hi))) hA, vk_OFof q1 ht hA, hT⟩
theorem strs {args : Array Value} {s : State} {A : Nat → Prop} (hs : ∀ w ∈ FW, w.before args s = true) (hA : ∀ a : Nat, a < s.heap.size → ¬ A a) :
    ∃ adK adV : Nat → Nat, vk_S SN SL SB adK adV A s s.heap ∧ ∀ i : Nat, i < 20 → (tmS i).eval args s none [] s = some (.ref (adK i)) := by
  have h0 : ∀ i : Nat, ∃ q : Nat × Nat, i < 20 → (tmS i).eval args s none [] s = some (.ref q.1) ∧ va_O "java/lang/String" q.1 A s s.heap ∧ va_OF "java/lang/String" "coder" "B" (.int 0) q.1 A s s.heap ∧ va_OF "java/lang/String" "value" "[B" (.ref q.2) q.1 A s s.heap ∧ va_T .byte q.2 (SL.getD i 0) (fun j => .int ((SB.getD i []).getD j 0)) A s s.heap := by
    intro i
    by_cases hi : i < 20
    · obtain ⟨q, hq⟩ := str_one hs hA hi
      exact ⟨q, fun _ => hq⟩
    · exact ⟨(0, 0), fun h => absurd h hi⟩
  obtain ⟨ad, had⟩ := Classical.axiomOfChoice h0
  refine ⟨fun i => (ad i).1, fun i => (ad i).2, ⟨fun i hi => (had i hi).2, fun i j hi hj e => ?_⟩, fun i hi => (had i hi).1⟩
  obtain ⟨-, -, -, ⟨cf, k, n, f, cell, a1, a2, a3, a4, a5, a6⟩, ⟨ce, b1, b2, b3, b4, b5, b6, b7⟩⟩ := had i hi
  obtain ⟨-, -, -, ⟨cf', k', n', f', cell', c1, c2, c3, c4, c5, c6⟩, ⟨ce', d1, d2, d3, d4, d5, d6, d7⟩⟩ := had j hj
  have e : (ad i).1 = (ad j).1 := e
  have ef : (cf, k, n, f) = (cf', k', n', f') := Option.some.inj (a1.symm.trans c1)
  have ef4 : f = f' := congrArg (fun q => q.2.2.2) ef
  have ec : cell = cell' := Option.some.inj (a3.symm.trans ((congrArg (fun q => s.heap[q]?) e).trans c3))
  subst ef4; subst ec
  have ev : (ad i).2 = (ad j).2 := by
    have h9 := Option.some.inj (a5.symm.trans c5)
    injection h9
  have ece : ce = ce' := Option.some.inj (b1.symm.trans ((congrArg (fun q => s.heap[q]?) ev).trans d1))
  subst ece
  refine sb_ne i hi j hj (b5.symm.trans d5) (fun q _ h1 h2 => ?_)
  have h9 := Option.some.inj ((b6 q h1).symm.trans (d6 q h2))
  injection h9
theorem eqR {args : Array Value} {s : State} {t u : Term} {a : Nat} (h : (Cond.eq t u).before args s = true) (ht : t.eval args s none [] s = some (.ref a)) : u.eval args s none [] s = some (.ref a) := by
  have hv : (Cond.eq t u).holds args s none s [] = true := h
  simp only [Cond.holds, Cond.value, ht] at hv
  cases hu : u.eval args s none [] s with
  | none => simp [hu] at hv
  | some v =>
    simp [hu] at hv
    first
      | exact congrArg some hv.symm
      | (cases v <;> simp_all)
theorem sk_all {args : Array Value} {s : State} {adK : Nat → Nat} (hts : ∀ w ∈ lw_tbl, w.before args s = true) (hs : ∀ w ∈ FW, w.before args s = true) (he : ∀ i : Nat, i < 20 → (tmS i).eval args s none [] s = some (.ref (adK i))) : ∀ q ∈ SK, vk_R q.1 q.2.1 q.2.2.1 (adK q.2.2.2) s := by
  intro q hq
  simp only [SK, List.mem_cons, List.not_mem_nil, or_false] at hq
  rcases hq with rfl | rfl | rfl | rfl | rfl | rfl | rfl | rfl | rfl | rfl | rfl | rfl | rfl | rfl | rfl | rfl | rfl | rfl | rfl | rfl | rfl | rfl | rfl | rfl | rfl | rfl | rfl | rfl | rfl | rfl | rfl | rfl | rfl | rfl | rfl | rfl | rfl | rfl | rfl
  · exact vk_R.of (hts _ (tbl_in (tk3 (List.mem_of_getElem? (i := 176) rfl)))) (he 0 (by decide))
  · exact vk_R.of (hts _ (tbl_in (tk4 (List.mem_of_getElem? (i := 23) rfl)))) (he 1 (by decide))
  · exact vk_R.of (hts _ (tbl_in (tk4 (List.mem_of_getElem? (i := 62) rfl)))) (he 2 (by decide))
  · exact vk_R.of (hts _ (tbl_in (tk4 (List.mem_of_getElem? (i := 63) rfl)))) (he 3 (by decide))
  · exact vk_R.of (hts _ (tbl_in (tk4 (List.mem_of_getElem? (i := 64) rfl)))) (he 4 (by decide))
  · exact vk_R.of (hts _ (tbl_in (tk4 (List.mem_of_getElem? (i := 89) rfl)))) (he 5 (by decide))
  · exact vk_R.of (hts _ (tbl_in (tk4 (List.mem_of_getElem? (i := 94) rfl)))) (he 6 (by decide))
  · exact vk_R.of (hts _ (tbl_in (tk4 (List.mem_of_getElem? (i := 99) rfl)))) (he 7 (by decide))
  · exact vk_R.of (hts _ (tbl_in (tk4 (List.mem_of_getElem? (i := 104) rfl)))) (he 8 (by decide))
  · exact vk_R.of (hts _ (tbl_in (tk4 (List.mem_of_getElem? (i := 109) rfl)))) (he 9 (by decide))
  · exact vk_R.of (hts _ (tbl_in (tk4 (List.mem_of_getElem? (i := 114) rfl)))) (he 10 (by decide))
  · exact vk_R.of (hts _ (tbl_in (tk4 (List.mem_of_getElem? (i := 150) rfl)))) (he 11 (by decide))
  · exact vk_R.of (hts _ (tbl_in (tk4 (List.mem_of_getElem? (i := 156) rfl)))) (he 12 (by decide))
  · exact vk_R.of (hts _ (tbl_in (tk4 (List.mem_of_getElem? (i := 157) rfl)))) (he 13 (by decide))
  · exact vk_R.of (hts _ (tbl_in (tk4 (List.mem_of_getElem? (i := 158) rfl)))) (he 14 (by decide))
  · exact vk_R.of (hts _ (tbl_in (tk4 (List.mem_of_getElem? (i := 159) rfl)))) (he 15 (by decide))
  · exact vk_R.of (hts _ (tbl_in (tk4 (List.mem_of_getElem? (i := 160) rfl)))) (he 16 (by decide))
  · exact vk_R.of (hts _ (tbl_in (tk4 (List.mem_of_getElem? (i := 161) rfl)))) (he 17 (by decide))
  · exact vk_R.of (hts _ (tbl_in (tk4 (List.mem_of_getElem? (i := 175) rfl)))) (he 18 (by decide))
  · exact vk_R.of (hts _ (tbl_in (tk4 (List.mem_of_getElem? (i := 176) rfl)))) (he 19 (by decide))
  · exact vk_R.of (hts _ (tbl_in (tk6 (List.mem_of_getElem? (i := 60) rfl)))) (eqR (hs (Cond.eq (.string "DustParish$Reader" 80) (.string "DustParishModel" 11)) (by decide +kernel)) (he 1 (by decide)))
  · exact vk_R.of (hts _ (tbl_in (tk6 (List.mem_of_getElem? (i := 61) rfl)))) (eqR (hs (Cond.eq (.string "DustParish$Reader" 90) (.string "DustParishModel" 13)) (by decide +kernel)) (he 2 (by decide)))
  · exact vk_R.of (hts _ (tbl_in (tk6 (List.mem_of_getElem? (i := 62) rfl)))) (eqR (hs (Cond.eq (.string "DustParish$Reader" 92) (.string "DustParishModel" 15)) (by decide +kernel)) (he 3 (by decide)))
  · exact vk_R.of (hts _ (tbl_in (tk6 (List.mem_of_getElem? (i := 63) rfl)))) (eqR (hs (Cond.eq (.string "DustParish$RuleReader" 93) (.string "DustParishModel" 21)) (by decide +kernel)) (he 12 (by decide)))
  · exact vk_R.of (hts _ (tbl_in (tk6 (List.mem_of_getElem? (i := 64) rfl)))) (eqR (hs (Cond.eq (.string "DustParish$RuleReader" 95) (.string "DustParishModel" 23)) (by decide +kernel)) (he 13 (by decide)))
  · exact vk_R.of (hts _ (tbl_in (tk6 (List.mem_of_getElem? (i := 65) rfl)))) (eqR (hs (Cond.eq (.string "DustParish$RuleReader" 97) (.string "DustParishModel" 25)) (by decide +kernel)) (he 14 (by decide)))
  · exact vk_R.of (hts _ (tbl_in (tk6 (List.mem_of_getElem? (i := 66) rfl)))) (eqR (hs (Cond.eq (.string "DustParish$RuleReader" 99) (.string "DustParishModel" 27)) (by decide +kernel)) (he 15 (by decide)))
  · exact vk_R.of (hts _ (tbl_in (tk6 (List.mem_of_getElem? (i := 67) rfl)))) (eqR (hs (Cond.eq (.string "DustParish$RuleReader" 101) (.string "DustParishModel" 29)) (by decide +kernel)) (he 16 (by decide)))
  · exact vk_R.of (hts _ (tbl_in (tk6 (List.mem_of_getElem? (i := 68) rfl)))) (eqR (hs (Cond.eq (.string "DustParish$RuleReader" 103) (.string "DustParishModel" 31)) (by decide +kernel)) (he 17 (by decide)))
  · exact vk_R.of (hts _ (tbl_in (tk7 (List.mem_of_getElem? (i := 58) rfl)))) (eqR (hs (Cond.eq (.string "DustParish$Reader" 109) (.string "DustParishModel" 292)) (by decide +kernel)) (he 7 (by decide)))
  · exact vk_R.of (hts _ (tbl_in (tk7 (List.mem_of_getElem? (i := 65) rfl)))) (eqR (hs (Cond.eq (.string "DustParish$Reader" 114) (.string "DustParishModel" 293)) (by decide +kernel)) (he 8 (by decide)))
  · exact vk_R.of (hts _ (tbl_in (tk7 (List.mem_of_getElem? (i := 66) rfl)))) (eqR (hs (Cond.eq (.string "DustParish$Reader" 119) (.string "DustParishModel" 295)) (by decide +kernel)) (he 9 (by decide)))
  · exact vk_R.of (hts _ (tbl_in (tk7 (List.mem_of_getElem? (i := 67) rfl)))) (eqR (hs (Cond.eq (.string "DustParish$Reader" 124) (.string "DustParishModel" 297)) (by decide +kernel)) (he 10 (by decide)))
  · exact vk_R.of (hts _ (tbl_in (tk7 (List.mem_of_getElem? (i := 104) rfl)))) (eqR (hs (Cond.eq (.string "DustParish$RuleReader" 73) (.string "DustParishModel" 264)) (by decide +kernel)) (he 11 (by decide)))
  · exact vk_R.of (hts _ (tbl_in (tk7 (List.mem_of_getElem? (i := 125) rfl)))) (eqR (hs (Cond.eq (.string "DustParish$RuleReader" 123) (.string "DustParishModel" 272)) (by decide +kernel)) (he 18 (by decide)))
  · exact vk_R.of (hts _ (tbl_in (tk7 (List.mem_of_getElem? (i := 126) rfl)))) (eqR (hs (Cond.eq (.string "DustParish$RuleReader" 125) (.string "DustParishModel" 277)) (by decide +kernel)) (he 19 (by decide)))
  · exact vk_R.of (hts _ (tbl_in (tk7 (List.mem_of_getElem? (i := 135) rfl)))) (eqR (hs (Cond.eq (.string "DustParish$Reader" 94) (.string "DustParishModel" 305)) (by decide +kernel)) (he 4 (by decide)))
  · exact vk_R.of (hts _ (tbl_in (tk7 (List.mem_of_getElem? (i := 152) rfl)))) (eqR (hs (Cond.eq (.string "DustParish$Reader" 99) (.string "DustParishModel" 310)) (by decide +kernel)) (he 5 (by decide)))
  · exact vk_R.of (hts _ (tbl_in (tk7 (List.mem_of_getElem? (i := 157) rfl)))) (eqR (hs (Cond.eq (.string "DustParish$Reader" 104) (.string "DustParishModel" 315)) (by decide +kernel)) (he 6 (by decide)))
theorem cls_all {args : Array Value} {s : State} (hts : ∀ w ∈ lw_tbl, w.before args s = true) : ∀ c : Nat, ∃ q : ClassId × (Nat → Nat), ∀ r : vw_C, vwCl[c]? = some r → u_Kn s r.1 r.2.1 r.2.2 q.1 q.2 := by
  have hg : ∀ w ∈ TBG, w.before args s = true := fun w hw => hts w (TBG_sub hw)
  intro c
  match c with
  | 0 =>
    obtain ⟨cC, iS, h⟩ := u_known (C := RX0) (T := TX0) (N := 3) (n := 3) hg lyw_0 (hg (.instantiable RX0 3) tw_308)
    exact ⟨(cC, iS), fun r hr => by cases hr; exact h⟩
  | 1 =>
    obtain ⟨cC, iS, h⟩ := u_known (C := RX2) (T := TX2) (N := 20) (n := 20) hg lyw_1 (hg (.instantiable RX2 20) tw_35)
    exact ⟨(cC, iS), fun r hr => by cases hr; exact h⟩
  | 2 =>
    obtain ⟨cC, iS, h⟩ := u_known (C := RX3) (T := TX3) (N := 4) (n := 4) hg lyw_2 (hg (.instantiable RX3 4) tw_265)
    exact ⟨(cC, iS), fun r hr => by cases hr; exact h⟩
  | 3 =>
    obtain ⟨cC, iS, h⟩ := u_known (C := RX4) (T := TX4) (N := 8) (n := 8) hg lyw_3 (hg (.instantiable RX4 8) tw_168)
    exact ⟨(cC, iS), fun r hr => by cases hr; exact h⟩
  | 4 =>
    obtain ⟨cC, iS, h⟩ := u_known (C := RX5) (T := TX5) (N := 4) (n := 4) hg lyw_4 (hg (.instantiable RX5 4) tw_41)
    exact ⟨(cC, iS), fun r hr => by cases hr; exact h⟩
  | 5 =>
    obtain ⟨cC, iS, h⟩ := u_known (C := RX6) (T := TX6) (N := 8) (n := 8) hg lyw_5 (hg (.instantiable RX6 8) tw_209)
    exact ⟨(cC, iS), fun r hr => by cases hr; exact h⟩
  | 6 =>
    obtain ⟨cC, iS, h⟩ := u_known (C := RX7) (T := TX7) (N := 4) (n := 4) hg lyw_6 (hg (.instantiable RX7 4) tw_329)
    exact ⟨(cC, iS), fun r hr => by cases hr; exact h⟩
  | 7 =>
    obtain ⟨cC, iS, h⟩ := u_known (C := RX8) (T := TX8) (N := 6) (n := 6) hg lyw_7 (hg (.instantiable RX8 6) tw_271)
    exact ⟨(cC, iS), fun r hr => by cases hr; exact h⟩
  | 8 =>
    obtain ⟨cC, iS, h⟩ := u_known (C := RX9) (T := TX9) (N := 7) (n := 7) hg lyw_8 (hg (.instantiable RX9 7) tw_174)
    exact ⟨(cC, iS), fun r hr => by cases hr; exact h⟩
  | 9 =>
    obtain ⟨cC, iS, h⟩ := u_known (C := RX10) (T := TX10) (N := 15) (n := 15) hg lyw_9 (hg (.instantiable RX10 15) tw_27)
    exact ⟨(cC, iS), fun r hr => by cases hr; exact h⟩
  | 10 =>
    obtain ⟨cC, iS, h⟩ := u_known (C := RX11) (T := TX11) (N := 63) (n := 63) hg lyw_10 (hg (.instantiable RX11 63) tw_1253)
    exact ⟨(cC, iS), fun r hr => by cases hr; exact h⟩
  | k + 11 => exact ⟨(0, fun _ => 0), fun r hr => by simp [vwCl] at hr⟩
theorem arr_all {args : Array Value} {s : State} (hts : ∀ w ∈ lw_tbl, w.before args s = true) : ∀ k : Nat, ∃ cA : ClassId, 20 ≤ k → k < 25 → ArrOfT s cA (tyA k) ∧ va_RA s cA (tyA k) := by
  intro k
  match k with
  | 20 =>
    obtain ⟨c, kA, comp, h1, h2, h3⟩ := Cond.arrayClass_spec (hts (.arrayClass .int) (TBG_sub tw_61))
    exact ⟨c, fun _ _ => ⟨fun n z => ⟨fun k h => (by cases h), kA, h2, comp, h3⟩, h1⟩⟩
  | 21 =>
    obtain ⟨c, kA, comp, h1, h2, h3⟩ := Cond.arrayClass_spec (hts (.arrayClass .byte) (TBG_sub tw_60))
    exact ⟨c, fun _ _ => ⟨fun n z => ⟨fun k h => (by cases h), kA, h2, comp, h3⟩, h1⟩⟩
  | 22 =>
    obtain ⟨c, kA, comp, h1, h2, h3⟩ := Cond.arrayClass_spec (hts (.arrayClass .long) (TBG_sub tw_1912))
    exact ⟨c, fun _ _ => ⟨fun n z => ⟨fun k h => (by cases h), kA, h2, comp, h3⟩, h1⟩⟩
  | 23 =>
    obtain ⟨comp, c, kA, f1, f2, f3, f4, f5⟩ := Cond.arrayOver_spec (hts (.arrayOver (.object "DustParish$State")) (tbl_in (tk2 (List.mem_of_getElem? (i := 74) rfl))))
    exact ⟨c, fun _ _ => ⟨fun n z => ⟨fun k h => (by cases h), kA, f3, comp, f4⟩, kA, comp, f3, f4, f1, f5⟩⟩
  | 24 =>
    obtain ⟨comp, c, kA, f1, f2, f3, f4, f5⟩ := Cond.arrayOver_spec (hts (.arrayOver (.object "java/lang/String")) (tbl_in (tk6 (List.mem_of_getElem? (i := 59) rfl))))
    exact ⟨c, fun _ _ => ⟨fun n z => ⟨fun k h => (by cases h), kA, f3, comp, f4⟩, kA, comp, f3, f4, f1, f5⟩⟩
  | 0 | 1 | 2 | 3 | 4 | 5 | 6 | 7 | 8 | 9 | 10 | 11 | 12 | 13 | 14 | 15 | 16 | 17 | 18 | 19 => exact ⟨0, fun h => absurd h (by decide)⟩
  | k + 25 => exact ⟨0, fun _ h => absurd h (by omega)⟩
theorem nw_all {args : Array Value} {s : State} (hts : ∀ w ∈ lw_tbl, w.before args s = true) : ∀ w ∈ NW, va_Nw w s := by
  intro w hw
  simp only [NW, List.mem_cons, List.not_mem_nil, or_false] at hw
  rcases hw with rfl | rfl | rfl | rfl | rfl | rfl | rfl | rfl
  · exact va_Nw.of rfl (hts _ (tbl_in (tk1 (List.mem_of_getElem? (i := 36) rfl))))
  · exact va_Nw.of rfl (hts _ (tbl_in (tk1 (List.mem_of_getElem? (i := 42) rfl))))
  · exact va_Nw.of rfl (hts _ (tbl_in (tk2 (List.mem_of_getElem? (i := 26) rfl))))
  · exact va_Nw.of rfl (hts _ (tbl_in (tk2 (List.mem_of_getElem? (i := 32) rfl))))
  · exact va_Nw.of rfl (hts _ (tbl_in (tk2 (List.mem_of_getElem? (i := 75) rfl))))
  · exact va_Nw.of rfl (hts _ (tbl_in (tk2 (List.mem_of_getElem? (i := 90) rfl))))
  · exact va_Nw.of rfl (hts _ (tbl_in (tk2 (List.mem_of_getElem? (i := 127) rfl))))
  · exact va_Nw.of rfl (hts _ (tbl_in (tk4 (List.mem_of_getElem? (i := 195) rfl))))
theorem cw_all {args : Array Value} {s : State} (hts : ∀ w ∈ lw_tbl, w.before args s = true) : ∀ w ∈ CW, va_Nw w s := by
  intro w hw
  simp only [CW, List.mem_cons, List.not_mem_nil, or_false] at hw
  rcases hw with rfl | rfl | rfl | rfl | rfl
  · exact va_Nw.of rfl (hts _ (tbl_in (tk3 (List.mem_of_getElem? (i := 89) rfl))))
  · exact va_Nw.of rfl (hts _ (tbl_in (tk4 (List.mem_of_getElem? (i := 221) rfl))))
  · exact va_Nw.of rfl (hts _ (tbl_in (tk3 (List.mem_of_getElem? (i := 90) rfl))))
  · exact va_Nw.of rfl (hts _ (tbl_in (tk3 (List.mem_of_getElem? (i := 92) rfl))))
  · exact va_Nw.of rfl (hts _ (tbl_in (tk3 (List.mem_of_getElem? (i := 94) rfl))))
theorem law_world {args : Array Value} {s : State} (hts : ∀ w ∈ lw_tbl, w.before args s = true) (hs : ∀ w ∈ FW, w.before args s = true) :
    ∃ (dC : Nat → ClassId) (dI : Nat → Nat → Nat) (dR : Nat → ClassId) (dK dV : Nat → Nat), ∀ dA : Nat → Nat, EV (dC, dI, dR, dA, dK, dV) s ∧ EH (dC, dI, dR, dA, dK, dV) (fun q => s.heap.size ≤ q) s s.heap := by
  obtain ⟨ci, hci⟩ := Classical.axiomOfChoice (cls_all hts)
  obtain ⟨ar, har⟩ := Classical.axiomOfChoice (arr_all hts)
  have hA : ∀ a : Nat, a < s.heap.size → ¬ (fun q : Nat => s.heap.size ≤ q) a := fun a h => Nat.not_le.mpr h
  obtain ⟨adK, adV, hS, hE⟩ := strs hs hA
  refine ⟨fun c => (ci c).1, fun c => (ci c).2, ar, adK, adV, fun dA => ⟨⟨hci, har, nw_all hts, sk_all hts hs hE, cw_all hts, va_Nc.of (hs (.not (.castable xIA xNS)) (by decide +kernel))⟩, hS, ?_, ?_, ?_, ?_⟩⟩
  · exact va_Zof (hts (.laysStatic "java/lang/String" "COMPACT_STRINGS" "Z") (tbl_in (tk3 (List.mem_of_getElem? (i := 190) rfl)))) (hts (.initialized "java/lang/String") (TBG_sub tw_18)) (va_eqt (hs (.eq (.static "java/lang/String" "COMPACT_STRINGS" "Z") (.int 1)) (by decide +kernel))) hA
  · exact vx_Zqof (hts (.laysStatic "java/lang/Throwable" "UNASSIGNED_STACK" "[Ljava/lang/StackTraceElement;") (tbl_in (tk3 (List.mem_of_getElem? (i := 114) rfl)))) (hts (.initialized "java/lang/Throwable") (TBG_sub tw_13)) (hs (.isRef (.static "java/lang/Throwable" "UNASSIGNED_STACK" "[Ljava/lang/StackTraceElement;")) (by decide +kernel)) hA
  · exact vx_Zqof (hts (.laysStatic "java/lang/Throwable" "SUPPRESSED_SENTINEL" "Ljava/util/List;") (tbl_in (tk3 (List.mem_of_getElem? (i := 116) rfl)))) (hts (.initialized "java/lang/Throwable") (TBG_sub tw_13)) (hs (.isRef (.static "java/lang/Throwable" "SUPPRESSED_SENTINEL" "Ljava/util/List;")) (by decide +kernel)) hA
  · exact va_Zqof (hts (.laysStatic "jdk/internal/util/Preconditions" "SIOOBE_FORMATTER" "Ljava/util/function/BiFunction;") (tbl_in (tk3 (List.mem_of_getElem? (i := 229) rfl)))) (hts (.initialized "jdk/internal/util/Preconditions") (TBG_sub tw_21)) (hs (.isRef (.static "jdk/internal/util/Preconditions" "SIOOBE_FORMATTER" "Ljava/util/function/BiFunction;")) (by decide +kernel)) hA
theorem ao_state {args : Array Value} {s : State} (hts : ∀ w ∈ lw_tbl, w.before args s = true) : va_AO "DustParish$State" s ∧ va_AO "java/lang/String" s := ⟨va_AO.of (hts _ (tbl_in (tk2 (List.mem_of_getElem? (i := 74) rfl)))), va_AO.of (hts _ (tbl_in (tk6 (List.mem_of_getElem? (i := 59) rfl))))⟩
