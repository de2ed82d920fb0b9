/-! ===== sneeze, plan, undo, see, forget ===== -/
def aSteal (A : AS) (a : Nat) (v : Int32) : AS := (upd (aD A) a (aD A a - v), aB A, aC A, aY A, aT A, aS A + v)
theorem AB.steal {M : ST} {K : Nat} {A : AS} (h : AB M K A) {a n : Nat} (ha : a < nR M) (hn : n ≤ 9999) : AB M K (aSteal A a (if aD A a < nI n then aD A a else nI n)) := by
  obtain ⟨x, hx, ex⟩ := h.1 a ha
  refine ⟨?_, h.2⟩
  show DB (nR M) (upd (aD A) a (aD A a - _))
  rw [ex]
  by_cases c : nI x < nI n
  · rw [if_pos c, nI_sub (Nat.le_refl _)]; exact h.1.up1 (r := a) (v := x - x) (by omega)
  · rw [if_neg c]
    rw [nI_ltI (by omega) (by omega)] at c
    rw [nI_sub (by omega)]; exact h.1.up1 (r := a) (v := x - n) (by omega)
theorem stealC {M : ST} {A : AS} {y : ST} (h9 : nR M ≤ 9) (hR : RC 43 M A y) {a : Nat} (ha : a < nR M) (v : Int32) : ∃ z, fX8_steal y 43 (nI a) v = some ((if aD A a < v then aD A a else v), z) ∧ RC 43 M (aSteal A a (if aD A a < v then aD A a else v)) z ∧ Fr [43, 44] y z := by
  have H1 : y 44 a = aD A a := (hR.2.1 a ha).1
  obtain ⟨w, ew⟩ : ∃ w, w = (if aD A a < v then aD A a else v) := ⟨_, rfl⟩
  rw [← ew]
  have g : up2 y 44 a (aD A a - w) 43 = y 43 := up2_n (by decide)
  refine ⟨up2 (up2 y 44 a (aD A a - w)) 43 2 (aS A + w), ?_, ?_, (Fr.rf.up (by decide)).up (by decide)⟩
  · simp only [fX8_steal, bnd_s, pw_s, rd_0, rd_1, rd_2, rd_3, rd_4, rd_5, rd_6, wr_0, wr_1, wr_2, wr_3, wr_4, wr_5, zb_0, zb_1, Nat.reduceLT, Nat.reducePow, rd_k (n := 9) (show a < 9 by omega), Nat.reduceAdd, H1, wr_k (n := 9) (show a < 9 by omega), ← ew, g, hR.1.2.2]
  · refine ⟨⟨?_, ?_, ?_⟩, fun r hr => ⟨?_, ?_⟩, fun i hi => ?_⟩
    · rw [up2_sn (by decide), g]; exact hR.1.1
    · rw [up2_sn (by decide), g]; exact hR.1.2.1
    · rw [up2_ss]; rfl
    · show up2 (up2 y 44 a (aD A a - w)) 43 2 (aS A + w) 44 r = upd (aD A) a (aD A a - w) r
      rw [up2_n (by decide), up2_s]
      by_cases c : r = a
      · rw [c, upd_s, upd_s]
      · rw [upd_n c, upd_n c]; exact (hR.2.1 r hr).1
    · show up2 (up2 y 44 a (aD A a - w)) 43 2 (aS A + w) 45 r = aB A r
      rw [up2_n (by decide), up2_n (by decide)]; exact (hR.2.1 r hr).2
    · show up2 (up2 y 44 a (aD A a - w)) 43 2 (aS A + w) 46 i = aC A i
      rw [up2_n (by decide), up2_n (by decide)]; exact hR.2.2 i hi
theorem stealM {M : ST} {A : AS} {y : ST} (h9 : nR M ≤ 9) (hR : RM1 M A y) {a : Nat} (ha : a < nR M) (v : Int32) : ∃ z, fX11_steal y (nI a) v = some ((if aD A a < v then aD A a else v), z) ∧ RM1 M (aSteal A a (if aD A a < v then aD A a else v)) z ∧ Fr [0, 19] y z ∧ Fs 0 [35] y z := by
  have H1 : y 19 a = aD A a := (hR.2.1 a ha).1
  obtain ⟨w, ew⟩ : ∃ w, w = (if aD A a < v then aD A a else v) := ⟨_, rfl⟩
  rw [← ew]
  have g : up2 y 19 a (aD A a - w) 0 = y 0 := up2_n (by decide)
  refine ⟨up2 (up2 y 19 a (aD A a - w)) 0 35 (aS A + w), ?_, ?_, (Fr.rf.up (by decide)).up (by decide), (Fs.rf.un (by decide)).up (by decide)⟩
  · simp only [fX11_steal, bnd_s, pw_s, rd_0, rd_1, rd_2, rd_3, rd_4, rd_5, rd_6, wr_0, wr_1, wr_2, wr_3, wr_4, wr_5, zb_0, zb_1, Nat.reduceLT, Nat.reducePow, rd_k (n := 9) (show a < 9 by omega), H1, wr_k (n := 9) (show a < 9 by omega), ← ew, g, hR.1.2.2]
  · refine ⟨⟨?_, ?_, ?_⟩, fun r hr => ⟨?_, ?_⟩, fun i hi => ?_⟩
    · rw [up2_sn (by decide), g]; exact hR.1.1
    · rw [up2_sn (by decide), g]; exact hR.1.2.1
    · rw [up2_ss]; rfl
    · show up2 (up2 y 19 a (aD A a - w)) 0 35 (aS A + w) 19 r = upd (aD A) a (aD A a - w) r
      rw [up2_n (by decide), up2_s]
      by_cases c : r = a
      · rw [c, upd_s, upd_s]
      · rw [upd_n c, upd_n c]; exact (hR.2.1 r hr).1
    · show up2 (up2 y 19 a (aD A a - w)) 0 35 (aS A + w) 20 r = aB A r
      rw [up2_n (by decide), up2_n (by decide)]; exact (hR.2.1 r hr).2
    · show up2 (up2 y 19 a (aD A a - w)) 0 35 (aS A + w) 21 i = aC A i
      rw [up2_n (by decide), up2_n (by decide)]; exact hR.2.2 i hi
theorem t_sneeze {hc hm : ST} (hI : Inv hc hm) (a1 a2 : Int32) : ∃ y, s_sneeze hc hm a1 a2 = some y ∧ Inv y.1 y.2 := by
  obtain ⟨f, M, A, h, h2⟩ := hI
  obtain ⟨hf, h0, hB, hF, hCF, hR, hR1, hA⟩ := id h
  have m1 := codeM (M := M) hR1
  have h9 := hB.1.2.1
  have hF1 := fm_up hF 2 0
  have n1 : ¬ (1 : Int32) = 0 := by decide
  unfold s_sneeze fL_sneeze
  apply s_ok
  have rm := refM (hm := up2 hm 0 2 0) (k := 1) (by decide)
  have rc := refC (hc := hc) (k := 1) (by decide)
  rcases room_c h a1 with ⟨a, ha, rfl, e1, e2⟩ | ⟨e1, e2⟩
  rotate_left
  · obtain ⟨q1, q2⟩ := failM hR1 1
    refine Or.inr ⟨1, 1, 0, hc, _, ?_, rfl, by decide, ?_, q2.2.2.2, Inv.ro h h2 (fun _ _ _ _ => rfl) q2⟩
    · simp only [fX10_sneeze, bnd_s, pw_s, rd_0, rd_1, rd_2, rd_3, rd_4, rd_5, rd_6, wr_0, wr_1, wr_2, wr_3, wr_4, wr_5, zb_0, zb_1, Nat.reduceLT, Nat.reducePow, e1, sm]
    · simp only [fX11_sneeze, bnd_s, pw_s, rd_0, rd_1, rd_2, rd_3, rd_4, rd_5, rd_6, wr_0, wr_1, wr_2, wr_3, wr_4, wr_5, zb_0, zb_1, Nat.reduceLT, Nat.reducePow, e2 _ hF1, q1, if_true]
  have E2 := e2 _ hF1
  have z2 : up2 (up2 hm 0 2 0) 17 1 (up2 hm 0 2 0 17 1 + 1) 0 2 = 0 := by rw [up2_n (by decide), up2_ss]
  have rI := Inv.ref h h2 (k := 1) (by decide)
  have r1 : fX10_sneeze_16 hc = some (.inl (-1), up2 hc 213 1 (hc 213 1 + 1)) := by
    unfold fX10_sneeze_16; rw [show fX10_refuse hc 1 = _ from rc]; rfl
  rcases in_c 1 99 (by decide) (by decide) a2 with ⟨n, hn1, hn, rfl, e⟩ | ⟨c, e⟩
  · have e : fX11_isIn (up2 hm 0 2 0) (nI n).toInt64 (1 : Int64) (99 : Int64) = some 1 := e _
    have q1 : ¬ nI n < 1 := nI_nlt (b := 1) hn1 (by omega)
    have q2 : nI n ≤ 99 := nI_le (b := 99) hn (by decide)
    obtain ⟨hc1, hm1, p1, p2, p3⟩ := remB h h2
    obtain ⟨u, u1, u2, u3⟩ := stealC h9 p3.1 ha (nI n)
    obtain ⟨v, v1, v2, v3, v4⟩ := stealM h9 p3.2.1 ha (nI n)
    refine Or.inl ⟨(if aD A a < nI n then aD A a else nI n), u, v, ?_, ?_, (v4 2 (by decide)).trans p3.2.2.2.2.2.2, ?_⟩
    rotate_left
    · simp only [fX11_sneeze, bnd_s, pw_s, rd_0, rd_1, rd_2, rd_3, rd_4, rd_5, rd_6, wr_0, wr_1, wr_2, wr_3, wr_4, wr_5, zb_0, zb_1, Nat.reduceLT, Nat.reducePow, E2, if_neg n1, e, p2, v1]
    · exact Inv.act h h2 p3 (fun i _ _ _ => u3 i (by simp only [List.mem_cons, List.not_mem_nil, or_false]; omega)) (v3.sub (by decide)) (v4.sub (by decide)) u2 v2 (hA.steal ha (by omega))
    · simp only [fX10_sneeze, bnd_s, pw_s, rd_0, rd_1, rd_2, rd_3, rd_4, rd_5, rd_6, wr_0, wr_1, wr_2, wr_3, wr_4, wr_5, zb_0, zb_1, Nat.reduceLT, Nat.reducePow, e1, sm, if_neg q1, if_pos q2, p1, u1]
  · have e : fX11_isIn (up2 hm 0 2 0) a2.toInt64 (1 : Int64) (99 : Int64) = some 0 := e _
    refine Or.inl ⟨-1, _, _, ?_, ?_, z2, rI⟩
    · by_cases c1 : a2 < 1
      · simp only [fX10_sneeze, bnd_s, pw_s, rd_0, rd_1, rd_2, rd_3, rd_4, rd_5, rd_6, wr_0, wr_1, wr_2, wr_3, wr_4, wr_5, zb_0, zb_1, Nat.reduceLT, Nat.reducePow, e1, sm, if_pos c1, r1]
      · simp only [fX10_sneeze, bnd_s, pw_s, rd_0, rd_1, rd_2, rd_3, rd_4, rd_5, rd_6, wr_0, wr_1, wr_2, wr_3, wr_4, wr_5, zb_0, zb_1, Nat.reduceLT, Nat.reducePow, e1, sm, if_neg c1, if_neg (show ¬ a2 ≤ 99 from fun q => c ⟨Int32.not_lt.mp c1, q⟩), r1]
    · simp only [fX11_sneeze, bnd_s, pw_s, rd_0, rd_1, rd_2, rd_3, rd_4, rd_5, rd_6, wr_0, wr_1, wr_2, wr_3, wr_4, wr_5, zb_0, zb_1, Nat.reduceLT, Nat.reducePow, E2, if_neg n1, e, if_true]
      rw [show fX11_refuse (up2 hm 0 2 0) 1 = _ from rm]; rfl
/-! the calendar -/
def aPlan (A : AS) (i : Nat) (w : Int32) : AS := (aD A, aB A, upd (aC A) i w, aY A, aT A, aS A)
theorem AB.plan {M : ST} {K : Nat} {A : AS} (h : AB M K A) {i : Nat} {w : Int32} (hw : okW M w) : AB M K (aPlan A i w) := by
  refine ⟨h.1, fun j hj => ?_, h.2.2⟩
  show okW M (upd (aC A) i w j)
  by_cases c : j = i
  · rw [c, upd_s]; exact hw
  · rw [upd_n c]; exact h.2.1 j hj
theorem lt_c {n : Nat} (hn : n < 2 ^ 31) (a : Int32) : (∃ k, k < n ∧ a = nI k ∧ ∀ h, fX11_isIn h a.toInt64 (0 : Int64) ((nI n - 1).toInt64) = some 1) ∨ ((a < 0 ∨ nI n ≤ a) ∧ ∀ h, fX11_isIn h a.toInt64 (0 : Int64) ((nI n - 1).toInt64) = some 0) := by
  by_cases c : a < 0
  · exact Or.inr ⟨Or.inl c, fun h => isIn_n (l := 0) (fun q => absurd c (Int32.not_lt.mpr q.1))⟩
  · obtain ⟨k, hk, rfl⟩ := nI_of c
    by_cases c2 : k < n
    · exact Or.inl ⟨k, c2, rfl, fun h => isIn_y (l := 0) (Int32.not_lt.mp c) ((sub_m1 hn).mpr (nI_lt c2 hn))⟩
    · exact Or.inr ⟨Or.inr (nI_le (by omega) hk), fun h => isIn_n (l := 0) (fun q => c2 ((nI_ltI hk hn).mp ((sub_m1 hn).mp q.2)))⟩
theorem t_plan {hc hm : ST} (hI : Inv hc hm) (a1 a2 : Int32) : ∃ y, s_plan hc hm a1 a2 = some y ∧ Inv y.1 y.2 := by
  obtain ⟨f, M, A, h, h2⟩ := hI
  obtain ⟨hf, h0, hB, hF, hCF, hR, hR1, hA⟩ := id h
  have m1 := codeM (M := M) hR1
  have h10 := hB.1.2.2.2.2.2.2.2
  have hW5 := hB.1.2.2.2.2.2.1
  have hF1 := fm_up hF 2 0
  have n1 : ¬ (1 : Int32) = 0 := by decide
  have g3 : up2 hm 0 2 0 3 = M 3 := hF1 3 (by decide)
  have b2 := hB.1.2.2.2.2.1
  have b3 := hB.1.2.2.2.2.2.2.1
  have f8 : hc f 8 = nI (nW M) := hCF.1.2.2.1.trans b2
  have f13 : hc f 13 = nI (nC M) := hCF.1.2.2.2.1.trans b3
  unfold s_plan
  apply n_ok
  have rm := refM (hm := up2 hm 0 2 0) (k := 1) (by decide)
  have rc := refC (hc := hc) (k := 1) (by decide)
  have rI := Inv.ref h h2 (k := 1) (by decide)
  have r1 : fX10_plan_45 hc = some (-1, up2 hc 213 1 (hc 213 1 + 1)) := by
    unfold fX10_plan_45; rw [show fX10_refuse hc 1 = _ from rc]; rfl
  have r2 : fX11_plan_46 (up2 hm 0 2 0) = some (-1, up2 (up2 hm 0 2 0) 17 1 (up2 hm 0 2 0 17 1 + 1)) := by
    unfold fX11_plan_46; rw [show fX11_refuse (up2 hm 0 2 0) 1 = _ from rm]; rfl
  -- what a good call does
  have good : ∀ i, i < nC M → okW M a2 → ∃ u v, fX10_plan_20 hc (nI i) a2 = some (aC A i, u) ∧ fX11_plan_52 (up2 hm 0 2 0) (nI i) a2 = some (aC A i, v) ∧ Inv u v := by
    intro i hi hw
    obtain ⟨hc1, hm1, p1, p2, p3⟩ := remB h h2
    have c1 : hc1 46 i = aC A i := p3.1.2.2 i hi
    have c2 : hm1 21 i = aC A i := p3.2.1.2.2 i hi
    refine ⟨up2 hc1 46 i a2, up2 hm1 21 i a2, ?_, ?_, ?_⟩
    · simp only [fX10_plan_20, fX10_plan_25, if_neg n1, if_neg (nI_pos (show i < 2 ^ 31 by omega)), rf_f hf h0, bnd_s, pw_s, rd_0, rd_1, rd_2, rd_3, rd_4, rd_5, rd_6, wr_0, wr_1, wr_2, wr_3, wr_4, wr_5, zb_0, zb_1, Nat.reduceLT, Nat.reducePow, f13, if_pos (nI_lt hi (show nC M < 2 ^ 31 by omega)), p1, rd_k (n := 10) (show i < 10 by omega), wr_k (n := 10) (show i < 10 by omega), c1]
    · simp only [fX11_plan_52, p2, bnd_s, pw_s, rd_0, rd_1, rd_2, rd_3, rd_4, rd_5, rd_6, wr_0, wr_1, wr_2, wr_3, wr_4, wr_5, zb_0, zb_1, Nat.reduceLT, Nat.reducePow, rd_k (n := 10) (show i < 10 by omega), wr_k (n := 10) (show i < 10 by omega), c2]
    · refine Inv.act h h2 p3 (A' := aPlan A i a2) (fun j _ _ _ => up2_n (by omega)) (Fr.rf.up (by decide)) (Fs.rf.un (by decide)) ?_ ?_ (hA.plan hw)
      · refine ⟨?_, ?_, fun j hj => ?_⟩
        · rw [up2_n (by decide)]; exact p3.1.1
        · rw [up2_n (by decide), up2_n (by decide)]; exact p3.1.2.1
        · show up2 hc1 46 i a2 46 j = upd (aC A) i a2 j
          rw [up2_s]
          by_cases c : j = i
          · rw [c, upd_s, upd_s]
          · rw [upd_n c, upd_n c]; exact p3.1.2.2 j hj
      · refine ⟨?_, ?_, fun j hj => ?_⟩
        · rw [up2_n (by decide)]; exact p3.2.1.1
        · rw [up2_n (by decide), up2_n (by decide)]; exact p3.2.1.2.1
        · show up2 hm1 21 i a2 21 j = upd (aC A) i a2 j
          rw [up2_s]
          by_cases c : j = i
          · rw [c, upd_s, upd_s]
          · rw [upd_n c, upd_n c]; exact p3.2.1.2.2 j hj
  have bad24 : fX10_plan_24 hc a1 a2 = some (-1, up2 hc 213 1 (hc 213 1 + 1)) := by
    simp only [fX10_plan_24, fX10_plan_25, if_true, r1]
  have bad20 : (a1 < 0 ∨ nI (nC M) ≤ a1) → fX10_plan_20 hc a1 a2 = some (-1, up2 hc 213 1 (hc 213 1 + 1)) := by
    intro q
    by_cases c : a1 < 0
    · simp only [fX10_plan_20, fX10_plan_25, if_neg n1, if_pos c, r1]
    · have q2 : ¬ a1 < nI (nC M) := Int32.not_lt.mpr (q.resolve_left c)
      simp only [fX10_plan_20, fX10_plan_25, if_neg n1, if_neg c, rf_f hf h0, bnd_s, pw_s, rd_0, rd_1, rd_2, rd_3, rd_4, rd_5, rd_6, wr_0, wr_1, wr_2, wr_3, wr_4, wr_5, zb_0, zb_1, Nat.reduceLT, Nat.reducePow, f13, if_neg q2, r1]
  -- the wind, as both judge it
  have wc : (okW M a2 ∧ (∀ i, fX10_plan hc i a2 = fX10_plan_20 hc i a2)) ∨ (¬ a2 = 5 ∧ (∀ i, fX10_plan hc i a2 = fX10_plan_24 hc i a2) ∧ fX11_isIn (up2 hm 0 2 0) a2.toInt64 (0 : Int64) ((nI (nW M) - 1).toInt64) = some 0) := by
    by_cases c5 : a2 = 5
    · exact Or.inl ⟨Or.inl c5, fun i => by unfold fX10_plan; rw [if_pos c5]⟩
    · rcases lt_c (n := nW M) (by omega) a2 with ⟨w, hw, e, q⟩ | ⟨e, q⟩
      · subst e
        exact Or.inl ⟨Or.inr ⟨w, hw, rfl⟩, fun i => by
          simp only [fX10_plan, if_neg c5, if_neg (nI_pos (show w < 2 ^ 31 by omega)), rf_f hf h0, bnd_s, pw_s, rd_0, rd_1, rd_2, rd_3, rd_4, rd_5, rd_6, wr_0, wr_1, wr_2, wr_3, wr_4, wr_5, zb_0, zb_1, Nat.reduceLT, Nat.reducePow, f8, if_neg (nI_ge hw (show nW M < 2 ^ 31 by omega))]⟩
      · refine Or.inr ⟨c5, fun i => ?_, q _⟩
        by_cases c : a2 < 0
        · simp only [fX10_plan, if_neg c5, if_pos c]
        · simp only [fX10_plan, if_neg c5, if_neg c, rf_f hf h0, bnd_s, pw_s, rd_0, rd_1, rd_2, rd_3, rd_4, rd_5, rd_6, wr_0, wr_1, wr_2, wr_3, wr_4, wr_5, zb_0, zb_1, Nat.reduceLT, Nat.reducePow, f8, if_pos (e.resolve_left c)]
  rcases lt_c (n := nC M) (by omega) a1 with ⟨i, hi, e, q⟩ | ⟨e, q⟩
  · subst e
    have Q := q (up2 hm 0 2 0)
    rcases wc with ⟨w1, w2⟩ | ⟨w1, w2, w3⟩
    · obtain ⟨u, v, u1, v1, uv⟩ := good i hi w1
      refine ⟨_, u, v, (w2 _).trans u1, ?_, uv⟩
      by_cases c5 : a2 = 5
      · simp only [fX11_plan, bnd_s, pw_s, rd_0, rd_1, rd_2, rd_3, rd_4, rd_5, rd_6, wr_0, wr_1, wr_2, wr_3, wr_4, wr_5, zb_0, zb_1, Nat.reduceLT, Nat.reducePow, g3, b3, Q, if_neg n1, if_pos c5, v1]
      · obtain ⟨k, hk, rfl⟩ := w1.resolve_left c5
        have Q2 : fX11_isIn (up2 hm 0 2 0) (nI k).toInt64 (0 : Int64) ((nI (nW M) - 1).toInt64) = some 1 := isIn_y (l := 0) (nI_pos' (by omega)) ((sub_m1 (by omega)).mpr (nI_lt hk (by omega)))
        simp only [fX11_plan, bnd_s, pw_s, rd_0, rd_1, rd_2, rd_3, rd_4, rd_5, rd_6, wr_0, wr_1, wr_2, wr_3, wr_4, wr_5, zb_0, zb_1, Nat.reduceLT, Nat.reducePow, g3, b3, Q, if_neg n1, if_neg c5, b2, Q2, v1]
    · refine ⟨-1, _, _, (w2 _).trans bad24, ?_, rI⟩
      simp only [fX11_plan, bnd_s, pw_s, rd_0, rd_1, rd_2, rd_3, rd_4, rd_5, rd_6, wr_0, wr_1, wr_2, wr_3, wr_4, wr_5, zb_0, zb_1, Nat.reduceLT, Nat.reducePow, g3, b3, Q, if_neg n1, if_neg w1, b2, w3, if_true, r2]
  · have Q := q (up2 hm 0 2 0)
    refine ⟨-1, _, _, ?_, by simp only [fX11_plan, bnd_s, pw_s, rd_0, rd_1, rd_2, rd_3, rd_4, rd_5, rd_6, wr_0, wr_1, wr_2, wr_3, wr_4, wr_5, zb_0, zb_1, Nat.reduceLT, Nat.reducePow, g3, b3, Q, if_true, r2], rI⟩
    rcases wc with ⟨w1, w2⟩ | ⟨w1, w2, w3⟩
    · exact (w2 _).trans (bad20 e)
    · exact (w2 _).trans bad24
/-! the last act undone -/
theorem t_undo {hc hm : ST} (hI : Inv hc hm) : ∃ y, s_undo hc hm = some y ∧ Inv y.1 y.2 := by
  obtain ⟨f, M, A, h, h2⟩ := hI
  obtain ⟨hf, h0, hB, hF, hCF, hR, hR1, hA⟩ := id h
  have m1 := codeM (M := M) hR1
  have h9 := hB.1.2.1
  have h10 := hB.1.2.2.2.2.2.2.2
  unfold s_undo
  apply n_ok
  obtain ⟨k1, k2, k3, k4, k5, k6, k7, k8, k9⟩ := id h2
  obtain ⟨k, first, e1, e2, e3, e4, e5, e6⟩ := id k7
  have e3' : hc 47 0 = nI k := e3
  have e4' : hc 47 1 = nI first := e4
  have g36 : up2 hm 0 2 0 0 36 = nI k := by rw [up2_sn (by decide)]; exact e1
  rcases Nat.eq_zero_or_pos k with rfl | kp
  · refine ⟨-1, hc, _, ?_, ?_, Inv.ro h h2 (fun _ _ _ _ => rfl) m1⟩
    · simp only [fX10_undo, e3', if_pos (show nI 0 = 0 from rfl)]
    · simp only [fX11_undo, bnd_s, pw_s, rd_0, rd_1, rd_2, rd_3, rd_4, rd_5, rd_6, wr_0, wr_1, wr_2, wr_3, wr_4, wr_5, zb_0, zb_1, Nat.reduceLT, Nat.reducePow, g36, if_pos (show nI 0 = 0 from rfl)]
  obtain ⟨j, rfl⟩ : ∃ j, k = j + 1 := ⟨k - 1, by omega⟩
  have ne : ¬ nI (j + 1) = 0 := nI_ne0 (by omega) (by omega)
  have nle : ¬ nI (j + 1) ≤ 0 := nI_nle (by omega) (by omega)
  obtain ⟨B, b1, b2, b3⟩ := e6 j (by omega)
  have hl := Nat.mod_lt (first + j) (show 0 < 40 by decide)
  have u : ∀ i, i ≠ 47 → up2 hc 47 0 (nI j) i = hc i := fun i hi => up2_n hi
  have b2' : RC (49 + 4 * ((first + j) % 40)) M B (up2 hc 47 0 (nI j)) := b2.kept (u _ (by omega)) (u _ (by omega)) (u _ (by omega)) (u _ (by omega))
  obtain ⟨y, y1, y2, y3⟩ := copyR (o := 43) (o1 := 49 + 4 * ((first + j) % 40)) (by omega) h9 h10 b2'
  obtain ⟨x, ex⟩ : ∃ x, x = up2 (up2 hm 0 2 0) 0 36 (nI j) := ⟨_, rfl⟩
  have x22 : x 22 = hm 22 := by rw [ex, up2_n (by decide), up2_n (by decide)]
  have x36 : x 0 36 = nI j := by rw [ex, up2_ss]
  obtain ⟨z, z1, z2, z3, z4⟩ := unpackM h9 h10 (hm := x) (o := 22) (n := 1240) (b := 31 * j) (A := B) (by rw [x22]; exact b3) (by decide) (by omega) (by omega)
  have z36 : z 0 36 = nI j := (z4 36 (by decide)).trans x36
  have y47 : y 47 = up2 hc 47 0 (nI j) 47 := y3 47 (by decide)
  have fx : Fr KmW hm x := by rw [ex]; exact (Fr.rf.up (by decide)).up (by decide)
  have fs : Fs 0 KsW hm x := by rw [ex]; exact (Fs.rf.up (by decide)).up (by decide)
  have ix : nI first + nI j - (nI first + nI j) / 40 * 40 = nI ((first + j) % 40) := by
    rw [nI_add]; exact rem_k (d := 40) (by omega) (by decide) (by decide)
  have yk : ∀ i, i < 43 ∨ 48 ≤ i → y i = hc i := fun i hi => (y3 i (by simp only [List.mem_cons, List.not_mem_nil, or_false]; omega)).trans (u i (by omega))
  have zk : ∀ i, i ∉ [0, 19, 20, 21] → z i = hm i := fun i hi => (z3 i hi).trans (by
    simp only [List.mem_cons, List.not_mem_nil, or_false] at hi
    rw [ex, up2_n (by omega), up2_n (by omega)])
  refine ⟨nI j, y, z, ?_, ?_, ?_⟩
  · have g : up2 hc 47 0 (nI j) 47 1 = nI first := by rw [up2_sn (by decide)]; exact e4'
    have g2 : up2 hc 47 0 (nI j) 47 0 = nI j := up2_ss _ _ _ _
    have g3 : y 47 0 = nI j := by rw [y47]; exact g2
    simp only [fX10_undo, fX0_giveBack, fX0_giveBack_38, e3', if_neg ne, if_neg nle, nI_pred, bnd_s, pw_s, rd_0, rd_1, rd_2, rd_3, rd_4, rd_5, rd_6, wr_0, wr_1, wr_2, wr_3, wr_4, wr_5, zb_0, zb_1, Nat.reduceLT, Nat.reducePow, g, g2, ix, bst_k hl, y1, g3]
  · have m31 : (31 : Int32) * nI j = nI (31 * j) := nI_mul 31 j
    simp only [fX11_undo, bnd_s, pw_s, rd_0, rd_1, rd_2, rd_3, rd_4, rd_5, rd_6, wr_0, wr_1, wr_2, wr_3, wr_4, wr_5, zb_0, zb_1, Nat.reduceLT, Nat.reducePow, g36, if_neg ne, nI_pred, ← ex, x36, m31, z1, z36]
  · refine Inv.wr h h2 (fun i _ _ _ q => yk i (by omega)) (fx.tr (z3.sub (by decide))) (fs.tr (z4.sub (by decide))) y2 z2 b1 (fun q hq => ?_) ?_ ?_
    · rw [yk 213 (by decide), zk 17 (by decide)]; exact k5 q hq
    · rw [z4 37 (by decide), show x 0 37 = hm 0 37 by rw [ex, up2_sn (by decide), up2_sn (by decide)], zk 33 (by decide), zk 34 (by decide), zk 35 (by decide)]
      exact k6.kept2 (fun i a b => yk i (by omega))
    · rw [z36, zk 22 (by decide)]
      refine ⟨j, first, rfl, by omega, ?_, ?_, e5, fun q hq => ?_⟩
      · show y 47 0 = _
        rw [y47, up2_ss]
      · show y 47 1 = _
        rw [y47, up2_sn (by decide)]; exact e4'
      · obtain ⟨C, c1, c2, c3⟩ := e6 q (by omega)
        have hl2 := Nat.mod_lt (first + q) (show 0 < 40 by decide)
        exact ⟨C, c1, c2.kept (yk _ (by omega)) (yk _ (by omega)) (yk _ (by omega)) (yk _ (by omega)), c3⟩
/-! what was seen -/
theorem t_forget {hc hm : ST} (hI : Inv hc hm) : ∃ y, s_forget hc hm = some y ∧ Inv y.1 y.2 := by
  obtain ⟨f, M, A, h, h2⟩ := hI
  obtain ⟨hf, h0, hB, hF, hCF, hR, hR1, hA⟩ := id h
  have m1 := codeM (M := M) hR1
  unfold s_forget
  apply n_ok0
  obtain ⟨k1, k2, k3, k4, k5, k6, k7, k8, k9⟩ := id h2
  have u : ∀ i, i ≠ 209 → up2 hc 209 0 0 i = hc i := fun i hi => up2_n hi
  have v : ∀ i, i ≠ 0 → up2 (up2 hm 0 2 0) 0 37 0 i = hm i := fun i hi => (up2_n hi).trans (up2_n hi)
  refine ⟨up2 hc 209 0 0, up2 (up2 hm 0 2 0) 0 37 0, rfl, rfl, ?_⟩
  refine Inv.wr h h2 (A' := A) (fun i _ _ _ q => u i (by omega)) ((Fr.rf.up (by decide)).up (by decide)) ((Fs.rf.up (by decide)).up (by decide)) (hR.kept (u _ (by decide)) (u _ (by decide)) (u _ (by decide)) (u _ (by decide))) (rm_up m1.2.2.1 (by decide) _) hA (fun k hk => ?_) ?_ ?_
  · rw [u 213 (by decide), v 17 (by decide)]; exact k5 k hk
  · rw [up2_ss]
    exact ⟨0, rfl, by decide, up2_ss _ _ _ _, fun i hi => absurd hi (Nat.not_lt_zero i)⟩
  · rw [up2_sn (by decide), up2_sn (by decide), v 22 (by decide)]
    exact k7.kept2 (fun i a b => u i (by omega))
