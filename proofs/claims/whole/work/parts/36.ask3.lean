/-! ===== alms, lend, riches, game ===== -/
theorem subpos {q x : Nat} (hq : q < 2 ^ 30) (hx : x < 2 ^ 30) : 0 < nI q - nI x ↔ x < q := by
  rw [Int32.lt_iff_toInt_lt, Int32.toInt_sub, nI_toInt (by omega), nI_toInt (by omega)]
  show 0 < Int.bmod ((q : Int) - (x : Int)) (2 ^ 32) ↔ _
  rw [Int.bmod_eq_of_le (by omega) (by omega)]
  omega
def almS (M : ST) (D : Nat → Int32) : Nat → Int32
  | 0 => 0
  | i + 1 => if M 4 i = 2 then almS M D i else if M 3 5 ≤ D i then almS M D i else almS M D i + (M 3 5 - D i)
theorem t_alms {hc hm : ST} (hI : Inv hc hm) : ∃ y, s_alms hc hm = some y ∧ Inv y.1 y.2 := by
  obtain ⟨f, M, A, h, h2⟩ := hI
  obtain ⟨hf, h0, hB, hF, hCF, hR, hR1, hA⟩ := id h
  have b0 := hB.1.1
  have h9 := hB.1.2.1
  have m1 := codeM (M := M) hR1
  have hF1 := fm_up hF 2 0
  have rff := rf_f hf h0
  have f0 : hc f 0 = nI (nR M) := hCF.1.1.trans b0
  have f16 : hc f 16 = M 3 5 := hCF.1.2.2.2.2.2.1
  have g3 : up2 hm 0 2 0 3 = M 3 := hF1 3 (by decide)
  have g4 : up2 hm 0 2 0 4 = M 4 := hF1 4 (by decide)
  obtain ⟨q, hq, eq⟩ := hB.2.1.2.1
  have lc : lp FU (fX10_alms_4 hc) (0, 0) = some (almS M (aD A) (nR M)) := by
    refine lp_det (b := fX10_alms_4 hc) (fun i => (almS M (aD A) i, nI i)) (nR M) (by omega) (fun i hi => ?_) ?_
    · have q1 := nI_ge hi (show nR M < 2 ^ 31 by omega)
      have u := uncleanC hB hCF hR hi
      have H1 : hc 44 i = aD A i := (hR.2.1 i hi).1
      by_cases c : M 4 i = 2
      · simp only [fX10_alms_4, fX10_alms_56, bnd_s, pw_s, rd_0, rd_1, rd_2, rd_3, rd_4, rd_5, rd_6, wr_0, wr_1, wr_2, wr_3, wr_4, wr_5, zb_0, zb_1, Nat.reduceLT, Nat.reducePow, rff, f0, if_neg q1, u, if_pos c, if_true, nI_1, almS]
      · by_cases c2 : M 3 5 ≤ aD A i
        · simp only [fX10_alms_4, fX10_alms_56, bnd_s, pw_s, rd_0, rd_1, rd_2, rd_3, rd_4, rd_5, rd_6, wr_0, wr_1, wr_2, wr_3, wr_4, wr_5, zb_0, zb_1, Nat.reduceLT, Nat.reducePow, rff, f0, if_neg q1, u, if_neg c, if_pos c2, if_true, nI_1, almS]
        · simp only [fX10_alms_4, fX10_alms_56, bnd_s, pw_s, rd_0, rd_1, rd_2, rd_3, rd_4, rd_5, rd_6, wr_0, wr_1, wr_2, wr_3, wr_4, wr_5, zb_0, zb_1, Nat.reduceLT, Nat.reducePow, rff, f0, if_neg q1, u, if_neg c, if_neg c2, if_neg (show ¬ (1 : Int32) = 0 by decide), rd_k (n := 9) (show i < 9 by omega), H1, f16, nI_1, almS]
    · simp only [fX10_alms_4, bnd_s, pw_s, rd_0, rd_1, rd_2, rd_3, rd_4, rd_5, rd_6, wr_0, wr_1, wr_2, wr_3, wr_4, wr_5, zb_0, zb_1, Nat.reduceLT, Nat.reducePow, rff, f0, Int32.le_refl, if_true]
  have lm : lp FU (fX11_alms_9 (up2 hm 0 2 0)) (0, 0) = some (almS M (aD A) (nR M)) := by
    refine lp_det (b := fX11_alms_9 (up2 hm 0 2 0)) (fun i => (almS M (aD A) i, nI i)) (nR M) (by omega) (fun i hi => ?_) ?_
    · have q1 := nI_ge hi (show nR M < 2 ^ 31 by omega)
      have R2 := (m1.2.2.1.2.1 i hi).1
      obtain ⟨x, hx, ex⟩ := hA.1 i hi
      by_cases c : M 4 i = 2
      · simp only [fX11_alms_9, fX11_alms_51, bnd_s, pw_s, rd_0, rd_1, rd_2, rd_3, rd_4, rd_5, rd_6, wr_0, wr_1, wr_2, wr_3, wr_4, wr_5, zb_0, zb_1, Nat.reduceLT, Nat.reducePow, g3, g4, b0, if_neg q1, rd_k (n := 18) (show i < 18 by omega), if_pos c, nI_1, almS, Int32.add_zero]
      · by_cases c2 : M 3 5 ≤ aD A i
        · have c3 : ¬ 0 < M 3 5 - aD A i := by
            rw [eq, ex, subpos (by omega) (by omega)]
            rw [eq, ex, nI_leI (by omega) (by omega)] at c2
            omega
          simp only [fX11_alms_9, fX11_alms_51, bnd_s, pw_s, rd_0, rd_1, rd_2, rd_3, rd_4, rd_5, rd_6, wr_0, wr_1, wr_2, wr_3, wr_4, wr_5, zb_0, zb_1, Nat.reduceLT, Nat.reducePow, g3, g4, b0, if_neg q1, rd_k (n := 18) (show i < 18 by omega), if_neg c, rd_k (n := 9) (show i < 9 by omega), R2, if_neg c3, if_pos c2, nI_1, almS, Int32.add_zero]
        · have c3 : 0 < M 3 5 - aD A i := by
            rw [eq, ex, subpos (by omega) (by omega)]
            rw [eq, ex, nI_leI (by omega) (by omega)] at c2
            omega
          simp only [fX11_alms_9, fX11_alms_51, bnd_s, pw_s, rd_0, rd_1, rd_2, rd_3, rd_4, rd_5, rd_6, wr_0, wr_1, wr_2, wr_3, wr_4, wr_5, zb_0, zb_1, Nat.reduceLT, Nat.reducePow, g3, g4, b0, if_neg q1, rd_k (n := 18) (show i < 18 by omega), if_neg c, rd_k (n := 9) (show i < 9 by omega), R2, if_pos c3, if_neg c2, nI_1, almS]
    · simp only [fX11_alms_9, bnd_s, pw_s, rd_0, rd_1, rd_2, rd_3, rd_4, rd_5, rd_6, wr_0, wr_1, wr_2, wr_3, wr_4, wr_5, zb_0, zb_1, Nat.reduceLT, Nat.reducePow, g3, b0, Int32.le_refl, if_true]
  refine ⟨(mg hc hc, up2 hm 0 2 0), ?_, (Inv.ro h h2 (fun _ _ _ _ => rfl) m1).hi (fun i hi => by dsimp only; unfold mg; rw [if_pos (by omega)])⟩
  simp only [s_alms, fX10_alms, fX11_alms, bnd_s, pw_s, rd_0, rd_1, rd_2, rd_3, rd_4, rd_5, rd_6, wr_0, wr_1, wr_2, wr_3, wr_4, wr_5, zb_0, zb_1, Nat.reduceLT, Nat.reducePow, lc, lm, if_true]
theorem t_lend {hc hm : ST} (hI : Inv hc hm) (a1 : Int32) : ∃ y, s_lend hc hm a1 = some y ∧ Inv y.1 y.2 := by
  obtain ⟨f, M, A, h, h2⟩ := hI
  obtain ⟨hf, h0, hB, hF, hCF, hR, hR1, hA⟩ := id h
  have b0 := hB.1.1
  have h9 := hB.1.2.1
  have m1 := codeM (M := M) hR1
  have hF1 := fm_up hF 2 0
  have rff := rf_f hf h0
  have f0 : hc f 0 = nI (nR M) := hCF.1.1.trans b0
  have f16 : hc f 16 = M 3 5 := hCF.1.2.2.2.2.2.1
  have g3 : up2 hm 0 2 0 3 = M 3 := hF1 3 (by decide)
  unfold s_lend fL_lend
  apply s_okr
  rcases room_c h a1 with ⟨k, hk, rfl, e1, e2⟩ | ⟨e1, e2⟩
  rotate_left
  · obtain ⟨q1, q2⟩ := failM hR1 1
    refine Or.inr ⟨1, 1, 0, _, ?_, rfl, by decide, ?_, q2.2.2.2, Inv.ro h h2 (fun _ _ _ _ => rfl) q2⟩
    · simp only [fX10_lend, bnd_s, pw_s, rd_0, rd_1, rd_2, rd_3, rd_4, rd_5, rd_6, wr_0, wr_1, wr_2, wr_3, wr_4, wr_5, zb_0, zb_1, Nat.reduceLT, Nat.reducePow, e1, sm]
    · simp only [fX11_lend, bnd_s, pw_s, rd_0, rd_1, rd_2, rd_3, rd_4, rd_5, rd_6, wr_0, wr_1, wr_2, wr_3, wr_4, wr_5, zb_0, zb_1, Nat.reduceLT, Nat.reducePow, e2 _ hF1, q1, if_true]
  have n1 : ¬ (1 : Int32) = 0 := by decide
  have E2 := e2 _ hF1
  have H1 : hc 44 k = aD A k := (hR.2.1 k hk).1
  have R2 := (m1.2.2.1.2.1 k hk).1
  by_cases c : 0 < M 3 5 - aD A k
  · obtain ⟨v, w, v1, w1, vw⟩ := lp2_cnt (b1 := fX10_lend_34 hc (nI k) (M 3 5 - aD A k)) (b2 := fX11_lend_35 (up2 hm 0 2 0) (nI k) (M 3 5 - aD A k)) (s := (0 : Int32)) (t := (0 : Int32)) (Q := fun v w => v = w) (fun i s t => s = nI i ∧ t = nI i) (nR M) (by omega) (by
      rintro i s t hi ⟨rfl, rfl⟩
      have q1 := nI_ge hi (show nR M < 2 ^ 31 by omega)
      have cl : ¬ M 3 5 - aD A k ≤ 0 := Int32.not_le.mpr c
      have H1 : hc 44 i = aD A i := (hR.2.1 i hi).1
      have R2 := (m1.2.2.1.2.1 i hi).1
      obtain ⟨v, hv, d1, d2, d3⟩ := door_c hB hCF hF1 (show k < 9 by omega) (show i < 9 by omega)
      by_cases cv : v = 0
      · refine Or.inl ⟨nI i + 1, nI i + 1, ?_, ?_, nI_1 i, nI_1 i⟩
        · simp only [fX10_lend_34, fX10_lend_83, bnd_s, pw_s, rd_0, rd_1, rd_2, rd_3, rd_4, rd_5, rd_6, wr_0, wr_1, wr_2, wr_3, wr_4, wr_5, zb_0, zb_1, Nat.reduceLT, Nat.reducePow, rff, f0, if_neg q1, d1, if_pos cv]
        · simp only [fX11_lend_35, fX11_lend_77, bnd_s, pw_s, rd_0, rd_1, rd_2, rd_3, rd_4, rd_5, rd_6, wr_0, wr_1, wr_2, wr_3, wr_4, wr_5, zb_0, zb_1, Nat.reduceLT, Nat.reducePow, g3, b0, if_neg q1, if_neg cl, d3, if_pos cv]
      · by_cases c2 : aD A i - (M 3 5 - aD A k) < M 3 5
        · refine Or.inl ⟨nI i + 1, nI i + 1, ?_, ?_, nI_1 i, nI_1 i⟩
          · simp only [fX10_lend_34, fX10_lend_83, bnd_s, pw_s, rd_0, rd_1, rd_2, rd_3, rd_4, rd_5, rd_6, wr_0, wr_1, wr_2, wr_3, wr_4, wr_5, zb_0, zb_1, Nat.reduceLT, Nat.reducePow, rff, f0, if_neg q1, d1, if_neg cv, rd_k (n := 9) (show i < 9 by omega), H1, f16, if_pos c2]
          · simp only [fX11_lend_35, fX11_lend_77, bnd_s, pw_s, rd_0, rd_1, rd_2, rd_3, rd_4, rd_5, rd_6, wr_0, wr_1, wr_2, wr_3, wr_4, wr_5, zb_0, zb_1, Nat.reduceLT, Nat.reducePow, g3, b0, if_neg q1, if_neg cl, d3, if_neg cv, rd_k (n := 9) (show i < 9 by omega), R2, if_pos c2]
        · refine Or.inr ⟨.inl (nI i), .inl (nI i), ?_, ?_, rfl⟩
          · simp only [fX10_lend_34, fX10_lend_83, bnd_s, pw_s, rd_0, rd_1, rd_2, rd_3, rd_4, rd_5, rd_6, wr_0, wr_1, wr_2, wr_3, wr_4, wr_5, zb_0, zb_1, Nat.reduceLT, Nat.reducePow, rff, f0, if_neg q1, d1, if_neg cv, rd_k (n := 9) (show i < 9 by omega), H1, f16, if_neg c2]
          · simp only [fX11_lend_35, fX11_lend_77, bnd_s, pw_s, rd_0, rd_1, rd_2, rd_3, rd_4, rd_5, rd_6, wr_0, wr_1, wr_2, wr_3, wr_4, wr_5, zb_0, zb_1, Nat.reduceLT, Nat.reducePow, g3, b0, if_neg q1, if_neg cl, d3, if_neg cv, rd_k (n := 9) (show i < 9 by omega), R2, if_neg c2]) (by
      rintro s t ⟨rfl, rfl⟩
      refine ⟨.inr (), .inr (), ?_, ?_, rfl⟩
      · simp only [fX10_lend_34, bnd_s, pw_s, rd_0, rd_1, rd_2, rd_3, rd_4, rd_5, rd_6, wr_0, wr_1, wr_2, wr_3, wr_4, wr_5, zb_0, zb_1, Nat.reduceLT, Nat.reducePow, rff, f0, Int32.le_refl, if_true]
      · simp only [fX11_lend_35, bnd_s, pw_s, rd_0, rd_1, rd_2, rd_3, rd_4, rd_5, rd_6, wr_0, wr_1, wr_2, wr_3, wr_4, wr_5, zb_0, zb_1, Nat.reduceLT, Nat.reducePow, g3, b0, Int32.le_refl, if_true]) ⟨rfl, rfl⟩
    subst vw
    rcases v with v | v
    · refine Or.inl ⟨v, _, ?_, ?_, m1.2.2.2, Inv.ro h h2 (fun _ _ _ _ => rfl) m1⟩
      · simp only [fX10_lend, bnd_s, pw_s, rd_0, rd_1, rd_2, rd_3, rd_4, rd_5, rd_6, wr_0, wr_1, wr_2, wr_3, wr_4, wr_5, zb_0, zb_1, Nat.reduceLT, Nat.reducePow, e1, sm, rff, rd_k (n := 9) (show k < 9 by omega), H1, f16, if_pos c, v1]
      · simp only [fX11_lend, bnd_s, pw_s, rd_0, rd_1, rd_2, rd_3, rd_4, rd_5, rd_6, wr_0, wr_1, wr_2, wr_3, wr_4, wr_5, zb_0, zb_1, Nat.reduceLT, Nat.reducePow, E2, if_neg n1, g3, rd_k (n := 9) (show k < 9 by omega), R2, w1, sm]
    · refine Or.inl ⟨-1, _, ?_, ?_, m1.2.2.2, Inv.ro h h2 (fun _ _ _ _ => rfl) m1⟩
      · simp only [fX10_lend, bnd_s, pw_s, rd_0, rd_1, rd_2, rd_3, rd_4, rd_5, rd_6, wr_0, wr_1, wr_2, wr_3, wr_4, wr_5, zb_0, zb_1, Nat.reduceLT, Nat.reducePow, e1, sm, rff, rd_k (n := 9) (show k < 9 by omega), H1, f16, if_pos c, v1]
      · simp only [fX11_lend, fX11_lend_83, bnd_s, pw_s, rd_0, rd_1, rd_2, rd_3, rd_4, rd_5, rd_6, wr_0, wr_1, wr_2, wr_3, wr_4, wr_5, zb_0, zb_1, Nat.reduceLT, Nat.reducePow, E2, if_neg n1, g3, rd_k (n := 9) (show k < 9 by omega), R2, w1, sm]
  · have w1 : lp FU (fX11_lend_35 (up2 hm 0 2 0) (nI k) (M 3 5 - aD A k)) 0 = some (.inr ()) := by
      refine lp_r (n := 999999999) ?_
      simp only [fX11_lend_35, bnd_s, pw_s, rd_0, rd_1, rd_2, rd_3, rd_4, rd_5, rd_6, wr_0, wr_1, wr_2, wr_3, wr_4, wr_5, zb_0, zb_1, Nat.reduceLT, Nat.reducePow, g3, b0, if_neg (show ¬ nI (nR M) ≤ 0 from nI_nle (by omega) (by omega)), if_pos (Int32.not_lt.mp c)]
    refine Or.inl ⟨-1, _, ?_, ?_, m1.2.2.2, Inv.ro h h2 (fun _ _ _ _ => rfl) m1⟩
    · simp only [fX10_lend, bnd_s, pw_s, rd_0, rd_1, rd_2, rd_3, rd_4, rd_5, rd_6, wr_0, wr_1, wr_2, wr_3, wr_4, wr_5, zb_0, zb_1, Nat.reduceLT, Nat.reducePow, e1, sm, rff, rd_k (n := 9) (show k < 9 by omega), H1, f16, if_neg c]
    · simp only [fX11_lend, fX11_lend_83, bnd_s, pw_s, rd_0, rd_1, rd_2, rd_3, rd_4, rd_5, rd_6, wr_0, wr_1, wr_2, wr_3, wr_4, wr_5, zb_0, zb_1, Nat.reduceLT, Nat.reducePow, E2, if_neg n1, g3, rd_k (n := 9) (show k < 9 by omega), R2, w1, sm]
theorem lt6 {a : Int32} : a < 6 ↔ a ≤ 5 := by
  rw [Int32.lt_iff_toInt_lt, Int32.le_iff_toInt_le]
  show a.toInt < 6 ↔ a.toInt ≤ 5
  omega
def ricS (M : ST) (D : Nat → Int32) (x : Int32) : Nat → Int32
  | 0 => 0
  | i + 1 => if M 5 i = x then ricS M D x i + D i else ricS M D x i
theorem t_riches {hc hm : ST} (hI : Inv hc hm) (a1 : Int32) : ∃ y, s_riches hc hm a1 = some y ∧ Inv y.1 y.2 := by
  obtain ⟨f, M, A, h, h2⟩ := hI
  obtain ⟨hf, h0, hB, hF, hCF, hR, hR1, hA⟩ := id h
  have b0 := hB.1.1
  have h9 := hB.1.2.1
  have m1 := codeM (M := M) hR1
  have hF1 := fm_up hF 2 0
  have rff := rf_f hf h0
  have f0 : hc f 0 = nI (nR M) := hCF.1.1.trans b0
  have g3 : up2 hm 0 2 0 3 = M 3 := hF1 3 (by decide)
  have g5 : up2 hm 0 2 0 5 = M 5 := hF1 5 (by decide)
  unfold s_riches fL_riches
  apply s_okr
  by_cases c : 0 ≤ a1 ∧ a1 ≤ 5
  rotate_left
  · obtain ⟨q1, q2⟩ := failM hR1 1
    refine Or.inr ⟨1, 1, 0, _, ?_, rfl, by decide, ?_, q2.2.2.2, Inv.ro h h2 (fun _ _ _ _ => rfl) q2⟩
    · by_cases c1 : a1 < 0
      · simp only [fX10_riches, fX10_riches_10, if_pos c1]
      · simp only [fX10_riches, fX10_riches_10, if_neg c1, if_neg (fun q => c ⟨Int32.not_lt.mp c1, lt6.mp q⟩)]
    · simp only [fX11_riches, bnd_s, pw_s, rd_0, rd_1, rd_2, rd_3, rd_4, rd_5, rd_6, wr_0, wr_1, wr_2, wr_3, wr_4, wr_5, zb_0, zb_1, Nat.reduceLT, Nat.reducePow, show (0 : Int64) = (0 : Int32).toInt64 from rfl, show (5 : Int64) = (5 : Int32).toInt64 from rfl, isIn_n c, q1, if_true]
  have lc : lp FU (fX10_riches_22 hc a1) (0, 0) = some (ricS M (aD A) a1 (nR M)) := by
    refine lp_det (b := fX10_riches_22 hc a1) (fun i => (ricS M (aD A) a1 i, nI i)) (nR M) (by omega) (fun i hi => ?_) ?_
    · have q1 := nI_ge hi (show nR M < 2 ^ 31 by omega)
      have H1 : hc 44 i = aD A i := (hR.2.1 i hi).1
      have H2 := (hCF.2.1 i hi).2.1
      by_cases c : M 5 i = a1
      · simp only [fX10_riches_22, fX10_riches_61, bnd_s, pw_s, rd_0, rd_1, rd_2, rd_3, rd_4, rd_5, rd_6, wr_0, wr_1, wr_2, wr_3, wr_4, wr_5, zb_0, zb_1, Nat.reduceLT, Nat.reducePow, rff, f0, if_neg q1, rd_k (n := 9) (show i < 9 by omega), H1, H2, if_pos c, nI_1, ricS]
      · simp only [fX10_riches_22, fX10_riches_61, bnd_s, pw_s, rd_0, rd_1, rd_2, rd_3, rd_4, rd_5, rd_6, wr_0, wr_1, wr_2, wr_3, wr_4, wr_5, zb_0, zb_1, Nat.reduceLT, Nat.reducePow, rff, f0, if_neg q1, rd_k (n := 9) (show i < 9 by omega), H2, if_neg c, nI_1, ricS]
    · simp only [fX10_riches_22, bnd_s, pw_s, rd_0, rd_1, rd_2, rd_3, rd_4, rd_5, rd_6, wr_0, wr_1, wr_2, wr_3, wr_4, wr_5, zb_0, zb_1, Nat.reduceLT, Nat.reducePow, rff, f0, Int32.le_refl, if_true]
  have lm : lp FU (fX11_riches_27 (up2 hm 0 2 0) a1) (0, 0) = some (ricS M (aD A) a1 (nR M)) := by
    refine lp_det (b := fX11_riches_27 (up2 hm 0 2 0) a1) (fun i => (ricS M (aD A) a1 i, nI i)) (nR M) (by omega) (fun i hi => ?_) ?_
    · have q1 := nI_ge hi (show nR M < 2 ^ 31 by omega)
      have R2 := (m1.2.2.1.2.1 i hi).1
      by_cases c : M 5 i = a1
      · simp only [fX11_riches_27, fX11_riches_58, bnd_s, pw_s, rd_0, rd_1, rd_2, rd_3, rd_4, rd_5, rd_6, wr_0, wr_1, wr_2, wr_3, wr_4, wr_5, zb_0, zb_1, Nat.reduceLT, Nat.reducePow, g3, g5, b0, if_neg q1, rd_k (n := 9) (show i < 9 by omega), rd_k (n := 18) (show i < 18 by omega), R2, if_pos c, nI_1, ricS]
      · simp only [fX11_riches_27, fX11_riches_58, bnd_s, pw_s, rd_0, rd_1, rd_2, rd_3, rd_4, rd_5, rd_6, wr_0, wr_1, wr_2, wr_3, wr_4, wr_5, zb_0, zb_1, Nat.reduceLT, Nat.reducePow, g3, g5, b0, if_neg q1, rd_k (n := 18) (show i < 18 by omega), if_neg c, nI_1, ricS, Int32.add_zero]
    · simp only [fX11_riches_27, bnd_s, pw_s, rd_0, rd_1, rd_2, rd_3, rd_4, rd_5, rd_6, wr_0, wr_1, wr_2, wr_3, wr_4, wr_5, zb_0, zb_1, Nat.reduceLT, Nat.reducePow, g3, b0, Int32.le_refl, if_true]
  refine Or.inl ⟨ricS M (aD A) a1 (nR M), _, ?_, ?_, m1.2.2.2, Inv.ro h h2 (fun _ _ _ _ => rfl) m1⟩
  · simp only [fX10_riches, bnd_s, pw_s, rd_0, rd_1, rd_2, rd_3, rd_4, rd_5, rd_6, wr_0, wr_1, wr_2, wr_3, wr_4, wr_5, zb_0, zb_1, Nat.reduceLT, Nat.reducePow, if_neg (Int32.not_lt.mpr c.1), if_pos (lt6.mpr c.2), lc]
  · simp only [fX11_riches, bnd_s, pw_s, rd_0, rd_1, rd_2, rd_3, rd_4, rd_5, rd_6, wr_0, wr_1, wr_2, wr_3, wr_4, wr_5, zb_0, zb_1, Nat.reduceLT, Nat.reducePow, show (0 : Int64) = (0 : Int32).toInt64 from rfl, show (5 : Int64) = (5 : Int32).toInt64 from rfl, isIn_y c.1 c.2, if_neg (show ¬ (1 : Int32) = 0 by decide), lm]
/-! the game -/
def lossV (M : ST) (x y a b : Int32) : Int32 := (if (x - a * (x / 2)) + b * (y / 2) < 9999 then (x - a * (x / 2)) + b * (y / 2) else 9999) / 10 + (if M 3 5 ≤ (if (x - a * (x / 2)) + b * (y / 2) < 9999 then (x - a * (x / 2)) + b * (y / 2) else 9999) then 0 else 20)
theorem lossC {f : Nat} (hf : f = 2 ∨ f = 20) {M hc : ST} (h0 : hc 0 3 = nI f) (hCF : CF f M hc) (x y a b : Int32) : fX10_lossOf hc x y a b = some (lossV M x y a b) := by
  have f16 : hc f 16 = M 3 5 := hCF.1.2.2.2.2.2.1
  unfold fX10_lossOf fX10_lossOf_45 lossV
  rw [rf_f hf h0, bnd_s, f16]
  generalize (if (x - a * (x / 2)) + b * (y / 2) < 9999 then (x - a * (x / 2)) + b * (y / 2) else 9999) = v
  by_cases c : M 3 5 ≤ v
  · rw [if_pos c, if_pos c]
  · rw [if_neg c, if_neg c]
theorem lossM {M h : ST} {A : AS} (hF : FM M h) (h9 : nR M ≤ 9) (hR : RM1 M A h) {p q : Nat} (hp : p < nR M) (hq : q < nR M) (a b : Int32) : fX11_loss h (nI p) (nI q) a b = some (lossV M (aD A p) (aD A q) a b) := by
  have f3 : h 3 = M 3 := hF 3 (by decide)
  unfold fX11_loss fX11_loss_59 lossV
  rw [rd_k (n := 9) (show p < 9 by omega), bnd_s, bnd_s, rd_k (n := 9) (show q < 9 by omega), bnd_s, rd_5 (by decide) (by decide), bnd_s, f3, (hR.2.1 p hp).1, (hR.2.1 q hq).1]
  generalize (if (aD A p - a * (aD A p / 2)) + b * (aD A q / 2) < 9999 then (aD A p - a * (aD A p / 2)) + b * (aD A q / 2) else 9999) = v
  by_cases c : M 3 5 ≤ v
  · rw [if_pos c, if_pos c]
  · rw [if_neg c, if_neg c]
theorem lowC {f : Nat} (hf : f = 2 ∨ f = 20) {M hc : ST} (hB : FB M) (h0 : hc 0 3 = nI f) (hCF : CF f M hc) (x : Int32) : ∃ v, fX10_lowestRoom hc x = some v ∧ FirstV (fun k => M 5 k = x) (nR M) v := by
  have f0 : hc f 0 = nI (nR M) := hCF.1.1.trans hB.1.1
  have h9 := hB.1.2.1
  have rff := rf_f hf h0
  obtain ⟨z, x1, v, x2, x3⟩ := lp_cnt (b := fX10_lowestRoom_2 hc x) (s := (0 : Int32)) (Q := fun z => ∃ v, (z = .inl v ∨ (z = .inr () ∧ v = -1)) ∧ FirstV (fun k => M 5 k = x) (nR M) v) (fun i q => q = nI i ∧ ∀ j, j < i → ¬ M 5 j = x) (nR M) (by omega) (by
    rintro i k hi ⟨rfl, g2⟩
    have q1 := nI_ge hi (show nR M < 2 ^ 31 by omega)
    have H2 := (hCF.2.1 i hi).2.1
    by_cases c : M 5 i = x
    · refine Or.inr ⟨.inl (nI i), ?_, nI i, Or.inl rfl, Or.inl ⟨i, hi, rfl, c, g2⟩⟩
      simp only [fX10_lowestRoom_2, bnd_s, pw_s, rd_0, rd_1, rd_2, rd_3, rd_4, rd_5, rd_6, wr_0, wr_1, wr_2, wr_3, wr_4, wr_5, zb_0, zb_1, Nat.reduceLT, Nat.reducePow, rff, f0, if_neg q1, rd_k (n := 9) (show i < 9 by omega), H2, if_pos c]
    · refine Or.inl ⟨nI i + 1, ?_, nI_1 i, fun j hj => ?_⟩
      · simp only [fX10_lowestRoom_2, bnd_s, pw_s, rd_0, rd_1, rd_2, rd_3, rd_4, rd_5, rd_6, wr_0, wr_1, wr_2, wr_3, wr_4, wr_5, zb_0, zb_1, Nat.reduceLT, Nat.reducePow, rff, f0, if_neg q1, rd_k (n := 9) (show i < 9 by omega), H2, if_neg c]
      · by_cases c3 : j = i
        · subst c3; exact c
        · exact g2 j (by omega)) (by
    rintro k ⟨rfl, g2⟩
    refine ⟨.inr (), ?_, -1, Or.inr ⟨rfl, rfl⟩, Or.inr ⟨rfl, g2⟩⟩
    simp only [fX10_lowestRoom_2, bnd_s, pw_s, rd_0, rd_1, rd_2, rd_3, rd_4, rd_5, rd_6, wr_0, wr_1, wr_2, wr_3, wr_4, wr_5, zb_0, zb_1, Nat.reduceLT, Nat.reducePow, rff, f0, Int32.le_refl, if_true]) ⟨rfl, fun j hj => absurd hj (Nat.not_lt_zero j)⟩
  refine ⟨v, ?_, x3⟩
  rcases x2 with rfl | ⟨rfl, rfl⟩ <;> simp only [fX10_lowestRoom, x1, bnd_s, sm]
theorem lowM {M h : ST} (hB : FB M) (hF : FM M h) (x : Int32) : ∃ v, fX11_lowest h x = some v ∧ FirstV (fun k => M 5 k = x) (nR M) v := by
  have b0 := hB.1.1
  have h9 := hB.1.2.1
  have f3 : h 3 = M 3 := hF 3 (by decide)
  have f5 : h 5 = M 5 := hF 5 (by decide)
  obtain ⟨z, x1, v, x2, x3⟩ := lp_cnt (b := fX11_lowest_2 h x) (s := (0 : Int32)) (Q := fun z => ∃ v, (z = .inl v ∨ (z = .inr () ∧ v = -1)) ∧ FirstV (fun k => M 5 k = x) (nR M) v) (fun i q => q = nI i ∧ ∀ j, j < i → ¬ M 5 j = x) (nR M) (by omega) (by
    rintro i k hi ⟨rfl, g2⟩
    have q1 := nI_ge hi (show nR M < 2 ^ 31 by omega)
    by_cases c : M 5 i = x
    · refine Or.inr ⟨.inl (nI i), ?_, nI i, Or.inl rfl, Or.inl ⟨i, hi, rfl, c, g2⟩⟩
      simp only [fX11_lowest_2, bnd_s, pw_s, rd_0, rd_1, rd_2, rd_3, rd_4, rd_5, rd_6, wr_0, wr_1, wr_2, wr_3, wr_4, wr_5, zb_0, zb_1, Nat.reduceLT, Nat.reducePow, f3, b0, if_neg q1, rd_k (n := 18) (show i < 18 by omega), f5, if_pos c]
    · refine Or.inl ⟨nI i + 1, ?_, nI_1 i, fun j hj => ?_⟩
      · simp only [fX11_lowest_2, bnd_s, pw_s, rd_0, rd_1, rd_2, rd_3, rd_4, rd_5, rd_6, wr_0, wr_1, wr_2, wr_3, wr_4, wr_5, zb_0, zb_1, Nat.reduceLT, Nat.reducePow, f3, b0, if_neg q1, rd_k (n := 18) (show i < 18 by omega), f5, if_neg c]
      · by_cases c3 : j = i
        · subst c3; exact c
        · exact g2 j (by omega)) (by
    rintro k ⟨rfl, g2⟩
    refine ⟨.inr (), ?_, -1, Or.inr ⟨rfl, rfl⟩, Or.inr ⟨rfl, g2⟩⟩
    simp only [fX11_lowest_2, bnd_s, pw_s, rd_0, rd_1, rd_2, rd_3, rd_4, rd_5, rd_6, wr_0, wr_1, wr_2, wr_3, wr_4, wr_5, zb_0, zb_1, Nat.reduceLT, Nat.reducePow, f3, b0, Int32.le_refl, if_true]) ⟨rfl, fun j hj => absurd hj (Nat.not_lt_zero j)⟩
  refine ⟨v, ?_, x3⟩
  rcases x2 with rfl | ⟨rfl, rfl⟩ <;> simp only [fX11_lowest, x1, bnd_s, sm]
theorem c4_bits {i : Nat} (hi : i < 4) : nI i >>> ((1 : Int32) &&& 31) = nI (i / 2) ∧ nI i &&& 1 = nI (i % 2) ∧ nI i / 2 = nI (i / 2) ∧ nI i - nI (i / 2) * 2 = nI (i % 2) := by
  rcases (show i = 0 ∨ i = 1 ∨ i = 2 ∨ i = 3 by omega) with rfl | rfl | rfl | rfl <;> decide
theorem t_game {hc hm : ST} (hI : Inv hc hm) (a1 a2 a3 : Int32) : ∃ y, s_game hc hm a1 a2 a3 = some y ∧ Inv y.1 y.2 := by
  obtain ⟨f, M, A, h, h2⟩ := hI
  obtain ⟨hf, h0, hB, hF, hCF, hR, hR1, hA⟩ := id h
  have h9 := hB.1.2.1
  have m1 := codeM (M := M) hR1
  have hF1 := fm_up hF 2 0
  unfold s_game fL_game
  apply s_okr
  have z0 : (0 : Int64) = (0 : Int32).toInt64 := rfl
  have z5 : (5 : Int64) = (5 : Int32).toInt64 := rfl
  have n1 : ¬ (1 : Int32) = 0 := by decide
  by_cases c3 : 0 ≤ a3 ∧ a3 ≤ 1
  rotate_left
  · obtain ⟨q1, q2⟩ := failM hR1 1
    refine Or.inr ⟨1, 1, 0, _, ?_, rfl, by decide, ?_, q2.2.2.2, Inv.ro h h2 (fun _ _ _ _ => rfl) q2⟩
    · by_cases c : a3 < 0
      · simp only [fX10_game, fX10_game_9, if_pos c]
      · simp only [fX10_game, fX10_game_9, if_neg c, if_neg (fun q => c3 ⟨Int32.not_lt.mp c, q⟩)]
    · by_cases c : a3 < 0
      · simp only [fX11_game, fX11_game_14, bnd_s, pw_s, rd_0, rd_1, rd_2, rd_3, rd_4, rd_5, rd_6, wr_0, wr_1, wr_2, wr_3, wr_4, wr_5, zb_0, zb_1, Nat.reduceLT, Nat.reducePow, if_pos c, q1]
      · simp only [fX11_game, fX11_game_14, bnd_s, pw_s, rd_0, rd_1, rd_2, rd_3, rd_4, rd_5, rd_6, wr_0, wr_1, wr_2, wr_3, wr_4, wr_5, zb_0, zb_1, Nat.reduceLT, Nat.reducePow, if_neg c, if_neg (fun q => c3 ⟨Int32.not_lt.mp c, q⟩), q1]
  have p3 : ¬ a3 < 0 := Int32.not_lt.mpr c3.1
  obtain ⟨q1, q2⟩ := failM hR1 2
  have bad : fX10_game hc a1 a2 a3 = some (.inr 2) → fX11_game hm a1 a2 a3 = some (0, up2 (up2 hm 0 2 0) 0 2 2) → (∃ v hm1, fX10_game hc a1 a2 a3 = some (.inl v) ∧ fX11_game hm a1 a2 a3 = some (v, hm1) ∧ hm1 0 2 = 0 ∧ Inv hc hm1) ∨ ∃ k c u hm1, fX10_game hc a1 a2 a3 = some (.inr k) ∧ cdB k = some c ∧ ¬ c = 0 ∧ fX11_game hm a1 a2 a3 = some (u, hm1) ∧ hm1 0 2 = c ∧ Inv hc hm1 := fun x y => Or.inr ⟨2, 2, 0, _, x, rfl, by decide, y, q2.2.2.2, Inv.ro h h2 (fun _ _ _ _ => rfl) q2⟩
  by_cases c1 : 0 ≤ a1 ∧ a1 ≤ 5
  rotate_left
  · refine bad ?_ ?_
    · by_cases c : a1 < 0
      · simp only [fX10_game, fX10_game_42, if_neg p3, if_pos c3.2, if_pos c]
      · simp only [fX10_game, fX10_game_42, if_neg p3, if_pos c3.2, if_neg c, if_pos (Int32.not_lt.mp (fun q => c1 ⟨Int32.not_lt.mp c, lt6.mp q⟩))]
    · simp only [fX11_game, fX11_game_49, bnd_s, pw_s, rd_0, rd_1, rd_2, rd_3, rd_4, rd_5, rd_6, wr_0, wr_1, wr_2, wr_3, wr_4, wr_5, zb_0, zb_1, Nat.reduceLT, Nat.reducePow, if_neg p3, if_pos c3.2, z0, z5, isIn_n c1, if_true, q1]
  have p1 : ¬ a1 < 0 := Int32.not_lt.mpr c1.1
  have p1b : ¬ (6 : Int32) ≤ a1 := Int32.not_le.mpr (lt6.mpr c1.2)
  by_cases c2 : 0 ≤ a2 ∧ a2 ≤ 5
  rotate_left
  · refine bad ?_ ?_
    · by_cases c : a2 < 0
      · simp only [fX10_game, fX10_game_42, if_neg p3, if_pos c3.2, if_neg p1, if_neg p1b, if_pos c]
      · simp only [fX10_game, fX10_game_42, if_neg p3, if_pos c3.2, if_neg p1, if_neg p1b, if_neg c, if_pos (Int32.not_lt.mp (fun q => c2 ⟨Int32.not_lt.mp c, lt6.mp q⟩))]
    · simp only [fX11_game, fX11_game_49, bnd_s, pw_s, rd_0, rd_1, rd_2, rd_3, rd_4, rd_5, rd_6, wr_0, wr_1, wr_2, wr_3, wr_4, wr_5, zb_0, zb_1, Nat.reduceLT, Nat.reducePow, if_neg p3, if_pos c3.2, z0, z5, isIn_y c1.1 c1.2, if_neg n1, isIn_n c2, if_true, q1]
  have p2 : ¬ a2 < 0 := Int32.not_lt.mpr c2.1
  have p2b : ¬ (6 : Int32) ≤ a2 := Int32.not_le.mpr (lt6.mpr c2.2)
  by_cases c4 : a1 = a2
  · refine bad ?_ ?_
    · simp only [fX10_game, fX10_game_42, if_neg p3, if_pos c3.2, if_neg p1, if_neg p1b, if_neg p2, if_neg p2b, if_pos c4]
    · simp only [fX11_game, fX11_game_49, bnd_s, pw_s, rd_0, rd_1, rd_2, rd_3, rd_4, rd_5, rd_6, wr_0, wr_1, wr_2, wr_3, wr_4, wr_5, zb_0, zb_1, Nat.reduceLT, Nat.reducePow, if_neg p3, if_pos c3.2, z0, z5, isIn_y c1.1 c1.2, isIn_y c2.1 c2.2, if_neg n1, if_pos c4, q1]
  obtain ⟨v, v1, v2⟩ := lowC hf hB h0 hCF a1
  obtain ⟨v', v3, v4⟩ := lowM hB hF1 a1
  obtain rfl := v2.uniq v4
  obtain ⟨w, w1, w2⟩ := lowC hf hB h0 hCF a2
  obtain ⟨w', w3, w4⟩ := lowM hB hF1 a2
  obtain rfl := w2.uniq w4
  have R1 := m1.2.2.1
  obtain ⟨x, y, x1, y1, xy⟩ := lp2_cnt (b1 := fX10_game_73 hc a3 v w) (b2 := fX11_game_78 (up2 hm 0 2 0) a3 v w) (s := (0, -1, 0)) (t := (0, -1, 0)) (Q := fun x y => x = y) (fun i s t => s = t ∧ s.2.2 = nI i) 4 (by decide) (by
    rintro i ⟨n, b, k⟩ t hi ⟨rfl, g2⟩
    obtain rfl : k = nI i := g2
    have q4 : ¬ (4 : Int32) ≤ nI i := nI_ge (b := 4) hi (by decide)
    rcases v2 with ⟨p, hp, rfl, -, -⟩ | ⟨rfl, -⟩
    rotate_left
    · refine Or.inr ⟨(n, b), (n, b), ?_, ?_, rfl⟩
      · simp only [fX10_game_73, if_neg q4, if_true]
      · simp only [fX11_game_78, if_neg q4, if_true]
    have np : ¬ nI p = -1 := nI_m1ne (by omega)
    rcases w2 with ⟨q, hq, rfl, -, -⟩ | ⟨rfl, -⟩
    rotate_left
    · refine Or.inr ⟨(n, b), (n, b), ?_, ?_, rfl⟩
      · simp only [fX10_game_73, if_neg q4, if_neg np, if_true]
      · simp only [fX11_game_78, if_neg q4, if_neg np, if_true]
    have nq : ¬ nI q = -1 := nI_m1ne (by omega)
    have H1 : hc 44 p = aD A p := (hR.2.1 p hp).1
    have H2 : hc 44 q = aD A q := (hR.2.1 q hq).1
    obtain ⟨b1, b2, b3, b4⟩ := c4_bits hi
    refine Or.inl ?_
    by_cases d1 : lossV M (aD A p) (aD A q) (1 - nI (i / 2)) (nI (i % 2)) < lossV M (aD A p) (aD A q) (nI (i / 2)) (nI (i % 2))
    · refine ⟨(n, b, nI i + 1), (n, b, nI i + 1), ?_, ?_, rfl, nI_1 i⟩
      · simp only [fX10_game_73, fX10_game_155, fX10_rests, fX10_rests_50, fX10_rests_51, bnd_s, pw_s, rd_0, rd_1, rd_2, rd_3, rd_4, rd_5, rd_6, wr_0, wr_1, wr_2, wr_3, wr_4, wr_5, zb_0, zb_1, Nat.reduceLT, Nat.reducePow, if_neg q4, if_neg np, if_neg nq, rd_k (n := 9) (show p < 9 by omega), rd_k (n := 9) (show q < 9 by omega), H1, H2, b1, b2, lossC hf h0 hCF, if_pos d1, if_true]
      · simp only [fX11_game_78, fX11_game_193, bnd_s, pw_s, rd_0, rd_1, rd_2, rd_3, rd_4, rd_5, rd_6, wr_0, wr_1, wr_2, wr_3, wr_4, wr_5, zb_0, zb_1, Nat.reduceLT, Nat.reducePow, if_neg q4, if_neg np, if_neg nq, b3, b4, lossM hF1 h9 R1 hp hq, if_pos d1]
    · by_cases d2 : lossV M (aD A q) (aD A p) (1 - nI (i % 2)) (nI (i / 2)) < lossV M (aD A q) (aD A p) (nI (i % 2)) (nI (i / 2))
      · refine ⟨(n, b, nI i + 1), (n, b, nI i + 1), ?_, ?_, rfl, nI_1 i⟩
        · simp only [fX10_game_73, fX10_game_155, fX10_rests, fX10_rests_50, fX10_rests_51, bnd_s, pw_s, rd_0, rd_1, rd_2, rd_3, rd_4, rd_5, rd_6, wr_0, wr_1, wr_2, wr_3, wr_4, wr_5, zb_0, zb_1, Nat.reduceLT, Nat.reducePow, if_neg q4, if_neg np, if_neg nq, rd_k (n := 9) (show p < 9 by omega), rd_k (n := 9) (show q < 9 by omega), H1, H2, b1, b2, lossC hf h0 hCF, if_neg d1, if_pos d2, if_true]
        · simp only [fX11_game_78, fX11_game_193, bnd_s, pw_s, rd_0, rd_1, rd_2, rd_3, rd_4, rd_5, rd_6, wr_0, wr_1, wr_2, wr_3, wr_4, wr_5, zb_0, zb_1, Nat.reduceLT, Nat.reducePow, if_neg q4, if_neg np, if_neg nq, b3, b4, lossM hF1 h9 R1 hp hq, lossM hF1 h9 R1 hq hp, if_neg d1, if_neg (Int32.not_le.mpr d2)]
      · by_cases d3 : b = -1
        · refine ⟨(n + 1, 10 * nI (i / 2) + nI (i % 2), nI i + 1), (n + 1, 10 * nI (i / 2) + nI (i % 2), nI i + 1), ?_, ?_, rfl, nI_1 i⟩
          · simp only [fX10_game_73, fX10_game_155, fX10_rests, fX10_rests_50, fX10_rests_51, bnd_s, pw_s, rd_0, rd_1, rd_2, rd_3, rd_4, rd_5, rd_6, wr_0, wr_1, wr_2, wr_3, wr_4, wr_5, zb_0, zb_1, Nat.reduceLT, Nat.reducePow, if_neg q4, if_neg np, if_neg nq, rd_k (n := 9) (show p < 9 by omega), rd_k (n := 9) (show q < 9 by omega), H1, H2, b1, b2, lossC hf h0 hCF, if_neg d1, if_neg d2, if_neg n1, if_pos d3]
          · simp only [fX11_game_78, fX11_game_191, fX11_game_193, bnd_s, pw_s, rd_0, rd_1, rd_2, rd_3, rd_4, rd_5, rd_6, wr_0, wr_1, wr_2, wr_3, wr_4, wr_5, zb_0, zb_1, Nat.reduceLT, Nat.reducePow, if_neg q4, if_neg np, if_neg nq, b3, b4, lossM hF1 h9 R1 hp hq, lossM hF1 h9 R1 hq hp, if_neg d1, if_pos (Int32.not_lt.mp d2), if_pos d3]
        · refine ⟨(n + 1, b, nI i + 1), (n + 1, b, nI i + 1), ?_, ?_, rfl, nI_1 i⟩
          · simp only [fX10_game_73, fX10_game_155, fX10_rests, fX10_rests_50, fX10_rests_51, bnd_s, pw_s, rd_0, rd_1, rd_2, rd_3, rd_4, rd_5, rd_6, wr_0, wr_1, wr_2, wr_3, wr_4, wr_5, zb_0, zb_1, Nat.reduceLT, Nat.reducePow, if_neg q4, if_neg np, if_neg nq, rd_k (n := 9) (show p < 9 by omega), rd_k (n := 9) (show q < 9 by omega), H1, H2, b1, b2, lossC hf h0 hCF, if_neg d1, if_neg d2, if_neg n1, if_neg d3]
          · simp only [fX11_game_78, fX11_game_191, fX11_game_193, bnd_s, pw_s, rd_0, rd_1, rd_2, rd_3, rd_4, rd_5, rd_6, wr_0, wr_1, wr_2, wr_3, wr_4, wr_5, zb_0, zb_1, Nat.reduceLT, Nat.reducePow, if_neg q4, if_neg np, if_neg nq, b3, b4, lossM hF1 h9 R1 hp hq, lossM hF1 h9 R1 hq hp, if_neg d1, if_pos (Int32.not_lt.mp d2), if_neg d3]) (by
    rintro ⟨n, b, k⟩ t ⟨rfl, g2⟩
    obtain rfl : k = nI 4 := g2
    refine ⟨(n, b), (n, b), ?_, ?_, rfl⟩
    · simp only [fX10_game_73]; rw [if_pos (by decide)]
    · simp only [fX11_game_78]; rw [if_pos (by decide)]) ⟨rfl, rfl⟩
  subst xy
  refine Or.inl ⟨if a3 = 0 then x.1 else x.2, _, ?_, ?_, m1.2.2.2, Inv.ro h h2 (fun _ _ _ _ => rfl) m1⟩
  · simp only [fX10_game, bnd_s, pw_s, rd_0, rd_1, rd_2, rd_3, rd_4, rd_5, rd_6, wr_0, wr_1, wr_2, wr_3, wr_4, wr_5, zb_0, zb_1, Nat.reduceLT, Nat.reducePow, if_neg p3, if_pos c3.2, if_neg p1, if_neg p1b, if_neg p2, if_neg p2b, if_neg c4, v1, w1, x1, fX10_game_161, fX10_game_172]
    by_cases c : a3 = 0
    · rw [if_pos c, if_pos c]
    · rw [if_neg c, if_neg c]
  · simp only [fX11_game, bnd_s, pw_s, rd_0, rd_1, rd_2, rd_3, rd_4, rd_5, rd_6, wr_0, wr_1, wr_2, wr_3, wr_4, wr_5, zb_0, zb_1, Nat.reduceLT, Nat.reducePow, if_neg p3, if_pos c3.2, z0, z5, isIn_y c1.1 c1.2, isIn_y c2.1 c2.2, if_neg n1, if_neg c4, v3, w3, y1, fX11_game_199, fX11_game_210]
    by_cases c : a3 = 0
    · rw [if_pos c, if_pos c]
    · rw [if_neg c, if_neg c]
