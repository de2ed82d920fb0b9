/-! ===== poorest, fullest, lost, often, change ===== -/
theorem t_poorest {hc hm : ST} (hI : Inv hc hm) (a1 : Int32) : ∃ y, s_poorest hc hm a1 = some y ∧ Inv y.1 y.2 := by
  obtain ⟨f, M, A, h, h2⟩ := hI
  obtain ⟨hf, h0, hB, hF, hCF, hR, hR1, hA⟩ := id h
  have b0 := hB.1.1
  have h9 := hB.1.2.1
  unfold s_poorest fL_poorest
  apply s_ok
  rcases ahead_c hc a1 with ⟨n, hn, rfl, e3, e4⟩ | ⟨e3, e4⟩
  rotate_left
  · obtain ⟨q1, q2⟩ := failM hR1 1
    refine Or.inr ⟨2, 1, 0, hc, _, ?_, rfl, by decide, ?_, q2.2.2.2, Inv.ro h h2 (fun _ _ _ _ => rfl) q2⟩
    · simp only [fX10_poorest, bnd_s, pw_s, rd_0, rd_1, rd_2, rd_3, rd_4, rd_5, rd_6, wr_0, wr_1, wr_2, wr_3, wr_4, wr_5, zb_0, zb_1, Nat.reduceLT, Nat.reducePow, e3, sm]
    · simp only [fX11_poorest, bnd_s, pw_s, rd_0, rd_1, rd_2, rd_3, rd_4, rd_5, rd_6, wr_0, wr_1, wr_2, wr_3, wr_4, wr_5, zb_0, zb_1, Nat.reduceLT, Nat.reducePow, e4, q1, if_true]
  obtain ⟨z, z1, z2, z3, z4, z5⟩ := tryC h hn
  obtain ⟨r, r1, r2⟩ := beginM h
  obtain ⟨r', r3, r4⟩ := r2.days hB hA (n := n) (by omega) (by omega)
  obtain ⟨u, u1, u2⟩ := r4.back hB.1.2.1 hB.1.2.2.2.2.2.2.2
  have f0 : z f 0 = nI (nR M) := z4.1.1.trans b0
  have f3 : r' 3 = M 3 := r4.2.2.1 3 (by decide)
  obtain ⟨v, w, v1, w1, vw⟩ := lp2_cnt (b1 := fX10_poorest_13 z) (b2 := fX11_poorest_36 r') (s := (-1, 0)) (t := (-1, 0)) (Q := fun v w => v = w) (fun i s t => s = t ∧ s.2 = nI i ∧ (s.1 = -1 ∨ ∃ k, k < i ∧ s.1 = nI k)) (nR M) (by omega) (by
    rintro i ⟨b, k⟩ t hi ⟨rfl, g2, g3⟩
    obtain rfl : k = nI i := g2
    dsimp only at g3
    refine Or.inl ?_
    have q1 := nI_ge hi (show nR M < 2 ^ 31 by omega)
    rcases g3 with rfl | ⟨k, hk, rfl⟩
    · refine ⟨(nI i, nI i + 1), (nI i, nI i + 1), ?_, ?_, rfl, nI_1 i, Or.inr ⟨i, by omega, rfl⟩⟩
      · simp only [fX10_poorest_13, fX10_poorest_50, fX10_poorest_52, bnd_s, pw_s, rd_0, rd_1, rd_2, rd_3, rd_4, rd_5, rd_6, wr_0, wr_1, wr_2, wr_3, wr_4, wr_5, zb_0, zb_1, Nat.reduceLT, Nat.reducePow, rf_f hf z5, f0, if_neg q1, if_true]
      · simp only [fX11_poorest_36, fX11_poorest_66, fX11_poorest_68, bnd_s, pw_s, rd_0, rd_1, rd_2, rd_3, rd_4, rd_5, rd_6, wr_0, wr_1, wr_2, wr_3, wr_4, wr_5, zb_0, zb_1, Nat.reduceLT, Nat.reducePow, f3, b0, if_neg q1, if_true]
    · have nk : ¬ nI k = -1 := nI_m1ne (by omega)
      by_cases c : aD (aDays M n A) k ≤ aD (aDays M n A) i
      · refine ⟨(nI k, nI i + 1), (nI k, nI i + 1), ?_, ?_, rfl, nI_1 i, Or.inr ⟨k, by omega, rfl⟩⟩
        · simp only [fX10_poorest_13, fX10_poorest_50, fX10_poorest_52, bnd_s, pw_s, rd_0, rd_1, rd_2, rd_3, rd_4, rd_5, rd_6, wr_0, wr_1, wr_2, wr_3, wr_4, wr_5, zb_0, zb_1, Nat.reduceLT, Nat.reducePow, rf_f hf z5, f0, if_neg q1, if_neg nk, rd_k (n := 9) (show i < 9 by omega), rd_k (n := 9) (show k < 9 by omega), (z2.2.1 k (by omega)).1, (z2.2.1 i hi).1, if_pos c]
        · simp only [fX11_poorest_36, fX11_poorest_66, fX11_poorest_68, bnd_s, pw_s, rd_0, rd_1, rd_2, rd_3, rd_4, rd_5, rd_6, wr_0, wr_1, wr_2, wr_3, wr_4, wr_5, zb_0, zb_1, Nat.reduceLT, Nat.reducePow, f3, b0, if_neg q1, if_neg nk, rd_k (n := 9) (show i < 9 by omega), rd_k (n := 9) (show k < 9 by omega), (r4.2.1.2.1 k (by omega)).1, (r4.2.1.2.1 i hi).1, if_pos c]
      · refine ⟨(nI i, nI i + 1), (nI i, nI i + 1), ?_, ?_, rfl, nI_1 i, Or.inr ⟨i, by omega, rfl⟩⟩
        · simp only [fX10_poorest_13, fX10_poorest_50, fX10_poorest_52, bnd_s, pw_s, rd_0, rd_1, rd_2, rd_3, rd_4, rd_5, rd_6, wr_0, wr_1, wr_2, wr_3, wr_4, wr_5, zb_0, zb_1, Nat.reduceLT, Nat.reducePow, rf_f hf z5, f0, if_neg q1, if_neg nk, rd_k (n := 9) (show i < 9 by omega), rd_k (n := 9) (show k < 9 by omega), (z2.2.1 k (by omega)).1, (z2.2.1 i hi).1, if_neg c]
        · simp only [fX11_poorest_36, fX11_poorest_66, fX11_poorest_68, bnd_s, pw_s, rd_0, rd_1, rd_2, rd_3, rd_4, rd_5, rd_6, wr_0, wr_1, wr_2, wr_3, wr_4, wr_5, zb_0, zb_1, Nat.reduceLT, Nat.reducePow, f3, b0, if_neg q1, if_neg nk, rd_k (n := 9) (show i < 9 by omega), rd_k (n := 9) (show k < 9 by omega), (r4.2.1.2.1 k (by omega)).1, (r4.2.1.2.1 i hi).1, if_neg c]) (by
    rintro ⟨b, k⟩ t ⟨rfl, g2, g3⟩
    obtain rfl : k = nI (nR M) := g2
    refine ⟨b, b, ?_, ?_, rfl⟩
    · simp only [fX10_poorest_13, bnd_s, pw_s, rd_0, rd_1, rd_2, rd_3, rd_4, rd_5, rd_6, wr_0, wr_1, wr_2, wr_3, wr_4, wr_5, zb_0, zb_1, Nat.reduceLT, Nat.reducePow, rf_f hf z5, f0, Int32.le_refl, if_true]
    · simp only [fX11_poorest_36, bnd_s, pw_s, rd_0, rd_1, rd_2, rd_3, rd_4, rd_5, rd_6, wr_0, wr_1, wr_2, wr_3, wr_4, wr_5, zb_0, zb_1, Nat.reduceLT, Nat.reducePow, f3, b0, Int32.le_refl, if_true]) ⟨rfl, rfl, Or.inl rfl⟩
  subst vw
  refine Or.inl ⟨v, z, u, ?_, ?_, u2.2.2.2, Inv.ro h h2 z3 u2⟩
  · simp only [fX10_poorest, bnd_s, pw_s, rd_0, rd_1, rd_2, rd_3, rd_4, rd_5, rd_6, wr_0, wr_1, wr_2, wr_3, wr_4, wr_5, zb_0, zb_1, Nat.reduceLT, Nat.reducePow, e3, sm, z1, v1]
  · simp only [fX11_poorest, bnd_s, pw_s, rd_0, rd_1, rd_2, rd_3, rd_4, rd_5, rd_6, wr_0, wr_1, wr_2, wr_3, wr_4, wr_5, zb_0, zb_1, Nat.reduceLT, Nat.reducePow, e4, if_neg (show ¬ (1 : Int32) = 0 by decide), r1, r3, w1, u1]
def fbS (M : ST) (A : AS) (k : Nat) : Int32 := sumD (aD (aDays M k A)) (nR M)
def fb (M : ST) (A : AS) : Nat → Int32 × Int32
  | 0 => (0, fbS M A 0)
  | k + 1 => if fbS M A (k + 1) ≤ (fb M A k).2 then fb M A k else (nI (k + 1), fbS M A (k + 1))
theorem t_fullest {hc hm : ST} (hI : Inv hc hm) (a1 : Int32) : ∃ y, s_fullest hc hm a1 = some y ∧ Inv y.1 y.2 := by
  obtain ⟨f, M, A, h, h2⟩ := hI
  obtain ⟨hf, h0, hB, hF, hCF, hR, hR1, hA⟩ := id h
  have h9 := hB.1.2.1
  unfold s_fullest fL_fullest
  apply s_ok
  rcases ahead_c hc a1 with ⟨n, hn, rfl, e3, e4⟩ | ⟨e3, e4⟩
  rotate_left
  · obtain ⟨q1, q2⟩ := failM hR1 1
    refine Or.inr ⟨2, 1, 0, hc, _, ?_, rfl, by decide, ?_, q2.2.2.2, Inv.ro h h2 (fun _ _ _ _ => rfl) q2⟩
    · simp only [fX10_fullest, bnd_s, pw_s, rd_0, rd_1, rd_2, rd_3, rd_4, rd_5, rd_6, wr_0, wr_1, wr_2, wr_3, wr_4, wr_5, zb_0, zb_1, Nat.reduceLT, Nat.reducePow, e3, sm]
    · simp only [fX11_fullest, bnd_s, pw_s, rd_0, rd_1, rd_2, rd_3, rd_4, rd_5, rd_6, wr_0, wr_1, wr_2, wr_3, wr_4, wr_5, zb_0, zb_1, Nat.reduceLT, Nat.reducePow, e4, q1, if_true]
  obtain ⟨z, z1, z2, z3, z4, z5⟩ := copyT h
  obtain ⟨r, r1, r2⟩ := beginM h
  obtain ⟨x, x1, x2, x3⟩ := lp_cnt (b := fX10_fullest_35 (nI n)) (s := (z, 0, fbS M A 0, 1)) (Q := fun x => x.2 = (fb M A n).1 ∧ KcE f hc x.1) (fun i q => q.2.2.2 = nI (i + 1) ∧ q.2.1 = (fb M A i).1 ∧ q.2.2.1 = (fb M A i).2 ∧ RC 386 M (aDays M i A) q.1 ∧ KcE f hc q.1 ∧ CF f M q.1 ∧ q.1 0 3 = nI f) n (by omega) (by
    rintro i ⟨y, b, m, k⟩ hi ⟨g1, g2, g3, g4, g5, g6, g7⟩
    obtain rfl : k = nI (i + 1) := g1
    obtain rfl : b = (fb M A i).1 := g2
    obtain rfl : m = (fb M A i).2 := g3
    dsimp only at g4 g5 g6 g7
    obtain ⟨u, u1, u2, u3, u4, u5⟩ := oneC hf hB g6 g7 (K := 999 + i) (by omega) (hA.days hB i (by omega)) g4
    have q1 : ¬ nI n < nI (i + 1) := nI_nlt (by omega) (by omega)
    have ud : fX1_dustInAll u f 386 = some (fbS M A (i + 1)) := dustC hB u4 u2
    refine Or.inl ?_
    by_cases c : fbS M A (i + 1) ≤ (fb M A i).2
    · refine ⟨(u, (fb M A i).1, (fb M A i).2, nI (i + 1) + 1), ?_, nI_1 _, ?_, ?_, u2, g5.tr u3, u4, u5⟩
      · simp only [fX10_fullest_35, fX10_fullest_78, bnd_s, pw_s, rd_0, rd_1, rd_2, rd_3, rd_4, rd_5, rd_6, wr_0, wr_1, wr_2, wr_3, wr_4, wr_5, zb_0, zb_1, Nat.reduceLT, Nat.reducePow, if_neg q1, rf_f hf g7, u1, rf_f hf u5, ud, if_pos c]
      · simp only [fb, if_pos c]
      · simp only [fb, if_pos c]
    · refine ⟨(u, nI (i + 1), fbS M A (i + 1), nI (i + 1) + 1), ?_, nI_1 _, ?_, ?_, u2, g5.tr u3, u4, u5⟩
      · simp only [fX10_fullest_35, fX10_fullest_78, bnd_s, pw_s, rd_0, rd_1, rd_2, rd_3, rd_4, rd_5, rd_6, wr_0, wr_1, wr_2, wr_3, wr_4, wr_5, zb_0, zb_1, Nat.reduceLT, Nat.reducePow, if_neg q1, rf_f hf g7, u1, rf_f hf u5, ud, if_neg c]
      · simp only [fb, if_neg c]
      · simp only [fb, if_neg c]) (by
    rintro ⟨y, b, m, k⟩ ⟨g1, g2, g3, g4, g5, g6, g7⟩
    obtain rfl : k = nI (n + 1) := g1
    refine ⟨(y, b), ?_, g2, g5⟩
    simp only [fX10_fullest_35, if_pos (nI_lt (show n < n + 1 by omega) (show n + 1 < 2 ^ 31 by omega))]) ⟨rfl, rfl, rfl, z2, z3, z4, z5⟩
  obtain ⟨v0, hv0, ev0⟩ := sumD_k hA.1 (nR M) (Nat.le_refl _)
  obtain ⟨w, w1, w2, B, w3⟩ := lp_cnt (b := fX11_fullest_34 (nI n)) (s := (r, 0, -1, 0)) (Q := fun w => w.2 = (fb M A n).1 ∧ ∃ B, TM M A B hm w.1) (fun i q => q.2.2.2 = nI i ∧ TM M A (aDays M i A) hm q.1 ∧ ((i = 0 ∧ q.2.1 = 0 ∧ q.2.2.1 = -1) ∨ ∃ j, i = j + 1 ∧ q.2.1 = (fb M A j).1 ∧ q.2.2.1 = (fb M A j).2)) (n + 1) (by omega) (by
    rintro i ⟨y, b, m, k⟩ hi ⟨g1, g2, g3⟩
    obtain rfl : k = nI i := g1
    dsimp only at g2 g3
    obtain ⟨u, u1, u2⟩ := g2.day hB (K := 999 + i) (hA.days hB i (by omega)) (by omega)
    have ud : fX11_allDust y = some (fbS M A i) := dustM hB g2.2.2.1 g2.2.1
    have q1 : ¬ nI n < nI i := nI_nlt (by omega) (by omega)
    refine Or.inl ?_
    rcases g3 with ⟨rfl, rfl, rfl⟩ | ⟨j, rfl, rfl, rfl⟩
    · have c : ¬ fbS M A 0 ≤ -1 := by
        show ¬ sumD (aD A) (nR M) ≤ -1
        rw [ev0]
        exact fun q => nI_pos (n := v0) (by omega) (Int32.lt_of_le_of_lt q (by decide))
      refine ⟨(u, nI 0, fbS M A 0, nI 0 + 1), ?_, nI_1 0, u2, Or.inr ⟨0, rfl, rfl, rfl⟩⟩
      simp only [fX11_fullest_34, fX11_fullest_56, bnd_s, pw_s, rd_0, rd_1, rd_2, rd_3, rd_4, rd_5, rd_6, wr_0, wr_1, wr_2, wr_3, wr_4, wr_5, zb_0, zb_1, Nat.reduceLT, Nat.reducePow, if_neg q1, ud, if_neg c, u1]
    · by_cases c : fbS M A (j + 1) ≤ (fb M A j).2
      · refine ⟨(u, (fb M A j).1, (fb M A j).2, nI (j + 1) + 1), ?_, nI_1 _, u2, Or.inr ⟨j + 1, rfl, ?_, ?_⟩⟩
        · simp only [fX11_fullest_34, fX11_fullest_56, bnd_s, pw_s, rd_0, rd_1, rd_2, rd_3, rd_4, rd_5, rd_6, wr_0, wr_1, wr_2, wr_3, wr_4, wr_5, zb_0, zb_1, Nat.reduceLT, Nat.reducePow, if_neg q1, ud, if_pos c, u1]
        · simp only [fb, if_pos c]
        · simp only [fb, if_pos c]
      · refine ⟨(u, nI (j + 1), fbS M A (j + 1), nI (j + 1) + 1), ?_, nI_1 _, u2, Or.inr ⟨j + 1, rfl, ?_, ?_⟩⟩
        · simp only [fX11_fullest_34, fX11_fullest_56, bnd_s, pw_s, rd_0, rd_1, rd_2, rd_3, rd_4, rd_5, rd_6, wr_0, wr_1, wr_2, wr_3, wr_4, wr_5, zb_0, zb_1, Nat.reduceLT, Nat.reducePow, if_neg q1, ud, if_neg c, u1]
        · simp only [fb, if_neg c]
        · simp only [fb, if_neg c]) (by
    rintro ⟨y, b, m, k⟩ ⟨g1, g2, g3⟩
    obtain rfl : k = nI (n + 1) := g1
    dsimp only at g2 g3
    refine ⟨(y, b), ?_, ?_, _, g2⟩
    · simp only [fX11_fullest_34, if_pos (nI_lt (show n < n + 1 by omega) (show n + 1 < 2 ^ 31 by omega))]
    · rcases g3 with ⟨q, -, -⟩ | ⟨j, hj, q, -⟩
      · omega
      · have : j = n := by omega
        subst this; exact q) ⟨rfl, r2, Or.inl ⟨rfl, rfl, rfl⟩⟩
  obtain ⟨u, u1, u2⟩ := w3.back hB.1.2.1 hB.1.2.2.2.2.2.2.2
  have zd : fX1_dustInAll z f 386 = some (fbS M A 0) := dustC hB z4 z2
  refine Or.inl ⟨(fb M A n).1, x.1, u, ?_, ?_, u2.2.2.2, Inv.ro h h2 x3 u2⟩
  · simp only [fX10_fullest, bnd_s, pw_s, rd_0, rd_1, rd_2, rd_3, rd_4, rd_5, rd_6, wr_0, wr_1, wr_2, wr_3, wr_4, wr_5, zb_0, zb_1, Nat.reduceLT, Nat.reducePow, e3, sm, z1, rf_f hf z5, zd, x1, x2]
  · simp only [fX11_fullest, bnd_s, pw_s, rd_0, rd_1, rd_2, rd_3, rd_4, rd_5, rd_6, wr_0, wr_1, wr_2, wr_3, wr_4, wr_5, zb_0, zb_1, Nat.reduceLT, Nat.reducePow, e4, if_neg (show ¬ (1 : Int32) = 0 by decide), r1, w1, u1, w2]
def comeS (M : ST) (v : Int32) : Nat → Int32
  | 0 => 0
  | n + 1 => comeS M v n + comes M n * v
theorem t_lost {hc hm : ST} (hI : Inv hc hm) (a1 : Int32) : ∃ y, s_lost hc hm a1 = some y ∧ Inv y.1 y.2 := by
  obtain ⟨f, M, A, h, h2⟩ := hI
  obtain ⟨hf, h0, hB, hF, hCF, hR, hR1, hA⟩ := id h
  have b0 := hB.1.1
  have h9 := hB.1.2.1
  unfold s_lost fL_lost
  apply s_ok
  rcases ahead_c hc a1 with ⟨n, hn, rfl, e3, e4⟩ | ⟨e3, e4⟩
  rotate_left
  · obtain ⟨q1, q2⟩ := failM hR1 1
    refine Or.inr ⟨2, 1, 0, hc, _, ?_, rfl, by decide, ?_, q2.2.2.2, Inv.ro h h2 (fun _ _ _ _ => rfl) q2⟩
    · simp only [fX10_lost, bnd_s, pw_s, rd_0, rd_1, rd_2, rd_3, rd_4, rd_5, rd_6, wr_0, wr_1, wr_2, wr_3, wr_4, wr_5, zb_0, zb_1, Nat.reduceLT, Nat.reducePow, e3, sm]
    · simp only [fX11_lost, bnd_s, pw_s, rd_0, rd_1, rd_2, rd_3, rd_4, rd_5, rd_6, wr_0, wr_1, wr_2, wr_3, wr_4, wr_5, zb_0, zb_1, Nat.reduceLT, Nat.reducePow, e4, q1, if_true]
  obtain ⟨z, z1, z2, z3, z4, z5⟩ := tryC h hn
  obtain ⟨r, r1, r2⟩ := beginM h
  obtain ⟨r', r3, r4⟩ := r2.days hB hA (n := n) (by omega) (by omega)
  obtain ⟨u, u1, u2⟩ := r4.back hB.1.2.1 hB.1.2.2.2.2.2.2.2
  have f0 : z f 0 = nI (nR M) := z4.1.1.trans b0
  have hF1 := fm_up hF 2 0
  have f3 : up2 hm 0 2 0 3 = M 3 := hF1 3 (by decide)
  have f4 : up2 hm 0 2 0 4 = M 4 := hF1 4 (by decide)
  have f7 : up2 hm 0 2 0 7 = M 7 := hF1 7 (by decide)
  have lc : lp FU (fX10_lost_13 z (nI n)) (0, 0) = some (comeS M (nI n) (nR M)) := by
    refine lp_det (b := fX10_lost_13 z (nI n)) (fun i => (comeS M (nI n) i, nI i)) (nR M) (by omega) (fun i hi => ?_) ?_
    · simp only [fX10_lost_13, bnd_s, pw_s, rd_0, rd_1, rd_2, rd_3, rd_4, rd_5, rd_6, wr_0, wr_1, wr_2, wr_3, wr_4, wr_5, zb_0, zb_1, Nat.reduceLT, Nat.reducePow, rf_f hf z5, f0, if_neg (nI_ge hi (show nR M < 2 ^ 31 by omega)), f_comesTo z4 hi h9, nI_1, comeS]
    · simp only [fX10_lost_13, bnd_s, pw_s, rd_0, rd_1, rd_2, rd_3, rd_4, rd_5, rd_6, wr_0, wr_1, wr_2, wr_3, wr_4, wr_5, zb_0, zb_1, Nat.reduceLT, Nat.reducePow, rf_f hf z5, f0, Int32.le_refl, if_true]
  have lm : lp FU (fX11_lost_22 (up2 hm 0 2 0) (nI n)) (0, 0) = some (comeS M (nI n) (nR M)) := by
    refine lp_det (b := fX11_lost_22 (up2 hm 0 2 0) (nI n)) (fun i => (comeS M (nI n) i, nI i)) (nR M) (by omega) (fun i hi => ?_) ?_
    · by_cases c : M 4 i = 2
      · simp only [fX11_lost_22, fX11_lost_61, bnd_s, pw_s, rd_0, rd_1, rd_2, rd_3, rd_4, rd_5, rd_6, wr_0, wr_1, wr_2, wr_3, wr_4, wr_5, zb_0, zb_1, Nat.reduceLT, Nat.reducePow, f3, f4, f7, b0, if_neg (nI_ge hi (show nR M < 2 ^ 31 by omega)), rd_k (n := 18) (show i < 18 by omega), if_pos c, nI_1, comeS, comes, Int32.mul_comm (nI n)]
      · simp only [fX11_lost_22, fX11_lost_61, bnd_s, pw_s, rd_0, rd_1, rd_2, rd_3, rd_4, rd_5, rd_6, wr_0, wr_1, wr_2, wr_3, wr_4, wr_5, zb_0, zb_1, Nat.reduceLT, Nat.reducePow, f3, f4, f7, b0, if_neg (nI_ge hi (show nR M < 2 ^ 31 by omega)), rd_k (n := 18) (show i < 18 by omega), if_neg c, nI_1, comeS, comes, Int32.mul_comm (nI n)]
    · simp only [fX11_lost_22, bnd_s, pw_s, rd_0, rd_1, rd_2, rd_3, rd_4, rd_5, rd_6, wr_0, wr_1, wr_2, wr_3, wr_4, wr_5, zb_0, zb_1, Nat.reduceLT, Nat.reducePow, f3, b0, Int32.le_refl, if_true]
  have hR43 : RC 43 M A z := hR.kept (z3 _ (by omega) (by omega) (by omega)) (z3 _ (by omega) (by omega) (by omega)) (z3 _ (by omega) (by omega) (by omega)) (z3 _ (by omega) (by omega) (by omega))
  refine Or.inl ⟨(comeS M (nI n) (nR M) + (sumD (aD A) (nR M) + aT A)) - (sumD (aD (aDays M n A)) (nR M) + aT (aDays M n A)), z, u, ?_, ?_, u2.2.2.2, Inv.ro h h2 z3 u2⟩
  · simp only [fX10_lost, bnd_s, pw_s, rd_0, rd_1, rd_2, rd_3, rd_4, rd_5, rd_6, wr_0, wr_1, wr_2, wr_3, wr_4, wr_5, zb_0, zb_1, Nat.reduceLT, Nat.reducePow, e3, sm, z1, lc, rf_f hf z5, dustC hB z4 z2, dustC hB z4 hR43, z2.1.2.1, hR43.1.2.1]
    congr 3
    simp only [Int32.sub_eq_add_neg, Int32.neg_add, Int32.neg_neg]
    ac_rfl
  · simp only [fX11_lost, bnd_s, pw_s, rd_0, rd_1, rd_2, rd_3, rd_4, rd_5, rd_6, wr_0, wr_1, wr_2, wr_3, wr_4, wr_5, zb_0, zb_1, Nat.reduceLT, Nat.reducePow, e4, if_neg (show ¬ (1 : Int32) = 0 by decide), lm, r1, dustM hB r2.2.2.1 r2.2.1, r3, dustM hB r4.2.2.1 r4.2.1, u1, r2.2.1.1.2.1, r4.2.1.1.2.1]
