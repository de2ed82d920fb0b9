/-! ===== hand, the call ===== -/
theorem t_hand {hc hm : ST} (hI : Inv hc hm) (a1 : Int32) : ∃ y, s_hand hc hm a1 = some y ∧ Inv y.1 y.2 := by
  obtain ⟨f, M, A, h, h2⟩ := hI
  obtain ⟨hf, h0, hB, hF, hCF, hR, hR1, hA⟩ := id h
  have m1 := codeM (M := M) hR1
  have b0 := hB.1.1
  have h9 := hB.1.2.1
  have hF1 := fm_up hF 2 0
  have n1 : ¬ (1 : Int32) = 0 := by decide
  unfold s_hand fL_hand
  apply s_ok
  rcases in_c 0 2 (by decide) (by decide) a1 with ⟨w, -, hw, rfl, e⟩ | ⟨c, e⟩
  rotate_left
  · have e : fX11_isIn (up2 hm 0 2 0) a1.toInt64 (0 : Int64) (2 : Int64) = some 0 := e _
    obtain ⟨q1, q2⟩ := failM hR1 1
    refine Or.inr ⟨1, 1, 0, hc, _, ?_, rfl, by decide, ?_, q2.2.2.2, Inv.ro h h2 (fun _ _ _ _ => rfl) q2⟩
    · by_cases c1 : a1 < 0
      · simp only [fX10_hand, fX10_hand_9, if_pos c1]
      · simp only [fX10_hand, fX10_hand_9, if_neg c1, if_neg (show ¬ a1 ≤ 2 from fun q => c ⟨Int32.not_lt.mp c1, q⟩)]
    · simp only [fX11_hand, bnd_s, pw_s, rd_0, rd_1, rd_2, rd_3, rd_4, rd_5, rd_6, wr_0, wr_1, wr_2, wr_3, wr_4, wr_5, zb_0, zb_1, Nat.reduceLT, Nat.reducePow, e, q1, if_true]
  have e : fX11_isIn (up2 hm 0 2 0) (nI w).toInt64 (0 : Int64) (2 : Int64) = some 1 := e _
  obtain ⟨k1, k2, k3, k4, k5, k6, k7, k8, k9⟩ := id h2
  obtain ⟨k, s1, s2, s3, s4⟩ := id k6
  obtain ⟨rm, erm⟩ : ∃ rm, rm = hm 33 := ⟨_, rfl⟩
  obtain ⟨dy, edy⟩ : ∃ dy, dy = hm 34 := ⟨_, rfl⟩
  obtain ⟨mu, emu⟩ : ∃ mu, mu = hm 35 := ⟨_, rfl⟩
  have hS : SG M k rm dy mu := ⟨s2, fun i hi => by rw [erm, edy]; exact (s4 i hi).2.2.2⟩
  have hsc : SC k rm dy mu hc := ⟨s3, fun i hi => by rw [erm, edy, emu]; exact ⟨(s4 i hi).1, (s4 i hi).2.1, (s4 i hi).2.2.1⟩⟩
  have hsm : SM k rm dy mu (up2 hm 0 2 0) := by
    unfold SM
    rw [up2_sn (by decide), up2_n (by decide), up2_n (by decide), up2_n (by decide)]
    exact ⟨s1, fun i _ => by rw [erm, edy, emu]; exact ⟨rfl, rfl, rfl⟩⟩
  have hH : HM M A k rm dy mu hm (up2 hm 0 2 0) := ⟨m1.2.2.1, hF1, hsm, m1.1, m1.2.1, m1.2.2.2⟩
  have p0 : ¬ nI w < 0 := nI_pos (by omega)
  have p2 : nI w ≤ 2 := nI_le (b := 2) hw (by decide)
  have rff := rf_f hf h0
  have f0 : hc f 0 = nI (nR M) := hCF.1.1.trans b0
  by_cases c2 : w = 2
  · subst c2
    have eT : aTake A 0 0 = A := by
      have : upd (aD A) 0 (aD A 0 - 0) = aD A := by
        funext j
        by_cases c : j = 0
        · rw [c, upd_s, Int32.sub_zero]
        · rw [upd_n c]
      show (upd (aD A) 0 (aD A 0 - 0), _) = A
      rw [this]
    obtain ⟨y, y1, y2⟩ := wouldC hf hB hS hCF h0 hR hsc (a := 0) (by decide) (v := 0) (K := 999) (by decide) (by rw [eT]; exact hA)
    rw [eT] at y1
    obtain ⟨z, z1, z2, z3, z4⟩ := seenM hB hS hF1 m1.2.2.1 hsm (K := 999) (by decide) hA
    have y1' : fX10_wouldBeSo hc 0 0 = some (bz (soA M A rm dy mu k), y) := y1
    have zc : z 0 2 = 0 := (z4 2 (by decide)).trans m1.2.2.2
    have zM : MR M A 0 hm z := ⟨m1.1.tr (z3.sub (by decide)), m1.2.1.tr (z4.sub (by decide)), z2, zc⟩
    refine Or.inl ⟨bz (soA M A rm dy mu k), y, z, ?_, ?_, zc, Inv.ro h h2 y2 zM⟩
    · unfold fX10_hand
      rw [if_neg p0, if_pos p2, if_pos (show nI 2 = 2 from rfl), y1', bnd_s]
      cases soA M A rm dy mu k <;> rfl
    · unfold fX11_hand
      rw [pw_s, bnd_s, e, bnd_s, if_neg n1, if_pos (show nI 2 = 2 from rfl), z1, bnd_s]
      cases soA M A rm dy mu k <;> rfl
  have c2' : ¬ nI w = 2 := fun q => c2 ((nI_eq (a := w) (b := 2) (by omega) (by decide)).mp q)
  obtain ⟨N, eN⟩ : ∃ N : Nat → Nat, N = fun i => min (aD A i).toNatClampNeg 99 := ⟨_, rfl⟩
  obtain ⟨P, eP⟩ : ∃ P : Nat → Nat → Bool, P = fun a v => soA M (aTake A a (nI v)) rm dy mu k := ⟨_, rfl⟩
  -- the reference's search
  have lm : ∃ r, lp FU (fX11_hand_48 (nI w)) (up2 hm 0 2 0, 0, -1, 0) = some r ∧ r.2.1 = (cA P N (nR M)).1 ∧ r.2.2 = (cA P N (nR M)).2 ∧ HM M A k rm dy mu hm r.1 := by
    refine lp_cnt (b := fX11_hand_48 (nI w)) (fun i s => s.2.2.2 = nI i ∧ s.2.1 = (cA P N i).1 ∧ s.2.2.1 = (cA P N i).2 ∧ HM M A k rm dy mu hm s.1) (nR M) (by omega) ?_ ?_ ⟨rfl, rfl, rfl, hH⟩
    · rintro i ⟨s, p, q, v⟩ hi ⟨rfl, rfl, rfl, sH⟩
      dsimp only at sH
      obtain ⟨x, hx, ex⟩ := hA.1 i hi
      obtain ⟨y, y1, y2⟩ := handM hB hS hA hi ex hx (nI w) sH (cA P N i)
      have Ni : N i = min x 99 := by rw [eN]; show min (aD A i).toNatClampNeg 99 = _; rw [ex, nI_clamp (by omega)]
      rw [← eP, ← Ni] at y1
      have g3 : s 3 = M 3 := sH.2.1 3 (by decide)
      have q := nI_ge hi (show nR M < 2 ^ 31 by omega)
      refine Or.inl ⟨(y, (cA P N (i + 1)).1, (cA P N (i + 1)).2, nI (i + 1)), ?_, rfl, rfl, rfl, y2⟩
      unfold fX11_hand_48 fX11_hand_146
      simp only [bnd_s, pw_s, rd_0, rd_1, rd_2, rd_3, rd_4, rd_5, rd_6, wr_0, wr_1, wr_2, wr_3, wr_4, wr_5, zb_0, zb_1, Nat.reduceLT, Nat.reducePow, g3, b0, if_neg q, y1, nI_1]
      rfl
    · rintro ⟨s, p, q, v⟩ ⟨rfl, rfl, rfl, sH⟩
      dsimp only at sH
      have g3 : s 3 = M 3 := sH.2.1 3 (by decide)
      exact ⟨(s, (cA P N (nR M)).1, (cA P N (nR M)).2), by simp only [fX11_hand_48, bnd_s, pw_s, rd_0, rd_1, rd_2, rd_3, rd_4, rd_5, rd_6, wr_0, wr_1, wr_2, wr_3, wr_4, wr_5, zb_0, zb_1, Nat.reduceLT, Nat.reducePow, g3, b0, Int32.le_refl, if_true], rfl, rfl, sH⟩
  obtain ⟨⟨r, p, q⟩, r1, rfl, rfl, r2, r3, r4, r5, r6, r7⟩ := lm
  dsimp only at r2 r3 r4 r5 r6 r7
  have rM : MR M A 0 hm r := ⟨r5, r6, r2, r7⟩
  have mn99 : ∀ x, x ≤ 9999 → (if nI x < 99 then nI x else 99) = nI (min x 99) := fun x hx => by
    by_cases c : x < 99
    · rw [if_pos (show nI x < 99 from nI_lt (b := 99) c (by decide)), Nat.min_eq_left (by omega)]
    · rw [if_neg (show ¬ nI x < 99 from nI_nlt (b := 99) (by omega) (by omega)), Nat.min_eq_right (by omega)]; rfl
  by_cases c0 : w = 0
  · subst c0
    have lc : ∃ r, lp FU (fX10_hand_41 0) (hc, 0, 0) = some r ∧ ∃ s, r = .inr (s, (cA P N (nR M)).1) ∧ KcE f hc s := by
      refine lp_cnt (b := fX10_hand_41 0) (fun i s => s.2.2 = nI i ∧ s.2.1 = (cA P N i).1 ∧ KcE f hc s.1) (nR M) (by omega) ?_ ?_ ⟨rfl, rfl, fun _ _ _ _ => rfl⟩
      · rintro i ⟨s, p, v⟩ hi ⟨rfl, rfl, s1⟩
        dsimp only at s1
        obtain ⟨x, hx, ex⟩ := hA.1 i hi
        obtain ⟨y, y1, y2⟩ := handC0 hf hB hS hCF h0 hR hsc hA hi ex hx s1 (cA P N i)
        have Ni : N i = min x 99 := by rw [eN]; show min (aD A i).toNatClampNeg 99 = _; rw [ex, nI_clamp (by omega)]
        rw [← eP] at y1
        have q := nI_ge hi (show nR M < 2 ^ 31 by omega)
        have sf : s f 0 = nI (nR M) := by rw [s1 f (by omega) (by omega) (by omega)]; exact f0
        have s44 : s 44 i = nI x := ((s1.rc hf hR).2.1 i hi).1.trans ex
        have cx : cI P i (min x 99) (cA P N i) = cA P N (i + 1) := by rw [← Ni]; rfl
        refine Or.inl ⟨(y, (cA P N (i + 1)).1, nI (i + 1)), ?_, rfl, rfl, y2⟩
        simp only [fX10_hand_41, rf_f hf (s1.c0 hf h0), bnd_s, pw_s, rd_0, rd_1, rd_2, rd_3, rd_4, rd_5, rd_6, wr_0, wr_1, wr_2, wr_3, wr_4, wr_5, zb_0, zb_1, Nat.reduceLT, Nat.reducePow, sf, if_neg q, rd_k (n := 9) (show i < 9 by omega), s44, mn99 x hx, y1, sm, cx, nI_1]
      · rintro ⟨s, p, v⟩ ⟨rfl, rfl, s1⟩
        dsimp only at s1
        have sf : s f 0 = nI (nR M) := by rw [s1 f (by omega) (by omega) (by omega)]; exact f0
        exact ⟨_, by simp only [fX10_hand_41, rf_f hf (s1.c0 hf h0), bnd_s, pw_s, rd_0, rd_1, rd_2, rd_3, rd_4, rd_5, rd_6, wr_0, wr_1, wr_2, wr_3, wr_4, wr_5, zb_0, zb_1, Nat.reduceLT, Nat.reducePow, sf, Int32.le_refl, if_true], s, rfl, s1⟩
    obtain ⟨-, l1, s, rfl, l2⟩ := lc
    refine Or.inl ⟨(cA P N (nR M)).1, s, r, ?_, ?_, r7, Inv.ro h h2 l2 rM⟩
    · unfold fX10_hand
      rw [if_neg p0, if_pos p2, if_neg c2', show nI 0 = 0 from rfl, l1, bnd_s]
      rfl
    · unfold fX11_hand
      rw [pw_s, bnd_s, e, bnd_s, if_neg n1, if_neg c2', r1, bnd_s, if_pos (show nI 0 = 0 from rfl)]
      rfl
  obtain rfl : w = 1 := by omega
  have lc : ∃ r, lp FU (fX10_hand_41 1) (hc, 0, 0) = some r ∧ ((∃ s p, r = .inr (s, p) ∧ KcE f hc s ∧ (cA P N (nR M)).2 = -1) ∨ ∃ s i v, r = .inl (s, nI i, nI v) ∧ KcE f hc s ∧ i < 9 ∧ v ≤ 100 ∧ (cA P N (nR M)).2 = nI (100 * i + v)) := by
    refine lp_cnt (b := fX10_hand_41 1) (fun i s => s.2.2 = nI i ∧ (cA P N i).2 = -1 ∧ KcE f hc s.1) (nR M) (by omega) ?_ ?_ ⟨rfl, rfl, fun _ _ _ _ => rfl⟩
    · rintro i ⟨s, p, v⟩ hi ⟨rfl, cn, s1⟩
      dsimp only at s1
      obtain ⟨x, hx, ex⟩ := hA.1 i hi
      obtain ⟨y, y1, y2⟩ := handC1 hf hB hS hCF h0 hR hsc hA hi ex hx s1 (cA P N i) cn p
      have Ni : N i = min x 99 := by rw [eN]; show min (aD A i).toNatClampNeg 99 = _; rw [ex, nI_clamp (by omega)]
      rw [← eP] at y2
      have q := nI_ge hi (show nR M < 2 ^ 31 by omega)
      have sf : s f 0 = nI (nR M) := by rw [s1 f (by omega) (by omega) (by omega)]; exact f0
      have s44 : s 44 i = nI x := ((s1.rc hf hR).2.1 i hi).1.trans ex
      have cx : cI P i (min x 99) (cA P N i) = cA P N (i + 1) := by rw [← Ni]; rfl
      rw [cx] at y2
      rcases y2 with ⟨u, t, rfl, u1, u2⟩ | ⟨u, t, rfl, u1, u2, u3⟩
      · refine Or.inl ⟨(u, t, nI (i + 1)), ?_, rfl, u2, u1⟩
        simp only [fX10_hand_41, rf_f hf (s1.c0 hf h0), bnd_s, pw_s, rd_0, rd_1, rd_2, rd_3, rd_4, rd_5, rd_6, wr_0, wr_1, wr_2, wr_3, wr_4, wr_5, zb_0, zb_1, Nat.reduceLT, Nat.reducePow, sf, if_neg q, rd_k (n := 9) (show i < 9 by omega), s44, mn99 x hx, y1, sm, nI_1]
      · have kp := cA_keep (P := P) (N := N) (i := i + 1) (by rw [u3]; exact nI_m1ne (by omega)) (nR M - (i + 1))
        rw [show i + 1 + (nR M - (i + 1)) = nR M by omega] at kp
        refine Or.inr ⟨.inl (u, nI i, nI t), ?_, Or.inr ⟨u, i, t, rfl, u1, by omega, u2, kp.trans u3⟩⟩
        simp only [fX10_hand_41, rf_f hf (s1.c0 hf h0), bnd_s, pw_s, rd_0, rd_1, rd_2, rd_3, rd_4, rd_5, rd_6, wr_0, wr_1, wr_2, wr_3, wr_4, wr_5, zb_0, zb_1, Nat.reduceLT, Nat.reducePow, sf, if_neg q, rd_k (n := 9) (show i < 9 by omega), s44, mn99 x hx, y1, sm]
    · rintro ⟨s, p, v⟩ ⟨rfl, cn, s1⟩
      dsimp only at s1
      have sf : s f 0 = nI (nR M) := by rw [s1 f (by omega) (by omega) (by omega)]; exact f0
      exact ⟨.inr (s, p), by simp only [fX10_hand_41, rf_f hf (s1.c0 hf h0), bnd_s, pw_s, rd_0, rd_1, rd_2, rd_3, rd_4, rd_5, rd_6, wr_0, wr_1, wr_2, wr_3, wr_4, wr_5, zb_0, zb_1, Nat.reduceLT, Nat.reducePow, sf, Int32.le_refl, if_true], Or.inl ⟨s, p, rfl, s1, cn⟩⟩
  have em : fX11_hand hm (nI 1) = some ((cA P N (nR M)).2, r) := by
    unfold fX11_hand
    rw [pw_s, bnd_s, e, bnd_s, if_neg n1, if_neg c2', r1, bnd_s, if_neg (show ¬ nI 1 = 0 from n1)]
    rfl
  obtain ⟨-, l1, ⟨s, p, rfl, l2, l3⟩ | ⟨s, i, v, rfl, l2, l3, l4, l5⟩⟩ := lc
  · refine Or.inl ⟨-1, s, r, ?_, em.trans (by rw [l3]), r7, Inv.ro h h2 l2 rM⟩
    unfold fX10_hand
    rw [if_neg p0, if_pos p2, if_neg c2', show nI 1 = 1 from rfl, l1, bnd_s]
    rfl
  · refine Or.inl ⟨nI (100 * i + v), s, r, ?_, em.trans (by rw [l5]), r7, Inv.ro h h2 l2 rM⟩
    have i100 : (100 : Int32) * nI i + nI v = nI (100 * i + v) := by rw [show (100 : Int32) * nI i = nI (100 * i) from nI_mul 100 i, nI_add]
    unfold fX10_hand
    rw [if_neg p0, if_pos p2, if_neg c2', show nI 1 = 1 from rfl, l1, bnd_s]
    show some (Sum.inl ((100 : Int32) * nI i + nI v), s) = _
    rw [i100]
