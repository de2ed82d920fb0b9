/-! ===== see, image, restore ===== -/
theorem t_see {hc hm : ST} (hI : Inv hc hm) (a1 a2 a3 : Int32) : ∃ y, s_see hc hm a1 a2 a3 = some y ∧ Inv y.1 y.2 := by
  obtain ⟨f, M, A, h, h2⟩ := hI
  obtain ⟨hf, h0, hB, hF, hCF, hR, hR1, hA⟩ := id h
  have m1 := codeM (M := M) hR1
  have hF1 := fm_up hF 2 0
  have n1 : ¬ (1 : Int32) = 0 := by decide
  unfold s_see fL_see
  apply s_ok
  have rm := refM (hm := up2 hm 0 2 0) (k := 2) (by decide)
  have rc := refC (hc := hc) (k := 2) (by decide)
  rcases room_c h a1 with ⟨a, ha, rfl, e1, e2⟩ | ⟨e1, e2⟩
  rotate_left
  · obtain ⟨q1, q2⟩ := failM hR1 1
    refine Or.inr ⟨1, 1, 0, hc, _, ?_, rfl, by decide, ?_, q2.2.2.2, Inv.ro h h2 (fun _ _ _ _ => rfl) q2⟩
    · simp only [fX10_see, bnd_s, pw_s, rd_0, rd_1, rd_2, rd_3, rd_4, rd_5, rd_6, wr_0, wr_1, wr_2, wr_3, wr_4, wr_5, zb_0, zb_1, Nat.reduceLT, Nat.reducePow, e1, sm]
    · simp only [fX11_see, bnd_s, pw_s, rd_0, rd_1, rd_2, rd_3, rd_4, rd_5, rd_6, wr_0, wr_1, wr_2, wr_3, wr_4, wr_5, zb_0, zb_1, Nat.reduceLT, Nat.reducePow, e2 _ hF1, q1, if_true]
  have E2 := e2 _ hF1
  obtain ⟨k1, k2, k3, k4, k5, k6, k7, k8, k9⟩ := id h2
  obtain ⟨k, s1, s2, s3, s4⟩ := id k6
  have s3' : hc 209 0 = nI k := s3
  have g37 : up2 hm 0 2 0 0 37 = nI k := by rw [up2_sn (by decide)]; exact s1
  have z2 : up2 (up2 hm 0 2 0) 17 2 (up2 hm 0 2 0 17 2 + 1) 0 2 = 0 := by rw [up2_n (by decide), up2_ss]
  have rI := Inv.ref h h2 (k := 2) (by decide)
  have r1 : fX10_see_41 hc = some (.inl (-1), up2 hc 213 2 (hc 213 2 + 1)) := by
    unfold fX10_see_41; rw [show fX10_refuse hc 2 = _ from rc]; rfl
  have r2 : fX11_see_52 (up2 hm 0 2 0) = some (-1, up2 (up2 hm 0 2 0) 17 2 (up2 hm 0 2 0 17 2 + 1)) := by
    unfold fX11_see_52; rw [show fX11_refuse (up2 hm 0 2 0) 2 = _ from rm]; rfl
  rcases Nat.eq_or_lt_of_le s2 with rfl | hk
  · refine Or.inl ⟨-1, _, _, ?_, ?_, z2, rI⟩
    · simp only [fX10_see, bnd_s, pw_s, rd_0, rd_1, rd_2, rd_3, rd_4, rd_5, rd_6, wr_0, wr_1, wr_2, wr_3, wr_4, wr_5, zb_0, zb_1, Nat.reduceLT, Nat.reducePow, e1, sm, s3', if_pos (show (8 : Int32) ≤ nI 8 by decide), r1]
    · simp only [fX11_see, bnd_s, pw_s, rd_0, rd_1, rd_2, rd_3, rd_4, rd_5, rd_6, wr_0, wr_1, wr_2, wr_3, wr_4, wr_5, zb_0, zb_1, Nat.reduceLT, Nat.reducePow, E2, if_neg n1, g37, if_pos (show nI 8 = 8 from rfl), r2]
  have q8 : ¬ 8 ≤ nI k := nI_ge (b := 8) hk (by decide)
  have q8' : ¬ nI k = 8 := fun q => by
    have := (nI_eq (a := k) (b := 8) (by omega) (by decide)).mp q
    omega
  rcases in_c 0 30 (by decide) (by decide) a2 with ⟨n, -, hn, rfl, e⟩ | ⟨c, e⟩
  rotate_left
  · have e : fX11_isIn (up2 hm 0 2 0) a2.toInt64 (0 : Int64) (30 : Int64) = some 0 := e _
    refine Or.inl ⟨-1, _, _, ?_, ?_, z2, rI⟩
    · by_cases c1 : a2 < 0
      · simp only [fX10_see, bnd_s, pw_s, rd_0, rd_1, rd_2, rd_3, rd_4, rd_5, rd_6, wr_0, wr_1, wr_2, wr_3, wr_4, wr_5, zb_0, zb_1, Nat.reduceLT, Nat.reducePow, e1, sm, s3', if_neg q8, if_pos c1, r1]
      · simp only [fX10_see, bnd_s, pw_s, rd_0, rd_1, rd_2, rd_3, rd_4, rd_5, rd_6, wr_0, wr_1, wr_2, wr_3, wr_4, wr_5, zb_0, zb_1, Nat.reduceLT, Nat.reducePow, e1, sm, s3', if_neg q8, if_neg c1, if_pos (show 30 < a2 from Int32.not_le.mp (fun q => c ⟨Int32.not_lt.mp c1, q⟩)), r1]
    · simp only [fX11_see, bnd_s, pw_s, rd_0, rd_1, rd_2, rd_3, rd_4, rd_5, rd_6, wr_0, wr_1, wr_2, wr_3, wr_4, wr_5, zb_0, zb_1, Nat.reduceLT, Nat.reducePow, E2, if_neg n1, g37, if_neg q8', e, if_true, r2]
  have e : fX11_isIn (up2 hm 0 2 0) (nI n).toInt64 (0 : Int64) (30 : Int64) = some 1 := e _
  have q1 : ¬ nI n < 0 := nI_pos (by omega)
  have q2 : ¬ 30 < nI n := nI_nlt (a := 30) hn (by decide)
  rcases in_c 0 9999 (by decide) (by decide) a3 with ⟨m, -, hm', rfl, e'⟩ | ⟨c, e'⟩
  rotate_left
  · have e' : fX11_isIn (up2 hm 0 2 0) a3.toInt64 (0 : Int64) (9999 : Int64) = some 0 := e' _
    refine Or.inl ⟨-1, _, _, ?_, ?_, z2, rI⟩
    · by_cases c1 : a3 < 0
      · simp only [fX10_see, bnd_s, pw_s, rd_0, rd_1, rd_2, rd_3, rd_4, rd_5, rd_6, wr_0, wr_1, wr_2, wr_3, wr_4, wr_5, zb_0, zb_1, Nat.reduceLT, Nat.reducePow, e1, sm, s3', if_neg q8, if_neg q1, if_neg q2, if_pos c1, r1]
      · simp only [fX10_see, bnd_s, pw_s, rd_0, rd_1, rd_2, rd_3, rd_4, rd_5, rd_6, wr_0, wr_1, wr_2, wr_3, wr_4, wr_5, zb_0, zb_1, Nat.reduceLT, Nat.reducePow, e1, sm, s3', if_neg q8, if_neg q1, if_neg q2, if_neg c1, if_neg (show ¬ a3 ≤ 9999 from fun q => c ⟨Int32.not_lt.mp c1, q⟩), r1]
    · simp only [fX11_see, bnd_s, pw_s, rd_0, rd_1, rd_2, rd_3, rd_4, rd_5, rd_6, wr_0, wr_1, wr_2, wr_3, wr_4, wr_5, zb_0, zb_1, Nat.reduceLT, Nat.reducePow, E2, if_neg n1, g37, if_neg q8', e, e', if_true, r2]
  have e' : fX11_isIn (up2 hm 0 2 0) (nI m).toInt64 (0 : Int64) (9999 : Int64) = some 1 := e' _
  have q3 : ¬ nI m < 0 := nI_pos (by omega)
  have q4 : nI m ≤ 9999 := nI_le (b := 9999) hm' (by decide)
  obtain ⟨y, ey⟩ : ∃ y, y = up2 (up2 (up2 (up2 hc 210 k (nI a)) 211 k (nI n)) 212 k (nI m)) 209 0 (nI (k + 1)) := ⟨_, rfl⟩
  obtain ⟨z, ez⟩ : ∃ z, z = up2 (up2 (up2 (up2 (up2 hm 0 2 0) 33 k (nI a)) 34 k (nI n)) 35 k (nI m)) 0 37 (nI (k + 1)) := ⟨_, rfl⟩
  have yk : ∀ i, i < 209 ∨ 213 ≤ i → y i = hc i := fun i hi => by rw [ey, up2_n (by omega), up2_n (by omega), up2_n (by omega), up2_n (by omega)]
  have zk : ∀ i, i ≠ 0 → i ≠ 33 → i ≠ 34 → i ≠ 35 → z i = hm i := fun i a b c d => by rw [ez, up2_n a, up2_n d, up2_n c, up2_n b, up2_n a]
  have z0 : ∀ j, j ≠ 2 → j ≠ 37 → z 0 j = hm 0 j := fun j c d => by rw [ez, up2_sn d, up2_n (by decide), up2_n (by decide), up2_n (by decide), up2_sn c]
  have z02 : z 0 2 = 0 := by rw [ez, up2_sn (by decide), up2_n (by decide), up2_n (by decide), up2_n (by decide), up2_ss]
  refine Or.inl ⟨nI (k + 1), y, z, ?_, ?_, z02, ?_⟩
  · have w1 : up2 hc 210 k (nI a) 209 0 = nI k := by rw [up2_n (by decide)]; exact s3'
    have w2 : up2 (up2 hc 210 k (nI a)) 211 k (nI n) 209 0 = nI k := by rw [up2_n (by decide)]; exact w1
    have w3 : up2 (up2 (up2 hc 210 k (nI a)) 211 k (nI n)) 212 k (nI m) 209 0 = nI k := by rw [up2_n (by decide)]; exact w2
    have y0 : y 209 0 = nI (k + 1) := by rw [ey, up2_ss]
    simp only [fX10_see, fX7_add, fX7_add_49, bnd_s, pw_s, rd_0, rd_1, rd_2, rd_3, rd_4, rd_5, rd_6, wr_0, wr_1, wr_2, wr_3, wr_4, wr_5, zb_0, zb_1, Nat.reduceLT, Nat.reducePow, e1, sm, s3', if_neg q8, if_neg q1, if_neg q2, if_neg q3, if_pos q4, Nat.reduceAdd, wr_k (n := 8) hk, w1, w2, w3, nI_1, ← ey, y0]
  · have w1 : up2 (up2 hm 0 2 0) 33 k (nI a) 0 37 = nI k := by rw [up2_n (by decide)]; exact g37
    have w2 : up2 (up2 (up2 hm 0 2 0) 33 k (nI a)) 34 k (nI n) 0 37 = nI k := by rw [up2_n (by decide)]; exact w1
    have w3 : up2 (up2 (up2 (up2 hm 0 2 0) 33 k (nI a)) 34 k (nI n)) 35 k (nI m) 0 37 = nI k := by rw [up2_n (by decide)]; exact w2
    have y0 : z 0 37 = nI (k + 1) := by rw [ez, up2_ss]
    simp only [fX11_see, bnd_s, pw_s, rd_0, rd_1, rd_2, rd_3, rd_4, rd_5, rd_6, wr_0, wr_1, wr_2, wr_3, wr_4, wr_5, zb_0, zb_1, Nat.reduceLT, Nat.reducePow, E2, if_neg n1, g37, if_neg q8', e, e', wr_k (n := 8) hk, w1, w2, w3, nI_1, ← ez, y0]
  · refine Inv.wr h h2 (A' := A) (fun i _ _ _ q => yk i (by omega)) ?_ ?_ (hR.kept (yk _ (by decide)) (yk _ (by decide)) (yk _ (by decide)) (yk _ (by decide))) ?_ hA (fun j hj => ?_) ?_ ?_
    · rw [ez]; exact ((((Fr.rf.up (by decide)).up (by decide)).up (by decide)).up (by decide)).up (by decide)
    · rw [ez]; exact ((((Fs.rf.up (by decide)).un (by decide)).un (by decide)).un (by decide)).up (by decide)
    · unfold RM1
      rw [z0 33 (by decide) (by decide), z0 34 (by decide) (by decide), z0 35 (by decide) (by decide), zk 19 (by decide) (by decide) (by decide) (by decide), zk 20 (by decide) (by decide) (by decide) (by decide), zk 21 (by decide) (by decide) (by decide) (by decide)]
      exact hR1
    · rw [yk 213 (by decide), zk 17 (by decide) (by decide) (by decide) (by decide)]; exact k5 j hj
    · have zz : z 0 37 = nI (k + 1) := by rw [ez, up2_ss]
      have y1 : y 210 = upd (hc 210) k (nI a) := by rw [ey, up2_n (by decide), up2_n (by decide), up2_n (by decide), up2_s]
      have y2 : y 211 = upd (hc 211) k (nI n) := by rw [ey, up2_n (by decide), up2_n (by decide), up2_s, up2_n (by decide)]
      have y3 : y 212 = upd (hc 212) k (nI m) := by rw [ey, up2_n (by decide), up2_s, up2_n (by decide), up2_n (by decide)]
      have w1 : z 33 = upd (hm 33) k (nI a) := by rw [ez, up2_n (by decide), up2_n (by decide), up2_n (by decide), up2_s, up2_n (by decide)]
      have w2 : z 34 = upd (hm 34) k (nI n) := by rw [ez, up2_n (by decide), up2_n (by decide), up2_s, up2_n (by decide), up2_n (by decide)]
      have w3 : z 35 = upd (hm 35) k (nI m) := by rw [ez, up2_n (by decide), up2_s, up2_n (by decide), up2_n (by decide), up2_n (by decide)]
      rw [zz]
      refine ⟨k + 1, rfl, hk, by rw [ey]; exact up2_ss _ _ _ _, fun i hi => ?_⟩
      show y 210 i = _ ∧ y 211 i = _ ∧ y 212 i = _ ∧ _
      rw [y1, y2, y3, w1, w2, w3]
      by_cases c : i = k
      · rw [c, upd_s, upd_s, upd_s, upd_s, upd_s, upd_s]
        exact ⟨rfl, rfl, rfl, ⟨a, ha, rfl⟩, n, hn, rfl⟩
      · rw [upd_n c, upd_n c, upd_n c, upd_n c, upd_n c, upd_n c]
        exact s4 i (by omega)
    · rw [z0 36 (by decide) (by decide), zk 22 (by decide) (by decide) (by decide) (by decide)]
      exact k7.kept2 (fun i a b => yk i (by omega))
/-! copies -/
theorem copyA {o o1 : Nat} (hd : o + 3 < o1 ∨ o1 + 3 < o) (hc : ST) : ∃ y, fX8_copy hc o o1 = some y ∧ (∀ M A, nR M ≤ 9 → nC M ≤ 10 → RC o1 M A hc → RC o M A y) ∧ Fr [o, o + 1, o + 2, o + 3] hc y := by
  obtain ⟨y, h1, ⟨a1, a2, a3⟩, a4, a5, a6, a7⟩ := copyC hd hc
  exact ⟨y, h1, fun M A h9 h10 hR => ⟨⟨a1.trans hR.1.1, a2.trans hR.1.2.1, a3.trans hR.1.2.2⟩, fun r hr => ⟨(a4 r (by omega)).trans (hR.2.1 r hr).1, (a5 r (by omega)).trans (hR.2.1 r hr).2⟩, fun i hi => (a6 i (by omega)).trans (hR.2.2 i hi)⟩, a7⟩
theorem copyActs {o o1 : Nat} (hd : o + 171 < o1 ∨ o1 + 171 < o) (hc : ST) : ∃ y, fX0_copy hc (o + 5) (o1 + 5) = some y ∧ (∀ M many past, nR M ≤ 9 → nC M ≤ 10 → ActsR o1 M hc many past → ActsR o M y many past) ∧ ∀ i, (i < o + 5 ∨ o + 167 ≤ i) → y i = hc i := by
  obtain ⟨x, ex⟩ : ∃ x, x = up2 (up2 hc (o + 5) 0 (hc (o1 + 5) 0)) (o + 5) 1 (hc (o1 + 5) 1) := ⟨_, rfl⟩
  have xk : ∀ i, i ≠ o + 5 → x i = hc i := fun i hi => by rw [ex, up2_n hi, up2_n hi]
  obtain ⟨y, y1, y2, y3⟩ : ∃ y, lp FU (fX0_copy_18 (o + 5) (o1 + 5)) (x, 0) = some y ∧ (∀ j, j < 40 → ∀ M A, nR M ≤ 9 → nC M ≤ 10 → RC (o1 + 7 + 4 * j) M A hc → RC (o + 7 + 4 * j) M A y) ∧ ∀ i, (i < o + 7 ∨ o + 167 ≤ i) → y i = x i := by
    refine lp_cnt (b := fX0_copy_18 (o + 5) (o1 + 5)) (fun i s => s.2 = nI i ∧ (∀ j, j < i → ∀ M A, nR M ≤ 9 → nC M ≤ 10 → RC (o1 + 7 + 4 * j) M A hc → RC (o + 7 + 4 * j) M A s.1) ∧ ∀ q, (q < o + 7 ∨ o + 167 ≤ q) → s.1 q = x q) 40 (by decide) ?_ ?_ ⟨rfl, fun j hj => absurd hj (Nat.not_lt_zero j), fun _ _ => rfl⟩
    · rintro i ⟨s, t⟩ hi ⟨rfl, s1, s2⟩
      dsimp only at s1 s2
      obtain ⟨z, z1, z2, z3⟩ := copyA (o := o + 7 + 4 * i) (o1 := o1 + 7 + 4 * i) (by omega) s
      refine Or.inl ⟨(z, nI (i + 1)), ?_, rfl, fun j hj M A h9 h10 hR => ?_, fun q hq => (z3 q (by simp only [List.mem_cons, List.not_mem_nil, or_false]; omega)).trans (s2 q hq)⟩
      · have q1 : ¬ 40 ≤ nI i := nI_ge (b := 40) hi (by decide)
        have b1 : bst (o + 5 + 1) (nI i) = some (o + 7 + 4 * i) := (bst_k hi).trans (congrArg some (by omega))
        have b2 : bst (o1 + 5 + 1) (nI i) = some (o1 + 7 + 4 * i) := (bst_k hi).trans (congrArg some (by omega))
        simp only [fX0_copy_18, if_neg q1, b1, b2, bnd_s, z1, nI_1]
      · dsimp only
        by_cases c : j = i
        · subst c
          have e : ∀ q, (o1 + 7 ≤ q ∧ q < o1 + 167) → s q = hc q := fun q hq => (s2 q (by omega)).trans (xk q (by omega))
          exact z2 M A h9 h10 (hR.kept (e _ (by omega)) (e _ (by omega)) (e _ (by omega)) (e _ (by omega)))
        · exact (s1 j (by omega) M A h9 h10 hR).kept (z3 _ (by simp only [List.mem_cons, List.not_mem_nil, or_false]; omega)) (z3 _ (by simp only [List.mem_cons, List.not_mem_nil, or_false]; omega)) (z3 _ (by simp only [List.mem_cons, List.not_mem_nil, or_false]; omega)) (z3 _ (by simp only [List.mem_cons, List.not_mem_nil, or_false]; omega))
    · rintro ⟨s, t⟩ ⟨rfl, s1, s2⟩
      exact ⟨s, by simp only [fX0_copy_18, if_pos (show (40 : Int32) ≤ nI 40 by decide)], s1, s2⟩
  have y5 : y (o + 5) = x (o + 5) := y3 _ (by omega)
  refine ⟨y, ?_, fun M many past h9 h10 hA => ?_, fun i hi => (y3 i (by omega)).trans (xk i (by omega))⟩
  · have g : up2 hc (o + 5) 0 (hc (o1 + 5) 0) (o1 + 5) 1 = hc (o1 + 5) 1 := by rw [up2_n (by omega)]
    simp only [fX0_copy, bnd_s, pw_s, rd_0, rd_1, rd_2, rd_3, rd_4, rd_5, rd_6, wr_0, wr_1, wr_2, wr_3, wr_4, wr_5, zb_0, zb_1, Nat.reduceLT, Nat.reducePow, g, ← ex, y1]
  · obtain ⟨k, first, e1, e2, e3, e4, e5, e6⟩ := hA
    refine ⟨k, first, e1, e2, ?_, ?_, e5, fun j hj => ?_⟩
    · rw [y5, ex, up2_sn (by decide), up2_ss]; exact e3
    · rw [y5, ex, up2_ss]; exact e4
    · obtain ⟨B, b1, b2, b3⟩ := e6 j hj
      exact ⟨B, b1, y2 _ (Nat.mod_lt _ (by decide)) M B h9 h10 b2, b3⟩
theorem copyP {o o1 : Nat} (hd : o + 171 < o1 ∨ o1 + 171 < o) (hc : ST) : ∃ y, fX3_copy hc o o1 = some y ∧ (∀ M A, nR M ≤ 9 → nC M ≤ 10 → RC (o1 + 1) M A hc → RC (o + 1) M A y) ∧ (∀ M many past, nR M ≤ 9 → nC M ≤ 10 → ActsR o1 M hc many past → ActsR o M y many past) ∧ (∀ M many rm dy mu, SightR o1 M hc many rm dy mu → SightR o M y many rm dy mu) ∧ (∀ k, k < 3 → y (o + 171) k = hc (o1 + 171) k) ∧ ∀ i, (i < o + 1 ∨ o + 172 ≤ i) → y i = hc i := by
  obtain ⟨a, a1, a2, a3⟩ := copyA (o := o + 1) (o1 := o1 + 1) (by omega) hc
  obtain ⟨b, b1, b2, b3⟩ := copyActs hd a
  obtain ⟨c, ec⟩ : ∃ c, c = upR (upR (upR (up2 b (o + 167) 0 (b (o1 + 167) 0)) (o + 167 + 1) (cpy 8 (b (o1 + 167 + 1)) (b (o + 167 + 1)))) (o + 167 + 2) (cpy 8 (b (o1 + 167 + 2)) (b (o + 167 + 2)))) (o + 167 + 3) (cpy 8 (b (o1 + 167 + 3)) (b (o + 167 + 3))) := ⟨_, rfl⟩
  have ck : ∀ i, i < o + 167 ∨ o + 171 ≤ i → c i = b i := fun i hi => by rw [ec, upR_n (by omega), upR_n (by omega), upR_n (by omega), up2_n (by omega)]
  have c7 : fX7_copy b (o + 167) (o1 + 167) = some c := by
    unfold fX7_copy
    simp only [pw_s, bnd_s]
    rw [acp_8 (by omega), bnd_s, acp_8 (by omega), bnd_s, acp_8 (by omega), bnd_s, ec]
    rw [up2_n (show o1 + 167 + 1 ≠ o + 167 by omega), up2_n (show o + 167 + 1 ≠ o + 167 by omega)]
    rw [upR_n (show o1 + 167 + 2 ≠ o + 167 + 1 by omega), upR_n (show o + 167 + 2 ≠ o + 167 + 1 by omega), up2_n (show o1 + 167 + 2 ≠ o + 167 by omega), up2_n (show o + 167 + 2 ≠ o + 167 by omega)]
    rw [upR_n (show o1 + 167 + 3 ≠ o + 167 + 2 by omega), upR_n (show o + 167 + 3 ≠ o + 167 + 2 by omega), upR_n (show o1 + 167 + 3 ≠ o + 167 + 1 by omega), upR_n (show o + 167 + 3 ≠ o + 167 + 1 by omega), up2_n (show o1 + 167 + 3 ≠ o + 167 by omega), up2_n (show o + 167 + 3 ≠ o + 167 by omega)]
  obtain ⟨d, ed⟩ : ∃ d, d = upR c (o + 171) (cpy 3 (c (o1 + 171)) (c (o + 171))) := ⟨_, rfl⟩
  have dk : ∀ i, i ≠ o + 171 → d i = c i := fun i hi => by rw [ed, upR_n hi]
  have ak : ∀ i, (i < o + 1 ∨ o + 5 ≤ i) → a i = hc i := fun i hi => a3 i (by simp only [List.mem_cons, List.not_mem_nil, or_false]; omega)
  refine ⟨d, ?_, fun M A h9 h10 hR => ?_, fun M many past h9 h10 hA => ?_, fun M many rm dy mu hS => ?_, fun k hk => ?_, fun i hi => ?_⟩
  · have e3 : acp 3 3 c (o1 + 171) (o + 171) 0 0 (Int32.ofNat 3) = some d := by rw [ed]; exact acp_k (k := 3) (by omega) rfl (by decide) (by decide)
    simp only [fX3_copy, bnd_s, a1, b1, c7, e3]
  · have e : ∀ i, o + 1 ≤ i → i < o + 5 → d i = a i := fun i h1 h2 => (dk i (by omega)).trans ((ck i (by omega)).trans (b3 i (by omega)))
    exact (a2 M A h9 h10 hR).kept (e _ (by omega) (by omega)) (e _ (by omega) (by omega)) (e _ (by omega) (by omega)) (e _ (by omega) (by omega))
  · exact (b2 M many past h9 h10 (hA.kept2 (fun i h1 h2 => ak i (by omega)))).kept2 (fun i h1 h2 => (dk i (by omega)).trans (ck i (by omega)))
  · obtain ⟨k, s1, s2, s3, s4⟩ := hS
    have e : ∀ i, o1 ≤ i → i < o1 + 172 → b i = hc i := fun i h1 h2 => (b3 i (by omega)).trans (ak i (by omega))
    refine ⟨k, s1, s2, ?_, fun i hi => ?_⟩
    · rw [dk _ (by omega), ec, upR_n (by omega), upR_n (by omega), upR_n (by omega), up2_ss, e _ (by omega) (by omega)]; exact s3
    · have d1 : d (o + 168) i = hc (o1 + 168) i := by
        rw [dk _ (by omega), ec, upR_n (by omega), upR_n (by omega)]
        show upR _ (o + 168) _ (o + 168) i = _
        rw [upR_s, cpy_in (by omega), e _ (by omega) (by omega)]
      have d2 : d (o + 169) i = hc (o1 + 169) i := by
        rw [dk _ (by omega), ec, upR_n (by omega)]
        show upR _ (o + 169) _ (o + 169) i = _
        rw [upR_s, cpy_in (by omega), e _ (by omega) (by omega)]
      have d3 : d (o + 170) i = hc (o1 + 170) i := by
        rw [dk _ (by omega), ec]
        show upR _ (o + 170) _ (o + 170) i = _
        rw [upR_s, cpy_in (by omega), e _ (by omega) (by omega)]
      rw [d1, d2, d3]
      exact s4 i hi
  · rw [ed, upR_s, cpy_in hk, ck _ (by omega), b3 _ (by omega), ak _ (by omega)]
  · rw [dk i (by omega), ck i (by omega), b3 i (by omega), ak i (by omega)]
theorem beM {h : ST} {o1 o2 n : Nat} (ne : o1 ≠ o2) (hn : n < 100000) : ∃ z, fX11_be h o1 n o2 n = some z ∧ (∀ j, j < n → z o1 j = h o2 j) ∧ Fr [o1] h z := by
  obtain ⟨z, z1, z2, z3⟩ : ∃ z, lp FU (fX11_be_2 o1 n o2 n) (h, 0) = some z ∧ (∀ j, j < n → z o1 j = h o2 j) ∧ Fr [o1] h z := by
    refine lp_cnt (b := fX11_be_2 o1 n o2 n) (fun i s => s.2 = nI i ∧ (∀ j, j < i → s.1 o1 j = h o2 j) ∧ Fr [o1] h s.1) n (by omega) ?_ ?_ ⟨rfl, fun j hj => absurd hj (Nat.not_lt_zero j), Fr.rf⟩
    · rintro i ⟨s, t⟩ hi ⟨rfl, s1, s2⟩
      dsimp only at s1 s2
      have e : s o2 = h o2 := s2 o2 (by simp only [List.mem_cons, List.not_mem_nil, or_false]; exact Ne.symm ne)
      refine Or.inl ⟨(up2 s o1 i (h o2 i), nI (i + 1)), ?_, rfl, fun j hj => ?_, s2.up (by simp)⟩
      · have q1 : ¬ Int32.ofNat n ≤ nI i := nI_ge hi (by omega)
        simp only [fX11_be_2, if_neg q1, rd_k (n := n) hi (by omega), wr_k (n := n) hi (by omega), bnd_s, e, nI_1]
      · dsimp only
        rw [up2_s]
        by_cases c : j = i
        · rw [c, upd_s]
        · rw [upd_n c]; exact s1 j (by omega)
    · rintro ⟨s, t⟩ ⟨rfl, s1, s2⟩
      exact ⟨s, by simp only [fX11_be_2, if_pos (show Int32.ofNat n ≤ nI n from Int32.le_refl _)], s1, s2⟩
  exact ⟨z, by simp only [fX11_be, z1, bnd_s], z2, z3⟩
theorem ActsR.past {P : Nat} {M hc : ST} (h9 : nR M ≤ 9) (h10 : nC M ≤ 10) {many : Int32} {past past' : Nat → Int32} (h : ActsR P M hc many past) (e : ∀ j, j < 1240 → past' j = past j) : ActsR P M hc many past' := by
  obtain ⟨k, first, e1, e2, e3, e4, e5, e6⟩ := h
  refine ⟨k, first, e1, e2, e3, e4, e5, fun j hj => ?_⟩
  obtain ⟨B, b1, b2, b3⟩ := e6 j hj
  exact ⟨B, b1, b2, b3.kept h9 h10 (fun i _ hi => e i (by omega))⟩
theorem SightR.rows {P : Nat} {M hc : ST} {many : Int32} {a b c a' b' c' : Nat → Int32} (h : SightR P M hc many a b c) (e1 : ∀ j, j < 8 → a' j = a j) (e2 : ∀ j, j < 8 → b' j = b j) (e3 : ∀ j, j < 8 → c' j = c j) : SightR P M hc many a' b' c' := by
  obtain ⟨k, s1, s2, s3, s4⟩ := h
  refine ⟨k, s1, s2, s3, fun i hi => ?_⟩
  rw [e1 i (by omega), e2 i (by omega), e3 i (by omega)]
  exact s4 i hi
