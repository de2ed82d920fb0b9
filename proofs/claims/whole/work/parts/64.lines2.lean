/-! ===== parish: winds, every, clean ===== -/
theorem HFr.k {g : Nat} {h t h' t' : ST} {nr : Nat} (x : HFr g h t nr) (c1 : h' (g + 1) = h (g + 1)) (c2 : h' (g + 2) = h (g + 2)) (c3 : h' (g + 3) = h (g + 3)) (c4 : h' (g + 4) = h (g + 4)) (m4 : t' 4 = t 4) (m5 : t' 5 = t 5) (m6 : t' 6 = t 6) (m7 : t' 7 = t 7) : HFr g h' t' nr := by
  unfold HFr; rw [c1, c2, c3, c4, m4, m5, m6, m7]; exact x
theorem HFd.k {g : Nat} {h t h' t' : ST} {nr nd : Nat} (x : HFd g h t nr nd) (c5 : h' (g + 5) = h (g + 5)) (c6 : h' (g + 6) = h (g + 6)) (c16 : h' (g + 16) = h (g + 16)) (m8 : t' 8 = t 8) (m9 : t' 9 = t 9) (m10 : t' 10 = t 10) : HFd g h' t' nr nd := by
  unfold HFd; rw [wdC_cong m8 m9 m10, c5, c6, c16, m8, m9, m10]; exact x
theorem HFw.k {g : Nat} {h t h' t' : ST} {nr nw : Nat} (x : HFw g h t nr nw) (c7 : h' (g + 7) = h (g + 7)) (c8 : h' (g + 8) = h (g + 8)) (c9 : h' (g + 9) = h (g + 9)) (c10 : h' (g + 10) = h (g + 10)) (m11 : t' 11 = t 11) (m12 : t' 12 = t 12) (m13 : t' 13 = t 13) (m14 : t' 14 = t 14) : HFw g h' t' nr nw := by
  unfold HFw; rw [c7, c8, c9, c10, m11, m12, m13, m14]; exact x
theorem HFc.k {g : Nat} {h t h' t' : ST} {nw nc : Nat} (x : HFc g h t nw nc) (c : h' (g + 11) = h (g + 11)) (m : t' 15 = t 15) : HFc g h' t' nw nc := by
  unfold HFc; rw [c, m]; exact x
theorem HFz.k {g : Nat} {h t h' t' : ST} {nz : Nat} (x : HFz g h t nz) (c : h' (g + 14) = h (g + 14)) (m : t' 16 = t 16) : HFz g h' t' nz := by
  unfold HFz; rw [c, m]; exact x
theorem KG.st {g : Nat} {a b : ST} (x : Fr [39] a b) : KG g a b := KG.of x (fun i hi => by simp only [List.mem_cons, List.not_mem_nil, or_false] at hi; omega)
theorem KG.nu {g : Nat} {a b : ST} (x : Fr [38, 39] a b) : KG g a b := KG.of x (fun i hi => by simp only [List.mem_cons, List.not_mem_nil, or_false] at hi; omega)
theorem windLine {g : Nat} {B : Nat → Nat} {L : Nat} {h t : ST} {kd st en nr nd nw nc nz : Nat} (p : PR g B L h t kd st en) (hf : HF g h t nr nd nw nc nz) (k0 : kd ≠ 0) : LR g B L h t st [3] (fX4_readWind h) (fX11_sayWind t) := by
  obtain ⟨⟨⟨n1, n2, n3, n4, n5⟩, ⟨a1, a2⟩, ⟨a3, a4⟩, ⟨a5, a6⟩, ⟨a7, a8⟩, a9, a10, ⟨a11, a12⟩⟩, hr, hd, hw, hc, hz⟩ := id hf
  have g2 := p.2.2.2.2
  have stl := p.2.1.2.2.2.2.2.2.1 k0
  have rff : rf KC 395 1 (h 38 2) = some g := rf_f g2 p.2.2.2.1
  by_cases c : nw < 5
  rotate_left
  · obtain ⟨t', t1, t2, t3, t4⟩ := another_n p (i := 2) (n := nw) (m := 5) (by decide) a5 (by omega)
    have t1' : fX11_another t 2 5 = some (0, t') := t1
    refine Or.inr ⟨2, h, t', ?_, ?_, t2, KG.rf, MG.of t3 t4 W_in⟩
    · unfold fX4_readWind
      rw [rff, bnd_s, if_neg (show ¬ h g 8 < 5 by rw [a6]; exact nI_nlt (b := 5) (by omega) (by omega))]
    · unfold fX11_sayWind
      rw [t1', bnd_s, if_pos rfl]
  obtain ⟨h1, t1, kd1, st1, en1, s1, s2, s3, s4, s5, s6, s7⟩ := p.step
  have an : fX11_another t 2 5 = some (1, t1) := another_y (i := 2) (n := nw) (m := 5) (by decide) a5 (by omega) (by omega) (by decide) p.2.2.1 s2
  have t39 : t1 3 9 = nI nw := by rw [s6 3 (by decide)]; exact a5
  have h18 : h1 g 8 = nI nw := by rw [s5 g (by simp only [List.mem_cons, List.not_mem_nil, or_false]; omega)]; exact a6
  have r1 : rf KC 395 1 (h1 38 2) = some g := rf_f g2 s3.2.2.2.1
  obtain ⟨h2, e2⟩ : ∃ h2, h2 = up2 h1 (g + 7) nw 0 := ⟨_, rfl⟩
  obtain ⟨h3, e3⟩ : ∃ h3, h3 = up2 h2 g 8 (nI (nw + 1)) := ⟨_, rfl⟩
  obtain ⟨t2, m2⟩ : ∃ t2, t2 = up2 t1 11 (5 + nw) 0 := ⟨_, rfl⟩
  obtain ⟨t3, m3⟩ : ∃ t3, t3 = up2 t2 3 9 (nI (nw + 1)) := ⟨_, rfl⟩
  have h2g : h2 g 8 = nI nw := by rw [e2, up2_n (by omega)]; exact h18
  have r2 : rf KC 395 1 (h2 38 2) = some g := by rw [e2, up2_n (by omega)]; exact r1
  have t23 : t2 3 9 = nI nw := by rw [m2, up2_n (by decide)]; exact t39
  have ck : ∀ i, i ≠ g → i ≠ g + 7 → i ≠ 39 → h3 i = h i := fun i a b c => by rw [e3, up2_n a, e2, up2_n b]; exact s5 i (by simp only [List.mem_cons, List.not_mem_nil, or_false]; omega)
  have cg : ∀ j, j ≠ 8 → h3 g j = h g j := fun j hj => by rw [e3, up2_sn hj, e2, up2_n (by omega), s5 g (by simp only [List.mem_cons, List.not_mem_nil, or_false]; omega)]
  have mk : ∀ i, i ≠ 0 → i ≠ 3 → i ≠ 11 → t3 i = t i := fun i a b c => by rw [m3, up2_n b, m2, up2_n c]; exact s6 i (by simp only [List.mem_cons, List.not_mem_nil, or_false]; omega)
  have m3j : ∀ j, j ≠ 9 → t3 3 j = t 3 j := fun j hj => by rw [m3, up2_sn hj, m2, up2_n (by decide), s6 3 (by decide)]
  have w9 : ∀ (x : ST) v, wr 14 x 3 9 v = some (up2 x 3 9 v) := fun x v => wr_k (n := 14) (k := 9) (by decide)
  have r9 : ∀ (x : ST), rd 14 (x 3) 9 = some (x 3 9) := fun x => rd_k (n := 14) (k := 9) (by decide)
  refine Or.inl ⟨h3, t3, kd1, st1, en1, nr, nd, nw + 1, nc, nz, ?_, ?_, ?_, ⟨⟨⟨n1, n2, by omega, n4, n5⟩, ⟨(m3j 7 (by decide)).trans a1, (cg 0 (by decide)).trans a2⟩, ⟨(m3j 8 (by decide)).trans a3, (cg 5 (by decide)).trans a4⟩, ⟨by rw [m3, up2_ss], by rw [e3, up2_ss]⟩, ⟨(m3j 10 (by decide)).trans a7, (cg 13 (by decide)).trans a8⟩, by rw [m3j 11 (by decide), cg 15 (by decide)]; exact a9, by rw [m3j 12 (by decide), cg 16 (by decide)]; exact a10, ⟨(m3j 13 (by decide)).trans a11, by rw [ck _ (by omega) (by omega) (by omega)]; exact a12⟩⟩, ?_, ?_, ?_, ?_, ?_⟩, ?_, ?_, by omega, ?_, Or.inr (m3j 13 (by decide)), Or.inr (m3j 10 (by decide)), no3⟩
  · unfold fX4_readWind
    rw [rff, bnd_s, if_pos (show h g 8 < 5 by rw [a6]; exact nI_lt (b := 5) c (by decide)), s1, bnd_s, r1, bnd_s, bnd_s, h18, wr_k (n := 5) c, bnd_s, ← e2, r2, bnd_s, h2g, pw_s, bnd_s, nI_1, ← e3]
  · unfold fX11_sayWind
    rw [an, bnd_s]
    dsimp only
    rw [if_neg (show ¬ (1 : Int32) = 0 by decide), r9, bnd_s, t39, show (5 : Int32) + nI nw = nI (5 + nw) from nI_add 5 nw, wr_k (n := 10) (show 5 + nw < 10 by omega), bnd_s, ← m2, r9, bnd_s, t23, w9, bnd_s, nI_1, ← m3]
  · refine s3.kept ?_ ?_ ?_ ?_ ?_
    · rw [e3, up2_n (by omega), e2, up2_n (by omega)]
    · rw [e3, up2_n (by omega), e2, up2_n (by omega)]
    · rw [e3, up2_n (by omega), e2, up2_n (by omega)]
    · rw [m3, up2_n (by decide), m2, up2_n (by decide)]
    · rw [m3, up2_n (by decide), m2, up2_n (by decide)]
  · exact hr.k (ck _ (by omega) (by omega) (by omega)) (ck _ (by omega) (by omega) (by omega)) (ck _ (by omega) (by omega) (by omega)) (ck _ (by omega) (by omega) (by omega)) (mk 4 (by decide) (by decide) (by decide)) (mk 5 (by decide) (by decide) (by decide)) (mk 6 (by decide) (by decide) (by decide)) (mk 7 (by decide) (by decide) (by decide))
  · exact hd.k (ck _ (by omega) (by omega) (by omega)) (ck _ (by omega) (by omega) (by omega)) (ck _ (by omega) (by omega) (by omega)) (mk 8 (by decide) (by decide) (by decide)) (mk 9 (by decide) (by decide) (by decide)) (mk 10 (by decide) (by decide) (by decide))
  · intro w hw'
    have c7 : h3 (g + 7) = upd (h (g + 7)) nw 0 := by rw [e3, up2_n (by omega), e2, up2_s, s5 (g + 7) (by simp only [List.mem_cons, List.not_mem_nil, or_false]; omega)]
    have d11 : t3 11 = upd (t 11) (5 + nw) 0 := by rw [m3, up2_n (by decide), m2, up2_s, s6 11 (by decide)]
    rw [c7, d11]
    by_cases u : w = nw
    · rw [u, upd_s, upd_s]
      exact ⟨0, by decide, ⟨rfl, rfl⟩, fun j hj => absurd hj (Nat.not_lt_zero j)⟩
    · rw [upd_n (show 5 + w ≠ 5 + nw by omega), upd_n u, ck (g + 8) (by omega) (by omega) (by omega), ck (g + 9) (by omega) (by omega) (by omega), ck (g + 10) (by omega) (by omega) (by omega), mk 12 (by decide) (by decide) (by decide), mk 13 (by decide) (by decide) (by decide), mk 14 (by decide) (by decide) (by decide)]
      exact hw w (by omega)
  · refine HFc.k (h := h) (t := t) (fun i hi => ?_) (ck _ (by omega) (by omega) (by omega)) (mk 15 (by decide) (by decide) (by decide))
    obtain ⟨v, v1, v2⟩ := hc i hi
    exact ⟨v, by omega, v2⟩
  · exact hz.k (ck _ (by omega) (by omega) (by omega)) (mk 16 (by decide) (by decide) (by decide))
  · rw [e3, e2]; exact ((KG.st s5).up (by omega)).up (by omega)
  · rw [m3, m2]; exact ((MG.of s6 s7 TKs_in).up (by decide) (by decide) (by unfold hfz; simp)).up (by decide) (by decide) (by decide)
  · intro j _
    rw [ck 38 (by omega) (by omega) (by omega)]
/-- every and clean: a number into a slot -/
theorem slotLine {g : Nat} {B : Nat → Nat} {L : Nat} {h t : ST} {kd st en nr nd nw nc nz : Nat} (p : PR g B L h t kd st en) (hf : HF g h t nr nd nw nc nz) (k0 : kd ≠ 0) {fl sl ms lo hi : Nat} (hfl : fl = 5 ∧ sl = 15 ∧ ms = 11 ∧ lo = 1 ∧ hi = 30 ∨ fl = 6 ∧ sl = 16 ∧ ms = 12 ∧ lo = 0 ∧ hi = 999) :
    LR g B L h t st [3, fl] (bnd (pw h 38 fl 1) fun h2 => bnd (fX9_step h2) fun r4 => bnd (fX4_readNumber r4 (nI lo) (nI hi)) fun r6 => bnd (rf KC 395 1 (r6.2 38 2)) fun f8 => if r6.1 = 0 then bnd (pw r6.2 f8 sl (r6.2 38 3)) fun h13 => some (r6.1, h13) else bnd (rf KC 395 1 (r6.2 38 2)) fun f11 => bnd (pw r6.2 f8 sl (r6.2 f11 sl)) fun h13 => some (r6.1, h13))
      (bnd (fX11_stepOn t) fun r55 => bnd (fX11_readNumber r55 (nI lo) (nI hi)) fun r49 => bnd (wr 14 r49.2 3 (nI ms) r49.1) fun h51 => some h51) := by
  obtain ⟨⟨⟨n1, n2, n3, n4, n5⟩, ⟨a1, a2⟩, ⟨a3, a4⟩, ⟨a5, a6⟩, ⟨a7, a8⟩, a9, a10, ⟨a11, a12⟩⟩, hr, hd, hw, hc, hz⟩ := id hf
  have g2 := p.2.2.2.2
  have stl := p.2.1.2.2.2.2.2.2.1 k0
  have p' : PR g B L (up2 h 38 fl 1) t kd st en := p.kept (up2_n (by decide)) (up2_n (by decide)) (up2_sn (by omega)) rfl rfl
  obtain ⟨h1, t1, kd1, st1, en1, s1, s2, s3, s4, s5, s6, s7⟩ := p'.step
  have KG1 : KG g h h1 := (KG.rf.up (by omega)).tr (KG.st s5)
  have MG1 : MG t t1 := MG.of s6 s7 TKs_in
  have S1 : Fs 38 [3, fl] h h1 := (Fs.rf.up (by simp)).tr (Fs.of s5 (by decide))
  have le1 := s3.2.1.2.2.2.2.1.1
  have wm : ∀ (x : ST) v, wr 14 x 3 (nI ms) v = some (up2 x 3 ms v) := fun x v => wr_k (n := 14) (show ms < 14 by omega)
  rcases numR s3 (lo := lo) (hi := hi) (by omega) (by omega) with ⟨v, h3, t3, kd3, st3, en3, v1, v2, c3, d3, v3, p3, l3, f3, g3, q3, u3⟩ | ⟨cc, t3, c3, d3, bd, q3, u3⟩
  rotate_left
  · have r1 : rf KC 395 1 (h1 38 2) = some g := rf_f g2 s3.2.2.2.1
    refine Or.inr ⟨cc, up2 h1 g sl (h1 g sl), up2 t3 3 ms 0, ?_, ?_, bd.kept (up2_n (by omega)) (up2_n (by decide)), KG1.up (by omega), (MG1.tr (MG.of q3 u3 W_in)).up (by decide) (by decide) (by unfold hfz; simp; omega)⟩
    · rw [pw_s, bnd_s, s1, bnd_s, c3, bnd_s]
      dsimp only
      rw [r1, bnd_s, if_neg bd.1, bnd_s, pw_s, bnd_s]
    · rw [s2, bnd_s, d3, bnd_s]
      dsimp only
      rw [wm, bnd_s]
  · have r3 : rf KC 395 1 (h3 38 2) = some g := rf_f g2 p3.2.2.2.1
    have ck : ∀ i, i ≠ g → i ≠ 38 → i ≠ 39 → up2 h3 g sl (nI v) i = h i := fun i a b c => by rw [up2_n a, f3 i (by simp only [List.mem_cons, List.not_mem_nil, or_false]; omega), s5 i (by simp only [List.mem_cons, List.not_mem_nil, or_false]; omega), up2_n b]
    have cg : ∀ j, j ≠ sl → up2 h3 g sl (nI v) g j = h g j := fun j hj => by rw [up2_sn hj, f3 g (by simp only [List.mem_cons, List.not_mem_nil, or_false]; omega), s5 g (by simp only [List.mem_cons, List.not_mem_nil, or_false]; omega), up2_n (by omega)]
    have mk : ∀ i, i ≠ 0 → i ≠ 3 → up2 t3 3 ms (nI v) i = t i := fun i a b => by rw [up2_n b, q3 i (by simp only [List.mem_cons, List.not_mem_nil, or_false]; omega), s6 i (by simp only [List.mem_cons, List.not_mem_nil, or_false]; omega)]
    have m3j : ∀ j, j ≠ ms → up2 t3 3 ms (nI v) 3 j = t 3 j := fun j hj => by rw [up2_sn hj, q3 3 (by decide), s6 3 (by decide)]
    refine Or.inl ⟨up2 h3 g sl (nI v), up2 t3 3 ms (nI v), kd3, st3, en3, nr, nd, nw, nc, nz, ?_, ?_, p3.kept (up2_n (by omega)) (up2_n (by omega)) (by rw [up2_n (by omega)]) (up2_n (by decide)) (up2_n (by decide)), ⟨⟨⟨n1, n2, n3, n4, n5⟩, ⟨(m3j 7 (by omega)).trans a1, (cg 0 (by omega)).trans a2⟩, ⟨(m3j 8 (by omega)).trans a3, (cg 5 (by omega)).trans a4⟩, ⟨(m3j 9 (by omega)).trans a5, (cg 8 (by omega)).trans a6⟩, ⟨(m3j 10 (by omega)).trans a7, (cg 13 (by omega)).trans a8⟩, ?_, ?_, ⟨(m3j 13 (by omega)).trans a11, by rw [ck _ (by omega) (by omega) (by omega)]; exact a12⟩⟩, ?_, ?_, ?_, ?_, ?_⟩, (KG1.tr (KG.nu f3)).up (by omega), (MG1.tr (MG.of q3 u3 TKs_in)).up (by decide) (by decide) (by unfold hfz; simp; omega), by omega, ?_, Or.inr (m3j 13 (by omega)), Or.inr (m3j 10 (by omega)), ?_⟩
    · rw [pw_s, bnd_s, s1, bnd_s, c3, bnd_s]
      dsimp only
      rw [r3, bnd_s, if_pos rfl, v3, pw_s, bnd_s]
    · rw [s2, bnd_s, d3, bnd_s]
      dsimp only
      rw [wm, bnd_s]
    · rcases hfl with ⟨-, rfl, rfl, rfl, rfl⟩ | ⟨-, rfl, rfl, rfl, rfl⟩
      · exact ⟨v, v1, v2, up2_ss _ _ _ _, up2_ss _ _ _ _⟩
      · rw [m3j 11 (by decide), cg 15 (by decide)]; exact a9
    · rcases hfl with ⟨-, rfl, rfl, rfl, rfl⟩ | ⟨-, rfl, rfl, rfl, rfl⟩
      · rw [m3j 12 (by decide), cg 16 (by decide)]; exact a10
      · exact ⟨v, v2, up2_ss _ _ _ _, up2_ss _ _ _ _⟩
    · exact hr.k (ck _ (by omega) (by omega) (by omega)) (ck _ (by omega) (by omega) (by omega)) (ck _ (by omega) (by omega) (by omega)) (ck _ (by omega) (by omega) (by omega)) (mk 4 (by decide) (by decide)) (mk 5 (by decide) (by decide)) (mk 6 (by decide) (by decide)) (mk 7 (by decide) (by decide))
    · exact hd.k (ck _ (by omega) (by omega) (by omega)) (ck _ (by omega) (by omega) (by omega)) (ck _ (by omega) (by omega) (by omega)) (mk 8 (by decide) (by decide)) (mk 9 (by decide) (by decide)) (mk 10 (by decide) (by decide))
    · exact hw.k (ck _ (by omega) (by omega) (by omega)) (ck _ (by omega) (by omega) (by omega)) (ck _ (by omega) (by omega) (by omega)) (ck _ (by omega) (by omega) (by omega)) (mk 11 (by decide) (by decide)) (mk 12 (by decide) (by decide)) (mk 13 (by decide) (by decide)) (mk 14 (by decide) (by decide))
    · exact hc.k (ck _ (by omega) (by omega) (by omega)) (mk 15 (by decide) (by decide))
    · exact hz.k (ck _ (by omega) (by omega) (by omega)) (mk 16 (by decide) (by decide))
    · intro j hj
      have hj2 : j ∉ [3] := fun q => hj (by simp only [List.mem_cons, List.not_mem_nil, or_false] at q ⊢; exact Or.inl q)
      rw [up2_n (by omega), g3 j hj2]
      exact S1 j hj
    · intro k hk n3
      have e : k = fl := by simp only [List.mem_cons, List.not_mem_nil, or_false] at hk; exact hk.resolve_left n3
      rw [e, up2_n (by omega), g3 fl (by simp only [List.mem_cons, List.not_mem_nil, or_false]; omega), s5 38 (by decide), up2_ss]
