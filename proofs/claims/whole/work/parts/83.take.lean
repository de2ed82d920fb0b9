/-! ===== parish: the reference takes over what was read ===== -/
theorem takeHalfX {h : ST} {o m : Nat} (hm : m ≤ 700) : ∃ y, fX11_takeHalf h o (2 * m) = some y ∧ (∀ k, k < m → y o k = h o (m + k)) ∧ Fr [o] h y := by
  have e2 : Int32.ofNat (2 * m) / 2 = nI m := by
    have := pk_div (a := 2 * m) (d := 2) (by omega) (by decide) (by decide)
    rw [show 2 * m / 2 = m by omega] at this
    exact this
  obtain ⟨y, y1, y2, y3, y4⟩ : ∃ y, lp FU (fX11_takeHalf_2 o (2 * m)) (h, 0) = some y ∧ (∀ k, k < m → y o k = h o (m + k)) ∧ (∀ k, m ≤ k → y o k = h o k) ∧ Fr [o] h y := by
    refine lp_cnt (b := fX11_takeHalf_2 o (2 * m)) (fun i s => s.2 = nI i ∧ (∀ k, k < i → s.1 o k = h o (m + k)) ∧ (∀ k, m ≤ k → s.1 o k = h o k) ∧ Fr [o] h s.1) m (by omega) ?_ ?_ ⟨rfl, fun k hk => absurd hk (Nat.not_lt_zero k), fun _ _ => rfl, Fr.rf⟩
    · rintro i ⟨s, u⟩ hi ⟨rfl, s1, s2, s3⟩
      dsimp only at s1 s2 s3
      refine Or.inl ⟨(up2 s o i (h o (m + i)), nI (i + 1)), ?_, rfl, fun k hk => ?_, fun k hk => ?_, s3.up (by simp)⟩
      · unfold fX11_takeHalf_2
        dsimp only
        rw [e2, if_neg (nI_ge hi (by omega)), nI_add, rd_k (n := 2 * m) (show m + i < 2 * m by omega) (by omega), bnd_s, s2 (m + i) (by omega), wr_k (n := 2 * m) (show i < 2 * m by omega) (by omega), bnd_s, nI_1]
      · dsimp only
        by_cases c : k = i
        · rw [c, up2_ss]
        · rw [up2_sn c]; exact s1 k (by omega)
      · dsimp only
        rw [up2_sn (by omega)]; exact s2 k hk
    · rintro ⟨s, u⟩ ⟨rfl, s1, s2, s3⟩
      refine ⟨s, ?_, s1, s2, s3⟩
      unfold fX11_takeHalf_2
      dsimp only
      rw [e2, if_pos (Int32.le_refl _)]
  exact ⟨y, by unfold fX11_takeHalf; rw [y1, bnd_s], y2, y4⟩
theorem takeOverX {t : ST} {nr : Nat} (h9 : nr ≤ 9) (e7 : t 3 7 = nI nr) : ∃ y, fX11_takeOver t = some y ∧ (∀ i k, 3 ≤ i → i ≤ 16 → k < hfz i → y i k = t i (hfz i + k)) ∧ (∀ r, r < nr → y 19 r = y 6 r ∧ y 20 r = 0) ∧ (∀ i, i < 10 → y 21 i = y 15 i) ∧ (y 0 33 = 0 ∧ y 0 34 = 0 ∧ y 0 35 = 0 ∧ y 0 36 = 0 ∧ y 0 37 = 0 ∧ y 0 54 = 0) ∧ Fs 0 [33, 34, 35, 36, 37, 54] t y ∧ Fr [0, 3, 4, 5, 6, 7, 8, 9, 10, 11, 12, 13, 14, 15, 16, 19, 20, 21] t y := by
  obtain ⟨r3, a3, b3, c3⟩ := takeHalfX (h := t) (o := 3) (m := 7) (by decide)
  obtain ⟨r4, a4, b4, c4⟩ := takeHalfX (h := r3) (o := 4) (m := 9) (by decide)
  obtain ⟨r5, a5, b5, c5⟩ := takeHalfX (h := r4) (o := 5) (m := 9) (by decide)
  obtain ⟨r6, a6, b6, c6⟩ := takeHalfX (h := r5) (o := 6) (m := 9) (by decide)
  obtain ⟨r7, a7, b7, c7⟩ := takeHalfX (h := r6) (o := 7) (m := 9) (by decide)
  obtain ⟨r8, a8, b8, c8⟩ := takeHalfX (h := r7) (o := 8) (m := 14) (by decide)
  obtain ⟨r9, a9, b9, c9⟩ := takeHalfX (h := r8) (o := 9) (m := 14) (by decide)
  obtain ⟨r10, a10, b10, c10⟩ := takeHalfX (h := r9) (o := 10) (m := 14) (by decide)
  obtain ⟨r11, a11, b11, c11⟩ := takeHalfX (h := r10) (o := 11) (m := 5) (by decide)
  obtain ⟨r12, a12, b12, c12⟩ := takeHalfX (h := r11) (o := 12) (m := 40) (by decide)
  obtain ⟨r13, a13, b13, c13⟩ := takeHalfX (h := r12) (o := 13) (m := 40) (by decide)
  obtain ⟨r14, a14, b14, c14⟩ := takeHalfX (h := r13) (o := 14) (m := 40) (by decide)
  obtain ⟨r15, a15, b15, c15⟩ := takeHalfX (h := r14) (o := 15) (m := 10) (by decide)
  obtain ⟨r16, a16, b16, c16⟩ := takeHalfX (h := r15) (o := 16) (m := 700) (by decide)
  have eq0 : r16 0 = t 0 := by rw [c16 0 (by decide), c15 0 (by decide), c14 0 (by decide), c13 0 (by decide), c12 0 (by decide), c11 0 (by decide), c10 0 (by decide), c9 0 (by decide), c8 0 (by decide), c7 0 (by decide), c6 0 (by decide), c5 0 (by decide), c4 0 (by decide), c3 0 (by decide)]
  have d3 : ∀ k, k < 7 → r16 3 k = t 3 (7 + k) := fun k hk => by rw [c16 3 (by decide), c15 3 (by decide), c14 3 (by decide), c13 3 (by decide), c12 3 (by decide), c11 3 (by decide), c10 3 (by decide), c9 3 (by decide), c8 3 (by decide), c7 3 (by decide), c6 3 (by decide), c5 3 (by decide), c4 3 (by decide), b3 k hk]
  have d4 : ∀ k, k < 9 → r16 4 k = t 4 (9 + k) := fun k hk => by rw [c16 4 (by decide), c15 4 (by decide), c14 4 (by decide), c13 4 (by decide), c12 4 (by decide), c11 4 (by decide), c10 4 (by decide), c9 4 (by decide), c8 4 (by decide), c7 4 (by decide), c6 4 (by decide), c5 4 (by decide), b4 k hk, c3 4 (by decide)]
  have d5 : ∀ k, k < 9 → r16 5 k = t 5 (9 + k) := fun k hk => by rw [c16 5 (by decide), c15 5 (by decide), c14 5 (by decide), c13 5 (by decide), c12 5 (by decide), c11 5 (by decide), c10 5 (by decide), c9 5 (by decide), c8 5 (by decide), c7 5 (by decide), c6 5 (by decide), b5 k hk, c4 5 (by decide), c3 5 (by decide)]
  have d6 : ∀ k, k < 9 → r16 6 k = t 6 (9 + k) := fun k hk => by rw [c16 6 (by decide), c15 6 (by decide), c14 6 (by decide), c13 6 (by decide), c12 6 (by decide), c11 6 (by decide), c10 6 (by decide), c9 6 (by decide), c8 6 (by decide), c7 6 (by decide), b6 k hk, c5 6 (by decide), c4 6 (by decide), c3 6 (by decide)]
  have d7 : ∀ k, k < 9 → r16 7 k = t 7 (9 + k) := fun k hk => by rw [c16 7 (by decide), c15 7 (by decide), c14 7 (by decide), c13 7 (by decide), c12 7 (by decide), c11 7 (by decide), c10 7 (by decide), c9 7 (by decide), c8 7 (by decide), b7 k hk, c6 7 (by decide), c5 7 (by decide), c4 7 (by decide), c3 7 (by decide)]
  have d8 : ∀ k, k < 14 → r16 8 k = t 8 (14 + k) := fun k hk => by rw [c16 8 (by decide), c15 8 (by decide), c14 8 (by decide), c13 8 (by decide), c12 8 (by decide), c11 8 (by decide), c10 8 (by decide), c9 8 (by decide), b8 k hk, c7 8 (by decide), c6 8 (by decide), c5 8 (by decide), c4 8 (by decide), c3 8 (by decide)]
  have d9 : ∀ k, k < 14 → r16 9 k = t 9 (14 + k) := fun k hk => by rw [c16 9 (by decide), c15 9 (by decide), c14 9 (by decide), c13 9 (by decide), c12 9 (by decide), c11 9 (by decide), c10 9 (by decide), b9 k hk, c8 9 (by decide), c7 9 (by decide), c6 9 (by decide), c5 9 (by decide), c4 9 (by decide), c3 9 (by decide)]
  have d10 : ∀ k, k < 14 → r16 10 k = t 10 (14 + k) := fun k hk => by rw [c16 10 (by decide), c15 10 (by decide), c14 10 (by decide), c13 10 (by decide), c12 10 (by decide), c11 10 (by decide), b10 k hk, c9 10 (by decide), c8 10 (by decide), c7 10 (by decide), c6 10 (by decide), c5 10 (by decide), c4 10 (by decide), c3 10 (by decide)]
  have d11 : ∀ k, k < 5 → r16 11 k = t 11 (5 + k) := fun k hk => by rw [c16 11 (by decide), c15 11 (by decide), c14 11 (by decide), c13 11 (by decide), c12 11 (by decide), b11 k hk, c10 11 (by decide), c9 11 (by decide), c8 11 (by decide), c7 11 (by decide), c6 11 (by decide), c5 11 (by decide), c4 11 (by decide), c3 11 (by decide)]
  have d12 : ∀ k, k < 40 → r16 12 k = t 12 (40 + k) := fun k hk => by rw [c16 12 (by decide), c15 12 (by decide), c14 12 (by decide), c13 12 (by decide), b12 k hk, c11 12 (by decide), c10 12 (by decide), c9 12 (by decide), c8 12 (by decide), c7 12 (by decide), c6 12 (by decide), c5 12 (by decide), c4 12 (by decide), c3 12 (by decide)]
  have d13 : ∀ k, k < 40 → r16 13 k = t 13 (40 + k) := fun k hk => by rw [c16 13 (by decide), c15 13 (by decide), c14 13 (by decide), b13 k hk, c12 13 (by decide), c11 13 (by decide), c10 13 (by decide), c9 13 (by decide), c8 13 (by decide), c7 13 (by decide), c6 13 (by decide), c5 13 (by decide), c4 13 (by decide), c3 13 (by decide)]
  have d14 : ∀ k, k < 40 → r16 14 k = t 14 (40 + k) := fun k hk => by rw [c16 14 (by decide), c15 14 (by decide), b14 k hk, c13 14 (by decide), c12 14 (by decide), c11 14 (by decide), c10 14 (by decide), c9 14 (by decide), c8 14 (by decide), c7 14 (by decide), c6 14 (by decide), c5 14 (by decide), c4 14 (by decide), c3 14 (by decide)]
  have d15 : ∀ k, k < 10 → r16 15 k = t 15 (10 + k) := fun k hk => by rw [c16 15 (by decide), b15 k hk, c14 15 (by decide), c13 15 (by decide), c12 15 (by decide), c11 15 (by decide), c10 15 (by decide), c9 15 (by decide), c8 15 (by decide), c7 15 (by decide), c6 15 (by decide), c5 15 (by decide), c4 15 (by decide), c3 15 (by decide)]
  have d16 : ∀ k, k < 700 → r16 16 k = t 16 (700 + k) := fun k hk => by rw [b16 k hk, c15 16 (by decide), c14 16 (by decide), c13 16 (by decide), c12 16 (by decide), c11 16 (by decide), c10 16 (by decide), c9 16 (by decide), c8 16 (by decide), c7 16 (by decide), c6 16 (by decide), c5 16 (by decide), c4 16 (by decide), c3 16 (by decide)]
  have rows : ∀ i k, 3 ≤ i → i ≤ 16 → k < hfz i → r16 i k = t i (hfz i + k) := fun i k x y z => by
    have : i = 3 ∨ i = 4 ∨ i = 5 ∨ i = 6 ∨ i = 7 ∨ i = 8 ∨ i = 9 ∨ i = 10 ∨ i = 11 ∨ i = 12 ∨ i = 13 ∨ i = 14 ∨ i = 15 ∨ i = 16 := by omega
    rcases this with rfl | rfl | rfl | rfl | rfl | rfl | rfl | rfl | rfl | rfl | rfl | rfl | rfl | rfl
    · exact d3 k z
    · exact d4 k z
    · exact d5 k z
    · exact d6 k z
    · exact d7 k z
    · exact d8 k z
    · exact d9 k z
    · exact d10 k z
    · exact d11 k z
    · exact d12 k z
    · exact d13 k z
    · exact d14 k z
    · exact d15 k z
    · exact d16 k z
  have out : ∀ i, i ∉ [0, 3, 4, 5, 6, 7, 8, 9, 10, 11, 12, 13, 14, 15, 16, 19, 20, 21] → r16 i = t i := fun i hi => by
    simp only [List.mem_cons, List.not_mem_nil, or_false, not_or] at hi
    rw [c16 i (by simp only [List.mem_cons, List.not_mem_nil, or_false]; omega), c15 i (by simp only [List.mem_cons, List.not_mem_nil, or_false]; omega), c14 i (by simp only [List.mem_cons, List.not_mem_nil, or_false]; omega), c13 i (by simp only [List.mem_cons, List.not_mem_nil, or_false]; omega), c12 i (by simp only [List.mem_cons, List.not_mem_nil, or_false]; omega), c11 i (by simp only [List.mem_cons, List.not_mem_nil, or_false]; omega), c10 i (by simp only [List.mem_cons, List.not_mem_nil, or_false]; omega), c9 i (by simp only [List.mem_cons, List.not_mem_nil, or_false]; omega), c8 i (by simp only [List.mem_cons, List.not_mem_nil, or_false]; omega), c7 i (by simp only [List.mem_cons, List.not_mem_nil, or_false]; omega), c6 i (by simp only [List.mem_cons, List.not_mem_nil, or_false]; omega), c5 i (by simp only [List.mem_cons, List.not_mem_nil, or_false]; omega), c4 i (by simp only [List.mem_cons, List.not_mem_nil, or_false]; omega), c3 i (by simp only [List.mem_cons, List.not_mem_nil, or_false]; omega)]
  obtain ⟨p, ep⟩ : ∃ p, p = up2 (up2 (up2 r16 0 33 0) 0 34 0) 0 35 0 := ⟨_, rfl⟩
  have pk : ∀ i, i ≠ 0 → p i = r16 i := fun i hi => by rw [ep, up2_n hi, up2_n hi, up2_n hi]
  have p30 : p 3 0 = nI nr := by rw [pk 3 (by decide), d3 0 (by decide)]; exact e7
  obtain ⟨q, q1, q2, q3⟩ : ∃ q, lp FU fX11_takeOver_115 (p, 0) = some q ∧ (∀ r, r < 9 → q 19 r = (if r < nr then p 6 r else 0) ∧ q 20 r = 0) ∧ Fr [19, 20] p q := by
    refine lp_cnt (b := fX11_takeOver_115) (fun i s => s.2 = nI i ∧ (∀ r, r < i → s.1 19 r = (if r < nr then p 6 r else 0) ∧ s.1 20 r = 0) ∧ Fr [19, 20] p s.1) 9 (by decide) ?_ ?_ ⟨rfl, fun k hk => absurd hk (Nat.not_lt_zero k), Fr.rf⟩
    · rintro i ⟨s, u⟩ hi ⟨rfl, s1, s2⟩
      dsimp only at s1 s2
      have g3 : s 3 0 = nI nr := by rw [s2 3 (by decide)]; exact p30
      have g6 : s 6 i = p 6 i := by rw [s2 6 (by decide)]
      have q : ¬ 9 ≤ nI i := nI_ge (b := 9) hi (by decide)
      refine Or.inl ⟨(up2 (up2 s 19 i (if i < nr then p 6 i else 0)) 20 i 0, nI (i + 1)), ?_, rfl, fun r hr => ?_, (s2.up (by decide)).up (by decide)⟩
      · unfold fX11_takeOver_115 fX11_takeOver_146
        dsimp only
        rw [if_neg q, rd_0 (by decide) (by decide), bnd_s, g3]
        by_cases c : i < nr
        · rw [if_neg (nI_ge c (by omega)), rd_k (n := 18) (show i < 18 by omega), bnd_s, g6, if_pos c, wr_k (n := 9) hi, bnd_s, wr_k (n := 9) hi, bnd_s, nI_1]
        · rw [if_pos (nI_le (by omega) (by omega)), if_neg c, wr_k (n := 9) hi, bnd_s, wr_k (n := 9) hi, bnd_s, nI_1]
      · dsimp only
        by_cases c : r = i
        · rw [c, up2_n (by decide), up2_ss, up2_ss]; exact ⟨rfl, rfl⟩
        · rw [up2_n (by decide), up2_sn c, up2_sn c, up2_n (by decide)]; exact s1 r (by omega)
    · rintro ⟨s, u⟩ ⟨rfl, s1, s2⟩
      refine ⟨s, ?_, s1, s2⟩
      unfold fX11_takeOver_115
      dsimp only
      rw [if_pos (show (9 : Int32) ≤ nI 9 by decide)]
  obtain ⟨w, w1, w2, w3⟩ : ∃ w, lp FU fX11_takeOver_162 (q, 0) = some w ∧ (∀ i, i < 10 → w 21 i = q 15 i) ∧ Fr [21] q w := by
    refine lp_cnt (b := fX11_takeOver_162) (fun i s => s.2 = nI i ∧ (∀ r, r < i → s.1 21 r = q 15 r) ∧ Fr [21] q s.1) 10 (by decide) ?_ ?_ ⟨rfl, fun k hk => absurd hk (Nat.not_lt_zero k), Fr.rf⟩
    · rintro i ⟨s, u⟩ hi ⟨rfl, s1, s2⟩
      dsimp only at s1 s2
      refine Or.inl ⟨(up2 s 21 i (q 15 i), nI (i + 1)), ?_, rfl, fun r hr => ?_, s2.up (by decide)⟩
      · unfold fX11_takeOver_162
        dsimp only
        rw [if_neg (show ¬ 10 ≤ nI i from nI_ge (b := 10) hi (by decide)), rd_k (n := 20) (show i < 20 by omega), bnd_s, s2 15 (by decide), wr_k (n := 10) hi, bnd_s, nI_1]
      · dsimp only
        by_cases c : r = i
        · rw [c, up2_ss]
        · rw [up2_sn c]; exact s1 r (by omega)
    · rintro ⟨s, u⟩ ⟨rfl, s1, s2⟩
      refine ⟨s, ?_, s1, s2⟩
      unfold fX11_takeOver_162
      dsimp only
      rw [if_pos (show (10 : Int32) ≤ nI 10 by decide)]
  have w0 : w 0 = p 0 := by rw [w3 0 (by decide), q3 0 (by decide)]
  obtain ⟨y, ey⟩ : ∃ y, y = up2 (up2 (up2 w 0 36 0) 0 37 0) 0 54 0 := ⟨_, rfl⟩
  have yk : ∀ i, i ≠ 0 → y i = w i := fun i hi => by rw [ey, up2_n hi, up2_n hi, up2_n hi]
  have yr : ∀ i, i ≠ 0 → i ≠ 19 → i ≠ 20 → i ≠ 21 → y i = r16 i := fun i x1 x2 x3 x4 => by rw [yk i x1, w3 i (by simp only [List.mem_cons, List.not_mem_nil, or_false]; omega), q3 i (by simp only [List.mem_cons, List.not_mem_nil, or_false]; omega), pk i x1]
  refine ⟨y, ?_, fun i k x z u => ?_, fun r hr => ?_, fun i hi => ?_, ⟨?_, ?_, ?_, ?_, ?_, ?_⟩, fun j hj => ?_, fun i hi => ?_⟩
  · unfold fX11_takeOver
    rw [show fX11_takeHalf t 3 14 = some r3 from a3, bnd_s, show fX11_takeHalf r3 4 18 = some r4 from a4, bnd_s, show fX11_takeHalf r4 5 18 = some r5 from a5, bnd_s, show fX11_takeHalf r5 6 18 = some r6 from a6, bnd_s, show fX11_takeHalf r6 7 18 = some r7 from a7, bnd_s, show fX11_takeHalf r7 8 28 = some r8 from a8, bnd_s, show fX11_takeHalf r8 9 28 = some r9 from a9, bnd_s, show fX11_takeHalf r9 10 28 = some r10 from a10, bnd_s, show fX11_takeHalf r10 11 10 = some r11 from a11, bnd_s, show fX11_takeHalf r11 12 80 = some r12 from a12, bnd_s, show fX11_takeHalf r12 13 80 = some r13 from a13, bnd_s, show fX11_takeHalf r13 14 80 = some r14 from a14, bnd_s, show fX11_takeHalf r14 15 20 = some r15 from a15, bnd_s, show fX11_takeHalf r15 16 1400 = some r16 from a16, bnd_s, pw_s, bnd_s, pw_s, bnd_s, pw_s, bnd_s, ← ep, q1, bnd_s, w1, bnd_s, pw_s, bnd_s, pw_s, bnd_s, pw_s, bnd_s, ← ey]
  · rw [yr i (by omega) (by omega) (by omega) (by omega)]; exact rows i k x z u
  · rw [yr 6 (by decide) (by decide) (by decide) (by decide), yk 19 (by decide), yk 20 (by decide), w3 19 (by decide), w3 20 (by decide), (q2 r (by omega)).1, (q2 r (by omega)).2, if_pos hr, pk 6 (by decide)]; exact ⟨rfl, rfl⟩
  · rw [yk 21 (by decide), w2 i hi, yr 15 (by decide) (by decide) (by decide) (by decide), q3 15 (by decide), pk 15 (by decide)]
  · rw [ey, up2_sn (by decide), up2_sn (by decide), up2_sn (by decide), w0, ep, up2_sn (by decide), up2_sn (by decide), up2_ss]
  · rw [ey, up2_sn (by decide), up2_sn (by decide), up2_sn (by decide), w0, ep, up2_sn (by decide), up2_ss]
  · rw [ey, up2_sn (by decide), up2_sn (by decide), up2_sn (by decide), w0, ep, up2_ss]
  · rw [ey, up2_sn (by decide), up2_sn (by decide), up2_ss]
  · rw [ey, up2_sn (by decide), up2_ss]
  · rw [ey, up2_ss]
  · simp only [List.mem_cons, List.not_mem_nil, or_false, not_or] at hj
    rw [ey, up2_sn hj.2.2.2.2.2, up2_sn hj.2.2.2.2.1, up2_sn hj.2.2.2.1, w0, ep, up2_sn hj.2.2.1, up2_sn hj.2.1, up2_sn hj.1, eq0]
  · have hi' := hi
    simp only [List.mem_cons, List.not_mem_nil, or_false, not_or] at hi'
    rw [yr i (by omega) (by omega) (by omega) (by omega)]; exact out i hi
