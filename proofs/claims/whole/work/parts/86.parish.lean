/-! ===== parish ===== -/
theorem Inv.code {f : Nat} {M : ST} {A : AS} {hc hm : ST} (h : J f M A hc hm) (h2 : J2 f M hc hm) (v w : Int32) : Inv hc (up2 (up2 hm 0 2 v) 0 2 w) := by
  have hR1 := h.2.2.2.2.2.2.1
  exact Inv.ro (c := w) h h2 (fun _ _ _ _ => rfl) ⟨(Fr.rf.up (by decide)).up (by decide), (Fs.rf.up (by decide)).up (by decide), rm_up (rm_up hR1 (by decide) _) (by decide) _, up2_ss _ _ _ _⟩
theorem t_parish {hc hm : ST} (hI : Inv hc hm) (a1 : Int32) : ∃ y, s_parish hc hm a1 = some y ∧ Inv y.1 y.2 := by
  obtain ⟨f, M, A, h, h2⟩ := hI
  obtain ⟨hf, h0, hB, hF, hCF, hR, hR1, hA⟩ := id h
  obtain ⟨k1, ⟨tp, t7, t1, t2, t3⟩, k3, k4, k5, k6, k7, k8, k9⟩ := id h2
  unfold s_parish fL_parish
  apply s_ok
  have u19 : up2 hm 0 2 0 0 19 = nI tp := by rw [up2_sn (by decide)]; exact t2
  have refuse : fX10_parish hc a1 = some (.inr 2, hc) → fX11_parish hm a1 = fX11_parish_17 (up2 hm 0 2 0) → (∃ v h1 hm1, fX10_parish hc a1 = some (.inl v, h1) ∧ fX11_parish hm a1 = some (v, hm1) ∧ hm1 0 2 = 0 ∧ Inv h1 hm1) ∨ ∃ k c u h1 hm1, fX10_parish hc a1 = some (.inr k, h1) ∧ cdI k = some c ∧ ¬ c = 0 ∧ fX11_parish hm a1 = some (u, hm1) ∧ hm1 0 2 = c ∧ Inv h1 hm1 := fun e1 e2 => by
    refine Or.inr ⟨2, 1, 0, hc, up2 (up2 hm 0 2 0) 0 2 1, e1, rfl, by decide, ?_, up2_ss _ _ _ _, Inv.code h h2 0 1⟩
    rw [e2]
    unfold fX11_parish_17 fX11_fail
    rw [pw_s, bnd_s, bnd_s]
  by_cases c : a1 < 0
  · refine refuse ?_ ?_
    · unfold fX10_parish fX10_parish_12
      rw [if_pos c]
    · unfold fX11_parish
      rw [pw_s, bnd_s, if_pos c]
  obtain ⟨n, hn, rfl⟩ := nI_of c
  by_cases le : n ≤ tp
  rotate_left
  · refine refuse ?_ ?_
    · unfold fX10_parish fX10_parish_12
      rw [if_neg c, t1, if_neg (nI_ge (by omega) hn)]
    · unfold fX11_parish
      rw [pw_s, bnd_s, if_neg c, u19, if_neg (nI_ge (by omega) hn)]
  left
  have le' : nI n ≤ nI tp := nI_le le (by omega)
  obtain ⟨g, eg⟩ : ∃ g, g = 22 - f := ⟨_, rfl⟩
  have hg : g = 2 ∨ g = 20 := by omega
  obtain ⟨hA', eA⟩ : ∃ hA', hA' = up2 hc 0 1 0 := ⟨_, rfl⟩
  obtain ⟨tA, mA⟩ : ∃ tA, tA = up2 (up2 hm 0 2 0) 0 19 0 := ⟨_, rfl⟩
  have Ak : ∀ i, i ≠ 0 → hA' i = hc i := fun i hi => by rw [eA, up2_n hi]
  have tk : ∀ i, i ≠ 0 → tA i = hm i := fun i hi => by rw [mA, up2_n hi, up2_n hi]
  have A4 : hA' 0 4 = nI g := by rw [eA, up2_sn (by decide), k1, ← eg]
  have by' : BY (fun i => (hm 18 i).toNatClampNeg) n hA' tA := by
    refine ⟨by omega, fun i hi => ?_⟩
    obtain ⟨v, v1, v2, v3⟩ := t3 i (by omega)
    have e : (hm 18 i).toNatClampNeg = v := by rw [v2, nI_clamp (by omega)]
    dsimp only
    rw [e, Ak 1 (by decide), tk 18 (by decide)]
    exact ⟨v1, v3, v2⟩
  have csA : CS tA := by
    unfold CS
    rw [tk 1 (by decide), tk 2 (by decide), hF 1 (by decide), hF 2 (by decide)]
    exact hB.2.2.2.2.2.2
  obtain ⟨q, h', t', cls, mdl, K, Mg, alt⟩ := readX hg by' csA
  have X0 : fX10_parish hc (nI n) = if q = 0 then bnd (pw h' 0 2 (-1)) fun h10 => bnd (rf KC 395 1 (h10 0 3)) fun f12 => bnd (rf KC 395 1 (h10 0 4)) fun f14 => bnd (pw h10 0 3 (Int32.ofNat f14)) fun h16 => bnd (pw h16 0 4 (Int32.ofNat f12)) fun h18 => bnd (rf KC 395 1 (h18 0 3)) fun f20 => bnd (fX2_measure h18 f20) fun r22 => bnd (rf KC 395 1 (r22 0 3)) fun f24 => bnd (fX3_begin r22 42 f24) fun r26 => bnd (pw r26 0 8 0) fun h28 => some (.inl 0, h28) else bnd (fX4_place h') fun r30 => bnd (pw h' 0 2 r30) fun h32 => bnd (rd 3 (h32 213) 0) fun v34 => bnd (wr 3 h32 213 0 (v34 + 1)) fun h36 => some (.inl q, h36) := by
    unfold fX10_parish
    rw [if_neg c, t1, if_pos le', pw_s, bnd_s, ← eA, rf_f hg A4, bnd_s, cls, bnd_s]
  have Y0 : fX11_parish hm (nI n) = fX11_parish_121 t' := by
    unfold fX11_parish
    rw [pw_s, bnd_s, if_neg c, u19, if_pos le', pw_s, bnd_s, ← mA]
    have := congrArg (fun z => bnd z fun x30 => fX11_parish_121 x30) mdl
    simp only [bnd_as] at this
    exact this
  have t'i : ∀ i, i ≠ 0 → i < 3 ∨ 16 < i → t' i = hm i := fun i x y => by rw [Mg.1 i x y, up2_n x, tk i x]
  have t'0 : ∀ k, k < 20 ∨ 28 < k → k ≠ 2 → k ≠ 19 → t' 0 k = hm 0 k := fun k x y z => by
    rw [Mg.2.1 k (by omega), up2_sn (by omega), mA, up2_sn z, up2_sn y]
  have t'2 : t' 0 2 = 0 := by rw [Mg.2.1 2 (by omega), up2_sn (by decide), mA, up2_sn (by decide), up2_ss]
  have t'19 : t' 0 19 = 0 := by rw [Mg.2.1 19 (by omega), up2_sn (by decide), mA, up2_ss]
  have t'28 : t' 0 28 = -1 := by rw [Mg.2.1 28 (by omega), up2_ss]
  have h'k : ∀ i, ¬ (g ≤ i ∧ i < g + 18) → ¬ (38 ≤ i ∧ i ≤ 41) → h' i = hA' i := K
  rcases alt with ⟨rfl, z26, nr, nd, nw, nc, nz, H⟩ | bd
  · have cst : CS t' := by
      unfold CS
      rw [t'i 1 (by decide) (by decide), t'i 2 (by decide) (by decide), ← tk 1 (by decide), ← tk 2 (by decide)]; exact csA
    rw [eA, eg] at K
    rw [eg] at H
    obtain ⟨hc', hm', w1, w2, w3, w4⟩ := toldX h h2 K H cst (t'i 17 (by decide) (by decide)) t'2 t'19 t'28
    refine ⟨0, hc', hm', ?_, ?_, w3, w4⟩
    · rw [X0, if_pos rfl]; exact w1
    · rw [Y0]
      unfold fX11_parish_121
      rw [if_pos z26, w2, bnd_s]
  · obtain ⟨b1, b2, b3⟩ := id bd
    have h'213 : h' 213 = hc 213 := by rw [h'k 213 (by omega) (by omega), Ak 213 (by decide)]
    have h'0 : ∀ k, k ≠ 1 → h' 0 k = hc 0 k := fun k hk => by rw [h'k 0 (by omega) (by omega), eA, up2_sn hk]
    have h'01 : h' 0 1 = 0 := by rw [h'k 0 (by omega) (by omega), eA, up2_ss]
    have e1 : up2 h' 0 2 (h' 39 1) 213 = hc 213 := by rw [up2_n (by decide)]; exact h'213
    have e2 : up2 t' 0 28 (t' 0 27) 17 = hm 17 := by rw [up2_n (by decide)]; exact t'i 17 (by decide) (by decide)
    have r0 : ∀ x : Nat → Int32, rd 3 x 0 = some (x 0) := fun x => rd_0 (by decide) (by decide)
    have w0 : ∀ (x : ST) o v, wr 3 x o 0 v = some (up2 x o 0 v) := fun x o v => wr_0 (by decide) (by decide)
    refine ⟨q, up2 (up2 h' 0 2 (h' 39 1)) 213 0 (hc 213 0 + 1), up2 (up2 t' 0 28 (t' 0 27)) 17 0 (hm 17 0 + 1), ?_, ?_, ?_, ?_⟩
    · rw [X0, if_neg b1]
      unfold fX4_place
      rw [bnd_s, pw_s, bnd_s, r0, bnd_s, e1, w0, bnd_s]
    · rw [Y0]
      unfold fX11_parish_121
      rw [if_neg (show ¬ t' 0 26 = 0 by rw [b2]; exact b1), pw_s, bnd_s, r0, bnd_s, e2, w0, bnd_s, up2_n (by decide), up2_sn (by decide), b2]
    · rw [up2_n (by decide), up2_sn (by decide)]; exact t'2
    · refine failX h h2 (fun i x y z w => ?_) (fun k hk => ?_) ?_ ?_ ?_ (fun k hk => ?_) (fun i x y z => ?_) (fun k hk => ?_) (fun i k x y z => ?_)
      · rw [up2_n y, up2_n x, h'k i (by omega) w, Ak i x]
      · simp only [List.mem_cons, List.not_mem_nil, or_false, not_or] at hk
        rw [up2_n (by decide), up2_sn hk.2, h'0 k hk.1]
      · rw [up2_n (by decide), up2_sn (by decide)]; exact h'01
      · rw [up2_n (by decide), up2_sn (by decide)]; exact t'19
      · rw [up2_n (by decide), up2_ss, up2_n (by decide), up2_ss, b3]
      · by_cases k0 : k = 0
        · rw [k0, up2_ss, up2_ss, k5 0 (by decide)]
        · rw [up2_sn k0, up2_sn k0, e1, e2]; exact k5 k hk
      · rw [up2_n y, up2_n x]; exact t'i i x z
      · rw [up2_n (by decide), up2_sn (by omega)]; exact t'0 k (by omega) (by omega) (by omega)
      · rw [up2_n (by omega), up2_n (by omega), Mg.2.2 i k x y z, up2_n (by omega), tk i (by omega)]
