/-! ===== plain questions ===== -/
theorem t_fault {hc hm : ST} (hI : Inv hc hm) : ∃ y, s_fault hc hm = some y ∧ Inv y.1 y.2 := by
  obtain ⟨f, M, A, h, h2⟩ := hI
  have hR1 := h.2.2.2.2.2.2.1
  refine ⟨(mg hc hc, up2 hm 0 2 0), ?_, (Inv.ro h h2 (fun _ _ _ _ => rfl) (codeM hR1)).hi (fun i hi => by dsimp only; unfold mg; rw [if_pos (by omega)])⟩
  have e : hc 0 2 = up2 hm 0 2 0 0 28 := by rw [up2_sn (by decide)]; exact h2.2.2.1
  simp only [s_fault, fX10_fault, fX11_fault, bnd_s, pw_s, rd_0, rd_1, rd_2, rd_3, rd_4, rd_5, rd_6, wr_0, wr_1, wr_2, wr_3, wr_4, wr_5, zb_0, zb_1, Nat.reduceLT, Nat.reducePow]
  rw [if_pos e]
theorem t_count {hc hm : ST} (hI : Inv hc hm) (a1 : Int32) : ∃ y, s_count hc hm a1 = some y ∧ Inv y.1 y.2 := by
  obtain ⟨f, M, A, h, h2⟩ := hI
  obtain ⟨hf, h0, hB, hF, hCF, hR, hR1, hA⟩ := id h
  have m1 := codeM (M := M) hR1
  have hF1 := fm_up hF 2 0
  have f3 : up2 hm 0 2 0 3 = M 3 := hF1 3 (by decide)
  have u17 : up2 hm 0 2 0 17 = hm 17 := up2_n (by decide)
  have us : ∀ k, k ≠ 2 → up2 hm 0 2 0 0 k = hm 0 k := fun k hk => up2_sn hk
  have rff := rf_f hf h0
  unfold s_count fL_count
  apply s_okr
  have good : ∀ v, fX10_count hc a1 = some (.inl v) → fX11_count hm a1 = some (v, up2 hm 0 2 0) → (∃ v hm1, fX10_count hc a1 = some (.inl v) ∧ fX11_count hm a1 = some (v, hm1) ∧ hm1 0 2 = 0 ∧ Inv hc hm1) ∨ ∃ k c u hm1, fX10_count hc a1 = some (.inr k) ∧ cdN k = some c ∧ ¬ c = 0 ∧ fX11_count hm a1 = some (u, hm1) ∧ hm1 0 2 = c ∧ Inv hc hm1 := fun v q1 q2 => Or.inl ⟨v, _, q1, q2, m1.2.2.2, Inv.ro h h2 (fun _ _ _ _ => rfl) m1⟩
  obtain ⟨p0, p1, p2, p3, p4, p5, p6⟩ := hCF.1
  obtain ⟨s1, s2, s3, s4, s5, s6, s7, s8, s9⟩ := id h2
  obtain ⟨t, ht, t1, t2, t3⟩ := s2
  obtain ⟨ks, k1, k2, k3, k4⟩ := s6
  obtain ⟨ka, first, a2, a3, a4, a5, a6, a7⟩ := s7
  by_cases c0 : a1 = 0
  · subst c0; exact good (M 3 0) (by simp only [fX10_count, bnd_s, pw_s, rd_0, rd_1, rd_2, rd_3, rd_4, rd_5, rd_6, wr_0, wr_1, wr_2, wr_3, wr_4, wr_5, zb_0, zb_1, Nat.reduceLT, Nat.reducePow, rff, p0, if_true]) (by simp only [fX11_count, bnd_s, pw_s, rd_0, rd_1, rd_2, rd_3, rd_4, rd_5, rd_6, wr_0, wr_1, wr_2, wr_3, wr_4, wr_5, zb_0, zb_1, Nat.reduceLT, Nat.reducePow, f3, if_true])
  by_cases c1 : a1 = 1
  · subst c1; exact good (M 3 1) (by simp only [fX10_count, bnd_s, pw_s, rd_0, rd_1, rd_2, rd_3, rd_4, rd_5, rd_6, wr_0, wr_1, wr_2, wr_3, wr_4, wr_5, zb_0, zb_1, Nat.reduceLT, Nat.reducePow, if_neg c0, rff, p1, if_true]) (by simp only [fX11_count, bnd_s, pw_s, rd_0, rd_1, rd_2, rd_3, rd_4, rd_5, rd_6, wr_0, wr_1, wr_2, wr_3, wr_4, wr_5, zb_0, zb_1, Nat.reduceLT, Nat.reducePow, if_neg c0, f3, if_true])
  by_cases c2 : a1 = 2
  · subst c2; exact good (M 3 2) (by simp only [fX10_count, bnd_s, pw_s, rd_0, rd_1, rd_2, rd_3, rd_4, rd_5, rd_6, wr_0, wr_1, wr_2, wr_3, wr_4, wr_5, zb_0, zb_1, Nat.reduceLT, Nat.reducePow, if_neg c0, if_neg c1, rff, p2, if_true]) (by simp only [fX11_count, bnd_s, pw_s, rd_0, rd_1, rd_2, rd_3, rd_4, rd_5, rd_6, wr_0, wr_1, wr_2, wr_3, wr_4, wr_5, zb_0, zb_1, Nat.reduceLT, Nat.reducePow, if_neg c0, if_neg c1, f3, if_true])
  by_cases c3 : a1 = 3
  · subst c3; exact good (M 3 3) (by simp only [fX10_count, bnd_s, pw_s, rd_0, rd_1, rd_2, rd_3, rd_4, rd_5, rd_6, wr_0, wr_1, wr_2, wr_3, wr_4, wr_5, zb_0, zb_1, Nat.reduceLT, Nat.reducePow, if_neg c0, if_neg c1, if_neg c2, rff, p3, if_true]) (by simp only [fX11_count, bnd_s, pw_s, rd_0, rd_1, rd_2, rd_3, rd_4, rd_5, rd_6, wr_0, wr_1, wr_2, wr_3, wr_4, wr_5, zb_0, zb_1, Nat.reduceLT, Nat.reducePow, if_neg c0, if_neg c1, if_neg c2, f3, if_true])
  by_cases c4 : a1 = 4
  · subst c4; exact good (M 3 4) (by simp only [fX10_count, bnd_s, pw_s, rd_0, rd_1, rd_2, rd_3, rd_4, rd_5, rd_6, wr_0, wr_1, wr_2, wr_3, wr_4, wr_5, zb_0, zb_1, Nat.reduceLT, Nat.reducePow, if_neg c0, if_neg c1, if_neg c2, if_neg c3, rff, p4, if_true]) (by simp only [fX11_count, bnd_s, pw_s, rd_0, rd_1, rd_2, rd_3, rd_4, rd_5, rd_6, wr_0, wr_1, wr_2, wr_3, wr_4, wr_5, zb_0, zb_1, Nat.reduceLT, Nat.reducePow, if_neg c0, if_neg c1, if_neg c2, if_neg c3, f3, if_true])
  by_cases c5 : a1 = 5
  · subst c5; exact good (M 3 5) (by simp only [fX10_count, bnd_s, pw_s, rd_0, rd_1, rd_2, rd_3, rd_4, rd_5, rd_6, wr_0, wr_1, wr_2, wr_3, wr_4, wr_5, zb_0, zb_1, Nat.reduceLT, Nat.reducePow, if_neg c0, if_neg c1, if_neg c2, if_neg c3, if_neg c4, rff, p5, if_true]) (by simp only [fX11_count, bnd_s, pw_s, rd_0, rd_1, rd_2, rd_3, rd_4, rd_5, rd_6, wr_0, wr_1, wr_2, wr_3, wr_4, wr_5, zb_0, zb_1, Nat.reduceLT, Nat.reducePow, if_neg c0, if_neg c1, if_neg c2, if_neg c3, if_neg c4, f3, if_true])
  have X10 : fX10_count hc a1 = fX10_count hc a1 := rfl
  by_cases c6 : a1 = 6
  · subst c6; exact good (aY A) (by simp only [fX10_count, if_neg c0, if_neg c1, if_neg c2, if_neg c3, if_neg c4, if_neg c5, if_true, hR.1.1]) (by simp only [fX11_count, bnd_s, pw_s, rd_0, rd_1, rd_2, rd_3, rd_4, rd_5, rd_6, wr_0, wr_1, wr_2, wr_3, wr_4, wr_5, zb_0, zb_1, Nat.reduceLT, Nat.reducePow, if_neg c0, if_neg c1, if_neg c2, if_neg c3, if_neg c4, if_neg c5, if_true, us 33 (by decide), hR1.1.1])
  by_cases c7 : a1 = 7
  · subst c7; exact good (sumD (aD A) (nR M)) (by simp only [fX10_count, bnd_s, pw_s, rd_0, rd_1, rd_2, rd_3, rd_4, rd_5, rd_6, wr_0, wr_1, wr_2, wr_3, wr_4, wr_5, zb_0, zb_1, Nat.reduceLT, Nat.reducePow, if_neg c0, if_neg c1, if_neg c2, if_neg c3, if_neg c4, if_neg c5, if_neg c6, if_true, rff, dustC hB hCF hR]) (by simp only [fX11_count, bnd_s, pw_s, rd_0, rd_1, rd_2, rd_3, rd_4, rd_5, rd_6, wr_0, wr_1, wr_2, wr_3, wr_4, wr_5, zb_0, zb_1, Nat.reduceLT, Nat.reducePow, if_neg c0, if_neg c1, if_neg c2, if_neg c3, if_neg c4, if_neg c5, if_neg c6, if_true, dustM hB hF1 m1.2.2.1])
  by_cases c8 : a1 = 8
  · subst c8; exact good (aT A) (by simp only [fX10_count, if_neg c0, if_neg c1, if_neg c2, if_neg c3, if_neg c4, if_neg c5, if_neg c6, if_neg c7, if_true, hR.1.2.1]) (by simp only [fX11_count, bnd_s, pw_s, rd_0, rd_1, rd_2, rd_3, rd_4, rd_5, rd_6, wr_0, wr_1, wr_2, wr_3, wr_4, wr_5, zb_0, zb_1, Nat.reduceLT, Nat.reducePow, if_neg c0, if_neg c1, if_neg c2, if_neg c3, if_neg c4, if_neg c5, if_neg c6, if_neg c7, if_true, us 34 (by decide), hR1.1.2.1])
  by_cases c9 : a1 = 9
  · subst c9; exact good (aS A) (by simp only [fX10_count, if_neg c0, if_neg c1, if_neg c2, if_neg c3, if_neg c4, if_neg c5, if_neg c6, if_neg c7, if_neg c8, if_true, hR.1.2.2]) (by simp only [fX11_count, bnd_s, pw_s, rd_0, rd_1, rd_2, rd_3, rd_4, rd_5, rd_6, wr_0, wr_1, wr_2, wr_3, wr_4, wr_5, zb_0, zb_1, Nat.reduceLT, Nat.reducePow, if_neg c0, if_neg c1, if_neg c2, if_neg c3, if_neg c4, if_neg c5, if_neg c6, if_neg c7, if_neg c8, if_true, us 35 (by decide), hR1.1.2.2])
  by_cases c10 : a1 = 10
  · subst c10; exact good (herN M (aD A) (nR M)) (by simp only [fX10_count, bnd_s, pw_s, rd_0, rd_1, rd_2, rd_3, rd_4, rd_5, rd_6, wr_0, wr_1, wr_2, wr_3, wr_4, wr_5, zb_0, zb_1, Nat.reduceLT, Nat.reducePow, if_neg c0, if_neg c1, if_neg c2, if_neg c3, if_neg c4, if_neg c5, if_neg c6, if_neg c7, if_neg c8, if_neg c9, if_true, rff, herC hB hCF hR]) (by simp only [fX11_count, bnd_s, pw_s, rd_0, rd_1, rd_2, rd_3, rd_4, rd_5, rd_6, wr_0, wr_1, wr_2, wr_3, wr_4, wr_5, zb_0, zb_1, Nat.reduceLT, Nat.reducePow, if_neg c0, if_neg c1, if_neg c2, if_neg c3, if_neg c4, if_neg c5, if_neg c6, if_neg c7, if_neg c8, if_neg c9, if_true, herM hB hF1 m1.2.2.1])
  by_cases c11 : a1 = 11
  · subst c11; exact good (nI ka) (by simp only [fX10_count, if_neg c0, if_neg c1, if_neg c2, if_neg c3, if_neg c4, if_neg c5, if_neg c6, if_neg c7, if_neg c8, if_neg c9, if_neg c10, if_true]; exact congrArg (fun q => some (Sum.inl q)) a4) (by simp only [fX11_count, bnd_s, pw_s, rd_0, rd_1, rd_2, rd_3, rd_4, rd_5, rd_6, wr_0, wr_1, wr_2, wr_3, wr_4, wr_5, zb_0, zb_1, Nat.reduceLT, Nat.reducePow, if_neg c0, if_neg c1, if_neg c2, if_neg c3, if_neg c4, if_neg c5, if_neg c6, if_neg c7, if_neg c8, if_neg c9, if_neg c10, if_true, us 36 (by decide), a2])
  by_cases c12 : a1 = 12
  · subst c12; exact good (nI ks) (by simp only [fX10_count, if_neg c0, if_neg c1, if_neg c2, if_neg c3, if_neg c4, if_neg c5, if_neg c6, if_neg c7, if_neg c8, if_neg c9, if_neg c10, if_neg c11, if_true]; exact congrArg (fun q => some (Sum.inl q)) k3) (by simp only [fX11_count, bnd_s, pw_s, rd_0, rd_1, rd_2, rd_3, rd_4, rd_5, rd_6, wr_0, wr_1, wr_2, wr_3, wr_4, wr_5, zb_0, zb_1, Nat.reduceLT, Nat.reducePow, if_neg c0, if_neg c1, if_neg c2, if_neg c3, if_neg c4, if_neg c5, if_neg c6, if_neg c7, if_neg c8, if_neg c9, if_neg c10, if_neg c11, if_true, us 37 (by decide), k1])
  by_cases c13 : a1 = 13
  · subst c13; exact good (nI t) (by simp only [fX10_count, if_neg c0, if_neg c1, if_neg c2, if_neg c3, if_neg c4, if_neg c5, if_neg c6, if_neg c7, if_neg c8, if_neg c9, if_neg c10, if_neg c11, if_neg c12, if_true, t1]) (by simp only [fX11_count, bnd_s, pw_s, rd_0, rd_1, rd_2, rd_3, rd_4, rd_5, rd_6, wr_0, wr_1, wr_2, wr_3, wr_4, wr_5, zb_0, zb_1, Nat.reduceLT, Nat.reducePow, if_neg c0, if_neg c1, if_neg c2, if_neg c3, if_neg c4, if_neg c5, if_neg c6, if_neg c7, if_neg c8, if_neg c9, if_neg c10, if_neg c11, if_neg c12, if_true, us 19 (by decide), t2])
  by_cases c14 : a1 = 14
  · subst c14; exact good (hm 17 0) (by simp only [fX10_count, bnd_s, pw_s, rd_0, rd_1, rd_2, rd_3, rd_4, rd_5, rd_6, wr_0, wr_1, wr_2, wr_3, wr_4, wr_5, zb_0, zb_1, Nat.reduceLT, Nat.reducePow, if_neg c0, if_neg c1, if_neg c2, if_neg c3, if_neg c4, if_neg c5, if_neg c6, if_neg c7, if_neg c8, if_neg c9, if_neg c10, if_neg c11, if_neg c12, if_neg c13, if_true, s5 0 (by decide)]) (by simp only [fX11_count, bnd_s, pw_s, rd_0, rd_1, rd_2, rd_3, rd_4, rd_5, rd_6, wr_0, wr_1, wr_2, wr_3, wr_4, wr_5, zb_0, zb_1, Nat.reduceLT, Nat.reducePow, if_neg c0, if_neg c1, if_neg c2, if_neg c3, if_neg c4, if_neg c5, if_neg c6, if_neg c7, if_neg c8, if_neg c9, if_neg c10, if_neg c11, if_neg c12, if_neg c13, if_true, u17, show (14 : Int32) - 14 = 0 from rfl])
  by_cases c15 : a1 = 15
  · subst c15; exact good (hm 17 1) (by simp only [fX10_count, bnd_s, pw_s, rd_0, rd_1, rd_2, rd_3, rd_4, rd_5, rd_6, wr_0, wr_1, wr_2, wr_3, wr_4, wr_5, zb_0, zb_1, Nat.reduceLT, Nat.reducePow, if_neg c0, if_neg c1, if_neg c2, if_neg c3, if_neg c4, if_neg c5, if_neg c6, if_neg c7, if_neg c8, if_neg c9, if_neg c10, if_neg c11, if_neg c12, if_neg c13, if_neg c14, if_true, s5 1 (by decide)]) (by simp only [fX11_count, bnd_s, pw_s, rd_0, rd_1, rd_2, rd_3, rd_4, rd_5, rd_6, wr_0, wr_1, wr_2, wr_3, wr_4, wr_5, zb_0, zb_1, Nat.reduceLT, Nat.reducePow, if_neg c0, if_neg c1, if_neg c2, if_neg c3, if_neg c4, if_neg c5, if_neg c6, if_neg c7, if_neg c8, if_neg c9, if_neg c10, if_neg c11, if_neg c12, if_neg c13, if_neg c14, if_true, u17, show (15 : Int32) - 14 = 1 from rfl])
  by_cases c16 : a1 = 16
  · subst c16; exact good (hm 17 2) (by simp only [fX10_count, bnd_s, pw_s, rd_0, rd_1, rd_2, rd_3, rd_4, rd_5, rd_6, wr_0, wr_1, wr_2, wr_3, wr_4, wr_5, zb_0, zb_1, Nat.reduceLT, Nat.reducePow, if_neg c0, if_neg c1, if_neg c2, if_neg c3, if_neg c4, if_neg c5, if_neg c6, if_neg c7, if_neg c8, if_neg c9, if_neg c10, if_neg c11, if_neg c12, if_neg c13, if_neg c14, if_neg c15, if_true, s5 2 (by decide)]) (by simp only [fX11_count, bnd_s, pw_s, rd_0, rd_1, rd_2, rd_3, rd_4, rd_5, rd_6, wr_0, wr_1, wr_2, wr_3, wr_4, wr_5, zb_0, zb_1, Nat.reduceLT, Nat.reducePow, if_neg c0, if_neg c1, if_neg c2, if_neg c3, if_neg c4, if_neg c5, if_neg c6, if_neg c7, if_neg c8, if_neg c9, if_neg c10, if_neg c11, if_neg c12, if_neg c13, if_neg c14, if_neg c15, if_true, u17, show (16 : Int32) - 14 = 2 from rfl])
  obtain ⟨q1, q2⟩ := failM hR1 1
  refine Or.inr ⟨1, 1, 0, _, ?_, rfl, by decide, ?_, q2.2.2.2, Inv.ro h h2 (fun _ _ _ _ => rfl) q2⟩
  · simp only [fX10_count, if_neg c0, if_neg c1, if_neg c2, if_neg c3, if_neg c4, if_neg c5, if_neg c6, if_neg c7, if_neg c8, if_neg c9, if_neg c10, if_neg c11, if_neg c12, if_neg c13, if_neg c14, if_neg c15, if_neg c16]
  · simp only [fX11_count, bnd_s, pw_s, rd_0, rd_1, rd_2, rd_3, rd_4, rd_5, rd_6, wr_0, wr_1, wr_2, wr_3, wr_4, wr_5, zb_0, zb_1, Nat.reduceLT, Nat.reducePow, if_neg c0, if_neg c1, if_neg c2, if_neg c3, if_neg c4, if_neg c5, if_neg c6, if_neg c7, if_neg c8, if_neg c9, if_neg c10, if_neg c11, if_neg c12, if_neg c13, if_neg c14, if_neg c15, if_neg c16, q1]
/-! doors -/
def DR (nd : Nat) (dA dB : Nat → Int32) : Prop := ∀ i, i < nd → ∃ a b, a < 9 ∧ b < 9 ∧ a ≠ b ∧ dA i = nI a ∧ dB i = nI b
def PD (nd : Nat) (dA dB : Nat → Int32) (x y : Int32) : Prop := ∃ i, i < nd ∧ ((dA i = x ∧ dB i = y) ∨ (dA i = y ∧ dB i = x))
theorem PD.symm {nd : Nat} {dA dB : Nat → Int32} {x y : Int32} (h : PD nd dA dB x y) : PD nd dA dB y x := by
  obtain ⟨i, hi, h | h⟩ := h
  · exact ⟨i, hi, Or.inr h⟩
  · exact ⟨i, hi, Or.inl h⟩
theorem behindC {h : ST} {f i : Nat} (hi : i < 14) (x : Int32) : fX2_behind h f (nI i) x = some (if h (f + 5) i = x then h (f + 6) i else if h (f + 6) i = x then h (f + 5) i else -1) := by
  by_cases c1 : h (f + 5) i = x
  · simp only [fX2_behind, bnd_s, pw_s, rd_0, rd_1, rd_2, rd_3, rd_4, rd_5, rd_6, wr_0, wr_1, wr_2, wr_3, wr_4, wr_5, zb_0, zb_1, Nat.reduceLT, Nat.reducePow, rd_k (n := 14) hi, if_pos c1]
  · by_cases c2 : h (f + 6) i = x
    · simp only [fX2_behind, fX2_behind_37, bnd_s, pw_s, rd_0, rd_1, rd_2, rd_3, rd_4, rd_5, rd_6, wr_0, wr_1, wr_2, wr_3, wr_4, wr_5, zb_0, zb_1, Nat.reduceLT, Nat.reducePow, rd_k (n := 14) hi, if_neg c1, if_pos c2]
    · simp only [fX2_behind, fX2_behind_37, bnd_s, pw_s, rd_0, rd_1, rd_2, rd_3, rd_4, rd_5, rd_6, wr_0, wr_1, wr_2, wr_3, wr_4, wr_5, zb_0, zb_1, Nat.reduceLT, Nat.reducePow, rd_k (n := 14) hi, if_neg c1, if_neg c2]
theorem hasDoorC {h : ST} {f nd : Nat} {dA dB : Nat → Int32} (h5 : h f 5 = nI nd) (h14 : nd ≤ 14) (hd : DR nd dA dB) (e1 : ∀ i, i < nd → h (f + 5) i = dA i ∧ h (f + 6) i = dB i) {a b : Nat} (ha : a < 2 ^ 31) (hb : b < 2 ^ 31) :
    (fX2_hasDoor h f (nI a) (nI b) = some 1 ∧ PD nd dA dB (nI a) (nI b)) ∨ (fX2_hasDoor h f (nI a) (nI b) = some 0 ∧ ¬ PD nd dA dB (nI a) (nI b)) := by
  obtain ⟨x, x1, x2⟩ := lp_cnt (b := fX2_hasDoor_2 h f (nI a) (nI b)) (s := (0 : Int32)) (Q := fun x => (x = .inl () ∧ PD nd dA dB (nI a) (nI b)) ∨ (x = .inr () ∧ ¬ PD nd dA dB (nI a) (nI b))) (fun i q => q = nI i ∧ ∀ j, j < i → ¬ ((dA j = nI a ∧ dB j = nI b) ∨ (dA j = nI b ∧ dB j = nI a))) nd (by omega) (by
    rintro i k hi ⟨rfl, g2⟩
    obtain ⟨p, q, hp, hq, hpq, ep, eq⟩ := hd i hi
    have E1 := (e1 i hi).1.trans ep
    have E2 := (e1 i hi).2.trans eq
    have q1 := nI_ge hi (show nd < 2 ^ 31 by omega)
    by_cases c1 : p = a
    · subst c1
      by_cases c2 : q = b
      · subst c2
        refine Or.inr ⟨.inl (), ?_, Or.inl ⟨rfl, i, hi, Or.inl ⟨ep, eq⟩⟩⟩
        simp only [fX2_hasDoor_2, bnd_s, pw_s, rd_0, rd_1, rd_2, rd_3, rd_4, rd_5, rd_6, wr_0, wr_1, wr_2, wr_3, wr_4, wr_5, zb_0, zb_1, Nat.reduceLT, Nat.reducePow, h5, if_neg q1, behindC (show i < 14 by omega), E1, E2, if_true]
      · have n2 : ¬ nI q = nI b := fun e => c2 ((nI_eq (by omega) hb).mp e)
        refine Or.inl ⟨nI i + 1, ?_, nI_1 i, fun j hj => ?_⟩
        · simp only [fX2_hasDoor_2, bnd_s, pw_s, rd_0, rd_1, rd_2, rd_3, rd_4, rd_5, rd_6, wr_0, wr_1, wr_2, wr_3, wr_4, wr_5, zb_0, zb_1, Nat.reduceLT, Nat.reducePow, h5, if_neg q1, behindC (show i < 14 by omega), E1, E2, if_true, if_neg n2]
        · by_cases c3 : j = i
          · subst c3
            rintro (⟨-, w⟩ | ⟨w1, w2⟩)
            · exact n2 (eq.symm.trans w)
            · exact hpq (((nI_eq (by omega) (by omega)).mp (eq.symm.trans w2)).symm)
          · exact g2 j (by omega)
    · have n1 : ¬ nI p = nI a := fun e => c1 ((nI_eq (by omega) ha).mp e)
      by_cases c2 : q = a
      · subst c2
        by_cases c3 : p = b
        · subst c3
          refine Or.inr ⟨.inl (), ?_, Or.inl ⟨rfl, i, hi, Or.inr ⟨ep, eq⟩⟩⟩
          simp only [fX2_hasDoor_2, bnd_s, pw_s, rd_0, rd_1, rd_2, rd_3, rd_4, rd_5, rd_6, wr_0, wr_1, wr_2, wr_3, wr_4, wr_5, zb_0, zb_1, Nat.reduceLT, Nat.reducePow, h5, if_neg q1, behindC (show i < 14 by omega), E1, E2, if_neg n1, if_true]
        · have n3 : ¬ nI p = nI b := fun e => c3 ((nI_eq (by omega) hb).mp e)
          refine Or.inl ⟨nI i + 1, ?_, nI_1 i, fun j hj => ?_⟩
          · simp only [fX2_hasDoor_2, bnd_s, pw_s, rd_0, rd_1, rd_2, rd_3, rd_4, rd_5, rd_6, wr_0, wr_1, wr_2, wr_3, wr_4, wr_5, zb_0, zb_1, Nat.reduceLT, Nat.reducePow, h5, if_neg q1, behindC (show i < 14 by omega), E1, E2, if_neg n1, if_true, if_neg n3]
          · by_cases c4 : j = i
            · subst c4
              rintro (⟨w, -⟩ | ⟨w1, w2⟩)
              · exact n1 (ep.symm.trans w)
              · exact n3 (ep.symm.trans w1)
            · exact g2 j (by omega)
      · have n2 : ¬ nI q = nI a := fun e => c2 ((nI_eq (by omega) ha).mp e)
        have n3 : ¬ (-1 : Int32) = nI b := fun e => nI_m1ne hb e.symm
        refine Or.inl ⟨nI i + 1, ?_, nI_1 i, fun j hj => ?_⟩
        · simp only [fX2_hasDoor_2, bnd_s, pw_s, rd_0, rd_1, rd_2, rd_3, rd_4, rd_5, rd_6, wr_0, wr_1, wr_2, wr_3, wr_4, wr_5, zb_0, zb_1, Nat.reduceLT, Nat.reducePow, h5, if_neg q1, behindC (show i < 14 by omega), E1, E2, if_neg n1, if_neg n2, if_neg n3]
        · by_cases c4 : j = i
          · subst c4
            rintro (⟨w, -⟩ | ⟨w1, w2⟩)
            · exact n1 (ep.symm.trans w)
            · exact n2 (eq.symm.trans w2)
          · exact g2 j (by omega)) (by
    rintro k ⟨rfl, g2⟩
    refine ⟨.inr (), ?_, Or.inr ⟨rfl, fun ⟨j, hj, w⟩ => g2 j hj w⟩⟩
    simp only [fX2_hasDoor_2, h5, Int32.le_refl, if_true]) ⟨rfl, fun j hj => absurd hj (Nat.not_lt_zero j)⟩
  rcases x2 with ⟨rfl, w⟩ | ⟨rfl, w⟩
  · exact Or.inl ⟨by simp only [fX2_hasDoor, x1, bnd_s, sm], w⟩
  · exact Or.inr ⟨by simp only [fX2_hasDoor, x1, bnd_s, sm], w⟩
theorem hasDoorM {h : ST} {nd : Nat} {dA dB : Nat → Int32} (h5 : h 3 1 = nI nd) (h14 : nd ≤ 14) (e1 : ∀ i, i < nd → h 8 i = dA i ∧ h 9 i = dB i) (x y : Int32) :
    (fX11_hasDoor h x y = some 1 ∧ PD nd dA dB x y) ∨ (fX11_hasDoor h x y = some 0 ∧ ¬ PD nd dA dB x y) := by
  obtain ⟨z, x1, x2⟩ := lp_cnt (b := fX11_hasDoor_2 h x y) (s := (0 : Int32)) (Q := fun z => (z = .inl () ∧ PD nd dA dB x y) ∨ (z = .inr () ∧ ¬ PD nd dA dB x y)) (fun i q => q = nI i ∧ ∀ j, j < i → ¬ ((dA j = x ∧ dB j = y) ∨ (dA j = y ∧ dB j = x))) nd (by omega) (by
    rintro i k hi ⟨rfl, g2⟩
    obtain ⟨E1, E2⟩ := e1 i hi
    have q1 := nI_ge hi (show nd < 2 ^ 31 by omega)
    have nx : ¬ ((dA i = x ∧ dB i = y) ∨ (dA i = y ∧ dB i = x)) → ∀ j, j < i + 1 → ¬ ((dA j = x ∧ dB j = y) ∨ (dA j = y ∧ dB j = x)) := fun q j hj => by
      by_cases c : j = i
      · subst c; exact q
      · exact g2 j (by omega)
    have tail : ((fX11_hasDoor_32 h x y (nI i) = some (.inr (.inl ())) ∧ (dA i = y ∧ dB i = x)) ∨ (fX11_hasDoor_32 h x y (nI i) = some (.inl (nI i + 1)) ∧ ¬ (dA i = y ∧ dB i = x))) := by
      by_cases c1 : dA i = y
      · by_cases c2 : dB i = x
        · exact Or.inl ⟨by simp only [fX11_hasDoor_32, fX11_hasDoor_54, bnd_s, pw_s, rd_0, rd_1, rd_2, rd_3, rd_4, rd_5, rd_6, wr_0, wr_1, wr_2, wr_3, wr_4, wr_5, zb_0, zb_1, Nat.reduceLT, Nat.reducePow, rd_k (n := 28) (show i < 28 by omega), E1, E2, if_pos c1, if_pos c2], c1, c2⟩
        · exact Or.inr ⟨by simp only [fX11_hasDoor_32, fX11_hasDoor_54, bnd_s, pw_s, rd_0, rd_1, rd_2, rd_3, rd_4, rd_5, rd_6, wr_0, wr_1, wr_2, wr_3, wr_4, wr_5, zb_0, zb_1, Nat.reduceLT, Nat.reducePow, rd_k (n := 28) (show i < 28 by omega), E1, E2, if_pos c1, if_neg c2], fun q => c2 q.2⟩
      · exact Or.inr ⟨by simp only [fX11_hasDoor_32, fX11_hasDoor_54, bnd_s, pw_s, rd_0, rd_1, rd_2, rd_3, rd_4, rd_5, rd_6, wr_0, wr_1, wr_2, wr_3, wr_4, wr_5, zb_0, zb_1, Nat.reduceLT, Nat.reducePow, rd_k (n := 28) (show i < 28 by omega), E1, if_neg c1], fun q => c1 q.1⟩
    by_cases c1 : dA i = x
    · by_cases c2 : dB i = y
      · refine Or.inr ⟨.inl (), ?_, Or.inl ⟨rfl, i, hi, Or.inl ⟨c1, c2⟩⟩⟩
        simp only [fX11_hasDoor_2, bnd_s, pw_s, rd_0, rd_1, rd_2, rd_3, rd_4, rd_5, rd_6, wr_0, wr_1, wr_2, wr_3, wr_4, wr_5, zb_0, zb_1, Nat.reduceLT, Nat.reducePow, h5, if_neg q1, rd_k (n := 28) (show i < 28 by omega), E1, E2, if_pos c1, if_pos c2]
      · rcases tail with ⟨t1, t2⟩ | ⟨t1, t2⟩
        · refine Or.inr ⟨.inl (), ?_, Or.inl ⟨rfl, i, hi, Or.inr t2⟩⟩
          simp only [fX11_hasDoor_2, bnd_s, pw_s, rd_0, rd_1, rd_2, rd_3, rd_4, rd_5, rd_6, wr_0, wr_1, wr_2, wr_3, wr_4, wr_5, zb_0, zb_1, Nat.reduceLT, Nat.reducePow, h5, if_neg q1, rd_k (n := 28) (show i < 28 by omega), E1, E2, if_pos c1, if_neg c2, t1]
        · refine Or.inl ⟨nI i + 1, ?_, nI_1 i, nx (fun w => by rcases w with w | w; exact c2 w.2; exact t2 w)⟩
          simp only [fX11_hasDoor_2, bnd_s, pw_s, rd_0, rd_1, rd_2, rd_3, rd_4, rd_5, rd_6, wr_0, wr_1, wr_2, wr_3, wr_4, wr_5, zb_0, zb_1, Nat.reduceLT, Nat.reducePow, h5, if_neg q1, rd_k (n := 28) (show i < 28 by omega), E1, E2, if_pos c1, if_neg c2, t1]
    · rcases tail with ⟨t1, t2⟩ | ⟨t1, t2⟩
      · refine Or.inr ⟨.inl (), ?_, Or.inl ⟨rfl, i, hi, Or.inr t2⟩⟩
        simp only [fX11_hasDoor_2, bnd_s, pw_s, rd_0, rd_1, rd_2, rd_3, rd_4, rd_5, rd_6, wr_0, wr_1, wr_2, wr_3, wr_4, wr_5, zb_0, zb_1, Nat.reduceLT, Nat.reducePow, h5, if_neg q1, rd_k (n := 28) (show i < 28 by omega), E1, if_neg c1, t1]
      · refine Or.inl ⟨nI i + 1, ?_, nI_1 i, nx (fun w => by rcases w with w | w; exact c1 w.1; exact t2 w)⟩
        simp only [fX11_hasDoor_2, bnd_s, pw_s, rd_0, rd_1, rd_2, rd_3, rd_4, rd_5, rd_6, wr_0, wr_1, wr_2, wr_3, wr_4, wr_5, zb_0, zb_1, Nat.reduceLT, Nat.reducePow, h5, if_neg q1, rd_k (n := 28) (show i < 28 by omega), E1, if_neg c1, t1]) (by
    rintro k ⟨rfl, g2⟩
    refine ⟨.inr (), ?_, Or.inr ⟨rfl, fun ⟨j, hj, w⟩ => g2 j hj w⟩⟩
    simp only [fX11_hasDoor_2, bnd_s, pw_s, rd_0, rd_1, rd_2, rd_3, rd_4, rd_5, rd_6, wr_0, wr_1, wr_2, wr_3, wr_4, wr_5, zb_0, zb_1, Nat.reduceLT, Nat.reducePow, h5, Int32.le_refl, if_true]) ⟨rfl, fun j hj => absurd hj (Nat.not_lt_zero j)⟩
  rcases x2 with ⟨rfl, w⟩ | ⟨rfl, w⟩
  · exact Or.inl ⟨by simp only [fX11_hasDoor, fX11_hasDoor_52, x1, bnd_s, sm], w⟩
  · exact Or.inr ⟨by simp only [fX11_hasDoor, fX11_hasDoor_52, x1, bnd_s, sm], w⟩
theorem FB.dr {M : ST} (hB : FB M) : DR (nDo M) (M 8) (M 9) := fun i hi => by
  obtain ⟨a, b, t, ha, hb, hab, -, -, e1, e2, -⟩ := hB.2.2.2.1 i hi
  have := hB.1.2.1
  exact ⟨a, b, by omega, by omega, hab, e1, e2⟩
/-- both say the same of a door -/
theorem door_c {f : Nat} {M hc hm : ST} (hB : FB M) (hCF : CF f M hc) (hF : FM M hm) {a b : Nat} (ha : a < 9) (hb : b < 9) :
    ∃ v, (v = 0 ∨ v = 1) ∧ fX2_hasDoor hc f (nI a) (nI b) = some v ∧ fX11_hasDoor hm (nI a) (nI b) = some v ∧ fX11_hasDoor hm (nI b) (nI a) = some v := by
  have h5 : hc f 5 = nI (nDo M) := hCF.1.2.1.trans hB.1.2.2.1
  have h14 := hB.1.2.2.2.1
  have h31 : hm 3 1 = nI (nDo M) := by rw [hF 3 (by decide)]; exact hB.1.2.2.1
  have e8 : ∀ i, i < nDo M → hm 8 i = M 8 i ∧ hm 9 i = M 9 i := fun i _ => by rw [hF 8 (by decide), hF 9 (by decide)]; exact ⟨rfl, rfl⟩
  rcases hasDoorC h5 h14 hB.dr hCF.2.2.1 (show a < 2 ^ 31 by omega) (show b < 2 ^ 31 by omega) with ⟨p1, p2⟩ | ⟨p1, p2⟩ <;> rcases hasDoorM h31 h14 e8 (nI a) (nI b) with ⟨q1, q2⟩ | ⟨q1, q2⟩ <;> rcases hasDoorM h31 h14 e8 (nI b) (nI a) with ⟨r1, r2⟩ | ⟨r1, r2⟩
  · exact ⟨1, Or.inr rfl, p1, q1, r1⟩
  · exact absurd p2.symm r2
  · exact absurd p2 q2
  · exact absurd p2 q2
  · exact absurd q2 p2
  · exact absurd q2 p2
  · exact absurd r2.symm p2
  · exact ⟨0, Or.inl rfl, p1, q1, r1⟩
