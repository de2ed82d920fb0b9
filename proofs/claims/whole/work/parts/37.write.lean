/-! ===== what acts write ===== -/
theorem SightR.kept2 {P : Nat} {M hc hc' : ST} {many : Int32} {rm dy mu : Nat → Int32} (h : SightR P M hc many rm dy mu) (e : ∀ i, P + 167 ≤ i → i < P + 171 → hc' i = hc i) : SightR P M hc' many rm dy mu := by
  obtain ⟨k, h1, h2, h3, h4⟩ := h
  refine ⟨k, h1, h2, by rw [e _ (by omega) (by omega)]; exact h3, fun i hi => ?_⟩
  rw [e _ (by omega) (by omega), e _ (by omega) (by omega), e _ (by omega) (by omega)]
  exact h4 i hi
theorem ActsR.kept2 {P : Nat} {M hc hc' : ST} {many : Int32} {past : Nat → Int32} (h : ActsR P M hc many past) (e : ∀ i, P + 5 ≤ i → i < P + 167 → hc' i = hc i) : ActsR P M hc' many past := by
  obtain ⟨k, first, h1, h2, h3, h4, h5, h6⟩ := h
  refine ⟨k, first, h1, h2, by rw [e _ (by omega) (by omega)]; exact h3, by rw [e _ (by omega) (by omega)]; exact h4, h5, fun j hj => ?_⟩
  obtain ⟨B, b1, b2, b3⟩ := h6 j hj
  have hl := Nat.mod_lt (first + j) (show 0 < 40 by decide)
  exact ⟨B, b1, b2.kept (e _ (by omega) (by omega)) (e _ (by omega) (by omega)) (e _ (by omega) (by omega)) (e _ (by omega) (by omega)), b3⟩
def KmW : List Nat := 17 :: 22 :: 33 :: 34 :: 35 :: Km
def KsW : List Nat := 36 :: 37 :: KmS
theorem Inv.wr {f : Nat} {M : ST} {A A' : AS} {hc hm hc' hm' : ST} (h : J f M A hc hm) (h2 : J2 f M hc hm)
    (hC : ∀ i, i < 386 → i ≠ f + 13 → i ≠ f + 15 → i < 43 ∨ 214 ≤ i → hc' i = hc i)
    (hM : Fr KmW hm hm') (hS : Fs 0 KsW hm hm')
    (hR : RC 43 M A' hc') (hR1 : RM1 M A' hm') (hA : AB M 999 A')
    (h5 : ∀ k, k < 3 → hc' 213 k = hm' 17 k) (h6 : SightR 42 M hc' (hm' 0 37) (hm' 33) (hm' 34) (hm' 35)) (h7 : ActsR 42 M hc' (hm' 0 36) (hm' 22)) : Inv hc' hm' := by
  obtain ⟨hf, h0, hB, hF, hCF, -, -, -⟩ := h
  obtain ⟨k1, k2, k3, k4, -, -, -, k8, k9⟩ := h2
  have c0 : hc' 0 = hc 0 := hC 0 (by omega) (by omega) (by omega) (by omega)
  have c1 : hc' 1 = hc 1 := hC 1 (by omega) (by omega) (by omega) (by omega)
  have c385 : hc' 385 = hc 385 := hC 385 (by omega) (by omega) (by omega) (by omega)
  have c16 : hc' (f + 16) = hc (f + 16) := hC _ (by omega) (by omega) (by omega) (by omega)
  have s : ∀ k, k ∉ KsW → hm' 0 k = hm 0 k := hS
  refine ⟨f, M, A', ⟨hf, by rw [c0]; exact h0, hB, fun i hi => (hM i ?_).trans (hF i hi), hCF.kept (fun i hi => hC i ?_ ?_ ?_ ?_), hR, hR1, hA⟩, ?_⟩
  · simp only [FMl, KmW, Km, List.mem_cons, List.not_mem_nil, or_false] at hi ⊢; omega
  · simp only [CFcells, List.mem_cons, List.not_mem_nil, or_false] at hi; omega
  · simp only [CFcells, List.mem_cons, List.not_mem_nil, or_false] at hi; omega
  · simp only [CFcells, List.mem_cons, List.not_mem_nil, or_false] at hi; omega
  · simp only [CFcells, List.mem_cons, List.not_mem_nil, or_false] at hi; omega
  unfold J2
  rw [c0, c385, s 19 (by decide), s 28 (by decide), s 54 (by decide), s 55 (by decide), s 56 (by decide), hM 18 (by decide), hM 37 (by decide), hM 38 (by decide), hM 39 (by decide), hM 40 (by decide), hM 41 (by decide), hM 42 (by decide), c1]
  refine ⟨k1, k2, k3, fun a b ha hb => by rw [c16]; exact k4 a b ha hb, h5, h6, h7, k8, ?_⟩
  rcases k9 with h9 | ⟨h9, B, b1, b2, b3, b4, b5, b6⟩
  · exact Or.inl h9
  · exact Or.inr ⟨h9, B, b1, b2.kept (hC _ (by omega) (by omega) (by omega) (by omega)) (hC _ (by omega) (by omega) (by omega) (by omega)) (hC _ (by omega) (by omega) (by omega) (by omega)) (hC _ (by omega) (by omega) (by omega) (by omega)), b3, b4.kept (fun i a b => hC i (by omega) (by omega) (by omega) (by omega)), b5.kept (fun i a b => hC i (by omega) (by omega) (by omega) (by omega)), b6⟩
/-! a refused call -/
theorem refC {hc : ST} {k : Nat} (hk : k < 3) : fX10_refuse hc (nI k) = some (-1, up2 hc 213 k (hc 213 k + 1)) := by
  simp only [fX10_refuse, bnd_s, pw_s, rd_0, rd_1, rd_2, rd_3, rd_4, rd_5, rd_6, wr_0, wr_1, wr_2, wr_3, wr_4, wr_5, zb_0, zb_1, Nat.reduceLT, Nat.reducePow, rd_k (n := 3) hk, wr_k (n := 3) hk]
theorem refM {hm : ST} {k : Nat} (hk : k < 3) : fX11_refuse hm (nI k) = some (-1, up2 hm 17 k (hm 17 k + 1)) := by
  simp only [fX11_refuse, bnd_s, pw_s, rd_0, rd_1, rd_2, rd_3, rd_4, rd_5, rd_6, wr_0, wr_1, wr_2, wr_3, wr_4, wr_5, zb_0, zb_1, Nat.reduceLT, Nat.reducePow, rd_k (n := 3) hk, wr_k (n := 3) hk]
theorem Inv.ref {f : Nat} {M : ST} {A : AS} {hc hm : ST} (h : J f M A hc hm) (h2 : J2 f M hc hm) {k : Nat} (hk : k < 3) : Inv (up2 hc 213 k (hc 213 k + 1)) (up2 (up2 hm 0 2 0) 17 k (up2 hm 0 2 0 17 k + 1)) := by
  have m1 := codeM (M := M) h.2.2.2.2.2.2.1
  have u : ∀ i, i ≠ 213 → up2 hc 213 k (hc 213 k + 1) i = hc i := fun i hi => up2_n hi
  have v : ∀ i, i ≠ 0 → i ≠ 17 → up2 (up2 hm 0 2 0) 17 k (up2 hm 0 2 0 17 k + 1) i = hm i := fun i hi hj => (up2_n hj).trans (up2_n hi)
  have w : up2 (up2 hm 0 2 0) 17 k (up2 hm 0 2 0 17 k + 1) 0 = up2 hm 0 2 0 0 := up2_n (by decide)
  have w2 : ∀ j, j ≠ 2 → up2 (up2 hm 0 2 0) 17 k (up2 hm 0 2 0 17 k + 1) 0 j = hm 0 j := fun j hj => by rw [w, up2_sn hj]
  obtain ⟨k1, k2, k3, k4, k5, k6, k7, k8, k9⟩ := id h2
  refine Inv.wr h h2 (A' := A) (fun i _ _ _ q => u i (by omega)) ((Fr.rf.up (by decide)).up (by decide)) ((Fs.rf.up (by decide)).un (by decide)) (h.2.2.2.2.2.1.kept (u _ (by decide)) (u _ (by decide)) (u _ (by decide)) (u _ (by decide))) ?_ h.2.2.2.2.2.2.2 (fun j hj => ?_) ?_ ?_
  · unfold RM1
    rw [w2 33 (by decide), w2 34 (by decide), w2 35 (by decide), v 19 (by decide) (by decide), v 20 (by decide) (by decide), v 21 (by decide) (by decide)]
    exact h.2.2.2.2.2.2.1
  · have e : up2 hm 0 2 0 17 = hm 17 := up2_n (by decide)
    rw [up2_s, up2_s, e, ← k5 k hk]
    by_cases c : j = k
    · rw [c, upd_s, upd_s]
    · rw [upd_n c, upd_n c]; exact k5 j hj
  · rw [w2 37 (by decide), v 33 (by decide) (by decide), v 34 (by decide) (by decide), v 35 (by decide) (by decide)]
    exact k6.kept2 (fun i a b => u i (by omega))
  · rw [w2 36 (by decide), v 22 (by decide) (by decide)]
    exact k7.kept2 (fun i a b => u i (by omega))
/-! an act is remembered -/
theorem bst_k {o k : Nat} (h : k < 40) : bst o (nI k) = some (o + 1 + 4 * k) := by
  unfold bst
  rw [if_pos (nI_in h (by decide)), nI_clamp (by omega)]
theorem PA.kept {r r' : Nat → Int32} {b : Nat} {M : ST} {A : AS} (h9 : nR M ≤ 9) (h10 : nC M ≤ 10) (h : PA r b M A) (e : ∀ j, b ≤ j → j < b + 31 → r' j = r j) : PA r' b M A := by
  refine ⟨⟨(e _ (by omega) (by omega)).trans h.1.1, (e _ (by omega) (by omega)).trans h.1.2.1, (e _ (by omega) (by omega)).trans h.1.2.2⟩, fun q hq => ⟨(e _ (by omega) (by omega)).trans (h.2.1 q hq).1, (e _ (by omega) (by omega)).trans (h.2.1 q hq).2⟩, fun i hi => (e _ (by omega) (by omega)).trans (h.2.2 i hi)⟩
theorem PA.shift {r r' : Nat → Int32} {b c : Nat} {M : ST} {A : AS} (h9 : nR M ≤ 9) (h10 : nC M ≤ 10) (h : PA r b M A) (e : ∀ j, j < 31 → r' (c + j) = r (b + j)) : PA r' c M A := by
  refine ⟨⟨(e 0 (by omega)).trans h.1.1, (e 1 (by omega)).trans h.1.2.1, (e 2 (by omega)).trans h.1.2.2⟩, fun q hq => ⟨?_, ?_⟩, fun i hi => ?_⟩
  · rw [Nat.add_assoc, e _ (by omega), ← Nat.add_assoc]; exact (h.2.1 q hq).1
  · rw [Nat.add_assoc, e _ (by omega), ← Nat.add_assoc]; exact (h.2.1 q hq).2
  · rw [Nat.add_assoc, e _ (by omega), ← Nat.add_assoc]; exact h.2.2 i hi
theorem rem32 {M : ST} (h9 : nR M ≤ 9) (h10 : nC M ≤ 10) {A : AS} {hc hm : ST} (hR : RC 43 M A hc) (hR1 : RM1 M A hm) (hA : AB M 999 A) (h7 : ActsR 42 M hc (hm 0 36) (hm 22)) (hn : ¬ hm 0 36 = 40) :
    ∃ hc' hm', fX0_remember_32 hc 47 43 = some hc' ∧ fX11_keep_52 hm = some hm' ∧ RC 43 M A hc' ∧ RM1 M A hm' ∧ ActsR 42 M hc' (hm' 0 36) (hm' 22) ∧ (∀ i, i < 47 ∨ 209 ≤ i → hc' i = hc i) ∧ Fr [0, 22] hm hm' ∧ Fs 0 [36] hm hm' := by
  obtain ⟨k, first, e1, e2, e3, e4, e5, e6⟩ := h7
  have hk : k < 40 := by
    refine Nat.lt_of_le_of_ne e2 (fun q => hn ?_)
    rw [e1, q]; rfl
  have hl := Nat.mod_lt (first + k) (show 0 < 40 by decide)
  obtain ⟨y, y1, y2, y3⟩ := copyR (o := 49 + 4 * ((first + k) % 40)) (o1 := 43) (by omega) h9 h10 hR
  have y47 : y 47 = hc 47 := y3 47 (by simp only [List.mem_cons, List.not_mem_nil, or_false]; omega)
  obtain ⟨z, z1, z2, z3, z4⟩ := packM h9 h10 hR1 (o := 22) (n := 1240) (b := 31 * k) (by decide) (by omega) (by omega)
  have z0 : z 0 = hm 0 := z4 0 (by decide)
  have ix : nI first + nI k - (nI first + nI k) / 40 * 40 = nI ((first + k) % 40) := by
    rw [nI_add]; exact rem_k (d := 40) (by omega) (by decide) (by decide)
  have yk : ∀ i, i < 47 ∨ 209 ≤ i → y i = hc i := fun i hi => y3 i (by simp only [List.mem_cons, List.not_mem_nil, or_false]; omega)
  have u : ∀ i, i ≠ 47 → up2 y 47 0 (nI (k + 1)) i = y i := fun i hi => up2_n hi
  have v : ∀ i, i ≠ 0 → up2 z 0 36 (nI (k + 1)) i = z i := fun i hi => up2_n hi
  refine ⟨up2 y 47 0 (nI (k + 1)), up2 z 0 36 (nI (k + 1)), ?_, ?_, ?_, ?_, ?_, fun i hi => ?_, ?_, ?_⟩
  · have e3' : hc 47 0 = nI k := e3
    have e4' : hc 47 1 = nI first := e4
    simp only [fX0_remember_32, bnd_s, pw_s, rd_0, rd_1, rd_2, rd_3, rd_4, rd_5, rd_6, wr_0, wr_1, wr_2, wr_3, wr_4, wr_5, zb_0, zb_1, Nat.reduceLT, Nat.reducePow, e3', e4', ix, bst_k hl, y1, y47, nI_1]
  · have m31 : (31 : Int32) * nI k = nI (31 * k) := nI_mul 31 k
    simp only [fX11_keep_52, bnd_s, pw_s, rd_0, rd_1, rd_2, rd_3, rd_4, rd_5, rd_6, wr_0, wr_1, wr_2, wr_3, wr_4, wr_5, zb_0, zb_1, Nat.reduceLT, Nat.reducePow, e1, m31, z1, z0, nI_1]
  · exact RC.kept (RC.kept hR (yk _ (by omega)) (yk _ (by omega)) (yk _ (by omega)) (yk _ (by omega))) (u _ (by decide)) (u _ (by decide)) (u _ (by decide)) (u _ (by decide))
  · unfold RM1
    rw [up2_sn (by decide), up2_sn (by decide), up2_sn (by decide), v 19 (by decide), v 20 (by decide), v 21 (by decide), z0, z4 19 (by decide), z4 20 (by decide), z4 21 (by decide)]
    exact hR1
  · rw [up2_ss, v 22 (by decide)]
    refine ⟨k + 1, first, rfl, hk, up2_ss _ _ _ _, ?_, e5, fun j hj => ?_⟩
    · show up2 y 47 0 (nI (k + 1)) 47 1 = _
      rw [up2_sn (by decide), y47]; exact e4
    · by_cases c : j = k
      · subst c
        exact ⟨A, hA, y2.kept (u _ (by omega)) (u _ (by omega)) (u _ (by omega)) (u _ (by omega)), z2⟩
      · obtain ⟨B, b1, b2, b3⟩ := e6 j (by omega)
        have hl2 := Nat.mod_lt (first + j) (show 0 < 40 by decide)
        have hne : (first + j) % 40 ≠ (first + k) % 40 := by omega
        refine ⟨B, b1, ?_, b3.kept h9 h10 (fun i a b => z3 i (by omega))⟩
        exact (b2.kept (y3 _ (by simp only [List.mem_cons, List.not_mem_nil, or_false]; omega)) (y3 _ (by simp only [List.mem_cons, List.not_mem_nil, or_false]; omega)) (y3 _ (by simp only [List.mem_cons, List.not_mem_nil, or_false]; omega)) (y3 _ (by simp only [List.mem_cons, List.not_mem_nil, or_false]; omega))).kept (u _ (by omega)) (u _ (by omega)) (u _ (by omega)) (u _ (by omega))
  · rw [u i (by omega)]; exact yk i hi
  · exact ((Fr.rf.tr (z4.sub (S' := [0, 22]) (by decide))).up (by decide))
  · exact (Fs.of z4 (by decide)).up (by decide)
theorem remC {M : ST} (h9 : nR M ≤ 9) (h10 : nC M ≤ 10) {A : AS} {hc hm : ST} (hR : RC 43 M A hc) (hR1 : RM1 M A hm) (hA : AB M 999 A) (h7 : ActsR 42 M hc (hm 0 36) (hm 22)) :
    ∃ hc' hm', fX0_remember hc 47 43 = some hc' ∧ fX11_keep hm = some hm' ∧ RC 43 M A hc' ∧ RM1 M A hm' ∧ ActsR 42 M hc' (hm' 0 36) (hm' 22) ∧ (∀ i, i < 47 ∨ 209 ≤ i → hc' i = hc i) ∧ Fr [0, 22] hm hm' ∧ Fs 0 [36] hm hm' := by
  obtain ⟨k, first, e1, e2, e3, e4, e5, e6⟩ := id h7
  have e3' : hc 47 0 = nI k := e3
  have e4' : hc 47 1 = nI first := e4
  by_cases c : k = 40
  · subst c
    have sh : ∃ z, lp FU fX11_keep_12 (hm, 31) = some z ∧ (∀ j, j < 1209 → z 22 j = hm 22 (j + 31)) ∧ Fr [22] hm z := by
      refine lp_cnt (b := fX11_keep_12) (fun i s => s.2 = nI (31 + i) ∧ (∀ j, j < i → s.1 22 j = hm 22 (j + 31)) ∧ (∀ j, i ≤ j → s.1 22 j = hm 22 j) ∧ Fr [22] hm s.1) 1209 (by decide) ?_ ?_ ⟨rfl, fun j hj => absurd hj (Nat.not_lt_zero j), fun _ _ => rfl, Fr.rf⟩
      · rintro i ⟨s, t⟩ hi ⟨rfl, s1, s2, s3⟩
        dsimp only at s1 s2 s3
        refine Or.inl ⟨(up2 s 22 i (s 22 (31 + i)), nI (31 + (i + 1))), ?_, rfl, fun j hj => ?_, fun j hj => ?_, s3.up (by decide)⟩
        · have q1 : ¬ Int32.ofNat 1240 ≤ nI (31 + i) := nI_ge (by omega) (by decide)
          have q2 : nI (31 + i) - 31 = nI i := by
            have := nI_sub (a := 31 + i) (b := 31) (by omega)
            rw [show 31 + i - 31 = i by omega] at this
            exact this
          simp only [fX11_keep_12, if_neg q1, rd_k (n := 1240) (show 31 + i < 1240 by omega), bnd_s, pw_s, rd_0, rd_1, rd_2, rd_3, rd_4, rd_5, rd_6, wr_0, wr_1, wr_2, wr_3, wr_4, wr_5, zb_0, zb_1, Nat.reduceLT, Nat.reducePow, q2, wr_k (n := 1240) (show i < 1240 by omega), nI_1, Nat.add_assoc]
        · dsimp only
          rw [up2_s]
          by_cases d : j = i
          · rw [d, upd_s, s2 _ (by omega), Nat.add_comm]
          · rw [upd_n d]; exact s1 j (by omega)
        · dsimp only
          rw [up2_sn (by omega)]; exact s2 j (by omega)
      · rintro ⟨s, t⟩ ⟨rfl, s1, s2, s3⟩
        exact ⟨s, by simp only [fX11_keep_12, if_pos (show Int32.ofNat 1240 ≤ nI (31 + 1209) from nI_le (Nat.le_refl _) (by decide))], s1, s3⟩
    obtain ⟨z, z1, z2, z3⟩ := sh
    have z0 : z 0 = hm 0 := z3 0 (by decide)
    have i1 : nI first + 1 - (nI first + 1) / 40 * 40 = nI ((first + 1) % 40) := by
      rw [nI_1]; exact rem_k (d := 40) (by omega) (by decide) (by decide)
    have i2 : nI 40 - 1 = nI 39 := by decide
    obtain ⟨y, ey⟩ : ∃ y, y = up2 (up2 hc 47 1 (nI ((first + 1) % 40))) 47 0 (nI 39) := ⟨_, rfl⟩
    obtain ⟨x, ex⟩ : ∃ x, x = up2 z 0 36 (nI 39) := ⟨_, rfl⟩
    have u : ∀ i, i ≠ 47 → y i = hc i := fun i hi => by rw [ey, up2_n hi, up2_n hi]
    have v : ∀ i, i ≠ 0 → x i = z i := fun i hi => by rw [ex, up2_n hi]
    have R' : RC 43 M A y := hR.kept (u _ (by decide)) (u _ (by decide)) (u _ (by decide)) (u _ (by decide))
    have R1' : RM1 M A x := by
      unfold RM1
      rw [ex, up2_sn (by decide), up2_sn (by decide), up2_sn (by decide), up2_n (by decide), up2_n (by decide), up2_n (by decide), z0, z3 19 (by decide), z3 20 (by decide), z3 21 (by decide)]
      exact hR1
    have x36 : x 0 36 = nI 39 := by rw [ex, up2_ss]
    have A' : ActsR 42 M y (x 0 36) (x 22) := by
      rw [x36, v 22 (by decide)]
      refine ⟨39, (first + 1) % 40, rfl, by decide, by rw [ey, up2_ss], by rw [ey, up2_sn (by decide), up2_ss], Nat.mod_lt _ (by decide), fun j hj => ?_⟩
      obtain ⟨B, b1, b2, b3⟩ := e6 (j + 1) (by omega)
      have q : ((first + 1) % 40 + j) % 40 = (first + (j + 1)) % 40 := by omega
      refine ⟨B, b1, ?_, b3.shift h9 h10 (fun i hi => ?_)⟩
      · rw [q]
        exact b2.kept (u _ (by omega)) (u _ (by omega)) (u _ (by omega)) (u _ (by omega))
      · rw [z2 _ (by omega)]
        congr 1
        omega
    obtain ⟨hc', hm', p1, p2, p3, p4, p5, p6, p7, p8⟩ := rem32 h9 h10 R' R1' hA A' (by rw [x36]; decide)
    refine ⟨hc', hm', ?_, ?_, p3, p4, p5, fun i hi => (p6 i hi).trans (u i (by omega)), ?_, ?_⟩
    · have g0 : up2 hc 47 1 (nI ((first + 1) % 40)) 47 0 = nI 40 := by rw [up2_sn (by decide)]; exact e3'
      simp only [fX0_remember, e3', e4', if_pos (show nI 40 = 40 from rfl), bnd_s, pw_s, rd_0, rd_1, rd_2, rd_3, rd_4, rd_5, rd_6, wr_0, wr_1, wr_2, wr_3, wr_4, wr_5, zb_0, zb_1, Nat.reduceLT, Nat.reducePow, i1, g0, i2]
      rw [← ey]; exact p1
    · have g0 : z 0 36 = nI 40 := by rw [z0]; exact e1
      simp only [fX11_keep, e1, if_pos (show nI 40 = 40 from rfl), z1, bnd_s, pw_s, rd_0, rd_1, rd_2, rd_3, rd_4, rd_5, rd_6, wr_0, wr_1, wr_2, wr_3, wr_4, wr_5, zb_0, zb_1, Nat.reduceLT, Nat.reducePow, g0, i2]
      rw [← ex]; exact p2
    · exact ((z3.sub (S' := [0, 22]) (by decide)).tr (fun i hi => v i (fun q => hi (by rw [q]; decide)))).tr p7
    · refine ((Fs.of (T := [36]) z3 (by decide)).tr ?_).tr p8
      rw [ex]; exact Fs.rf.up (by decide)
  · have hn : ¬ hm 0 36 = 40 := fun q => c ((nI_eq (b := 40) (by omega) (by decide)).mp (e1.symm.trans q))
    have hn2 : ¬ hc 47 0 = 40 := fun q => c ((nI_eq (b := 40) (by omega) (by decide)).mp (e3'.symm.trans q))
    obtain ⟨hc', hm', p1, p2, p⟩ := rem32 h9 h10 hR hR1 hA h7 hn
    exact ⟨hc', hm', by unfold fX0_remember; rw [if_neg hn2]; exact p1, by unfold fX11_keep; rw [if_neg hn]; exact p2, p⟩
