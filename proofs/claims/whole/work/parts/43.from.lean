/-! ===== from ===== -/
theorem fillJ {h : ST} {o n : Nat} (hn : n < 100000) (v : Int32) : ∃ z, fJ7_fill_53178 h o n v = some z ∧ (∀ j, j < n → z o j = v) ∧ Fr [o] h z := by
  obtain ⟨z, z1, z2, z3⟩ : ∃ z, lp FU (fJ7_fill_53178_5 o n v (Int32.ofNat n)) (h, 0) = some z ∧ (∀ j, j < n → z o j = v) ∧ Fr [o] h z := by
    refine lp_cnt (b := fJ7_fill_53178_5 o n v (Int32.ofNat n)) (fun i s => s.2 = nI i ∧ (∀ j, j < i → s.1 o j = v) ∧ Fr [o] h s.1) n (by omega) ?_ ?_ ⟨rfl, fun j hj => absurd hj (Nat.not_lt_zero j), Fr.rf⟩
    · rintro i ⟨s, t⟩ hi ⟨rfl, s1, s2⟩
      dsimp only at s1 s2
      refine Or.inl ⟨(up2 s o i v, nI (i + 1)), ?_, rfl, fun j hj => ?_, s2.up (by simp)⟩
      · have q1 : ¬ Int32.ofNat n ≤ nI i := nI_ge hi (by omega)
        simp only [fJ7_fill_53178_5, if_neg q1, wr_k (n := n) hi (by omega), bnd_s, nI_1]
      · dsimp only
        rw [up2_s]
        by_cases c : j = i
        · rw [c, upd_s]
        · rw [upd_n c]; exact s1 j (by omega)
    · rintro ⟨s, t⟩ ⟨rfl, s1, s2⟩
      exact ⟨s, by simp only [fJ7_fill_53178_5, if_pos (show Int32.ofNat n ≤ nI n from Int32.le_refl _)], s1, s2⟩
  exact ⟨z, by simp only [fJ7_fill_53178, z1, bnd_s], z2, z3⟩
/-- the grains lie alike -/
def GR (hc hm s t : ST) : Prop := Fr [392] hc s ∧ Fr [32] hm t ∧ ∀ r, r < 9 → s 392 r = t 32 r
theorem grainsOne {f : Nat} (hf : f = 2 ∨ f = 20) {M hc hm : ST} (hB : FB M) (h0 : hc 0 3 = nI f) (hCF : CF f M hc) (hF : FM M hm) {s t : ST} (hg : GR hc hm s t) {w : Int32} (hw : okW M w) (p q r : Int32) :
    ∃ s' t', fX10_carryGrains s w = some s' ∧ lp FU (fX11_from_113 p q r w) (t, 8 * w) = some t' ∧ GR hc hm s' t' := by
  have h9 := hB.1.2.1
  have hW5 := hB.1.2.2.2.2.2.1
  obtain ⟨g1, g2, g3⟩ := id hg
  have s0 : s 0 = hc 0 := g1 0 (by decide)
  have sf : s f = hc f := g1 f (by simp only [List.mem_cons, List.not_mem_nil, or_false]; omega)
  have f8 : s f 8 = nI (nW M) := by rw [sf]; exact hCF.1.2.2.1.trans hB.1.2.2.2.2.1
  have rff : rf KC 395 1 (s 0 3) = some f := rf_f hf (by rw [s0]; exact h0)
  rcases hw with rfl | ⟨k, hk, rfl⟩
  · refine ⟨s, t, ?_, ?_, hg⟩
    · simp only [fX10_carryGrains, fX10_carryGrains_15, if_neg (show ¬ (5 : Int32) < 0 by decide), rff, bnd_s, pw_s, rd_0, rd_1, rd_2, rd_3, rd_4, rd_5, rd_6, wr_0, wr_1, wr_2, wr_3, wr_4, wr_5, zb_0, zb_1, Nat.reduceLT, Nat.reducePow, f8, if_neg (show ¬ (5 : Int32) < nI (nW M) from nI_nlt (a := 5) hW5 (by decide))]
    · exact lp_r (n := 999999) (b := fX11_from_113 p q r 5) (by simp only [fX11_from_113, if_true])
  obtain ⟨n, hn, e11, hb⟩ := hB.2.2.2.2.1 k hk
  have n5 : ¬ nI k = 5 := fun x => by
    have := (nI_eq (a := k) (b := 5) (by omega) (by decide)).mp x
    omega
  have e8 : (8 : Int32) * nI k = nI (8 * k) := nI_mul 8 k
  have cf7 : hc (f + 7) k = nI n := (hCF.2.2.2.1 k hk).1.trans e11
  obtain ⟨u, v, u1, v1, uv⟩ := lp2_cnt (b1 := fX10_carryGrains_18 (nI k)) (b2 := fX11_from_113 p q r (nI k)) (s := (s, (0 : Int32))) (t := (t, nI (8 * k))) (Q := fun u v => GR hc hm u v) (fun i s t => s.2 = nI i ∧ t.2 = nI (8 * k + i) ∧ GR hc hm s.1 t.1) n (by omega) (by
    rintro i ⟨s, x⟩ ⟨t, y⟩ hi ⟨rfl, rfl, g1, g2, g3⟩
    dsimp only at g1 g2 g3
    obtain ⟨a, b, c, ha, hb', hc1, hc2, ea, eb, ec⟩ := hb i hi
    have F : ∀ j, j < 386 → s j = hc j := fun j hj => g1 j (by simp only [List.mem_cons, List.not_mem_nil, or_false]; omega)
    have s0 : s 0 3 = nI f := by rw [F 0 (by omega)]; exact h0
    have rff : rf KC 395 1 (s 0 3) = some f := rf_f hf s0
    have s7 : s (f + 7) k = nI n := by rw [F _ (by omega)]; exact cf7
    have cc := (hCF.2.2.2.1 k hk).2 i (by rw [e11, nI_clamp (by omega)]; exact hi)
    have s8 : s (f + 8) (8 * k + i) = nI a := by rw [F _ (by omega)]; exact cc.1.trans ea
    have s9 : s (f + 9) (8 * k + i) = nI b := by rw [F _ (by omega)]; exact cc.2.1.trans eb
    have s10 : s (f + 10) (8 * k + i) = nI c := by rw [F _ (by omega)]; exact cc.2.2.trans ec
    have q1 : ¬ nI n ≤ nI i := nI_ge hi (by omega)
    have ix : nI k * 8 + nI i = nI (8 * k + i) := by rw [show nI k * 8 = nI (k * 8) from nI_mul k 8, nI_add, Nat.mul_comm]
    have t11 : t 11 = M 11 := (g2 11 (by decide)).trans (hF 11 (by decide))
    have t12 : t 12 = M 12 := (g2 12 (by decide)).trans (hF 12 (by decide))
    have t13 : t 13 = M 13 := (g2 13 (by decide)).trans (hF 13 (by decide))
    have t14 : t 14 = M 14 := (g2 14 (by decide)).trans (hF 14 (by decide))
    have t4 : t 4 = M 4 := (g2 4 (by decide)).trans (hF 4 (by decide))
    have q2 : ¬ nI (8 * k + n) ≤ nI (8 * k + i) := nI_ge (by omega) (by omega)
    have R9 : ∀ j, j < 9 → s 392 j = t 32 j := g3
    obtain ⟨m, em⟩ : ∃ m, m = t 32 a * nI c / 10 := ⟨_, rfl⟩
    obtain ⟨s1, es1⟩ : ∃ s1, s1 = up2 s 392 a (t 32 a - m) := ⟨_, rfl⟩
    obtain ⟨t1, et1⟩ : ∃ t1, t1 = up2 t 32 a (t 32 a - m) := ⟨_, rfl⟩
    have F1 : ∀ j, j < 386 → s1 j = hc j := fun j hj => by rw [es1, up2_n (by omega)]; exact F j hj
    have rff1 : rf KC 395 1 (s1 0 3) = some f := rf_f hf (by rw [F1 0 (by omega)]; exact h0)
    have s19 : s1 (f + 9) (8 * k + i) = nI b := by rw [F1 _ (by omega)]; exact cc.2.1.trans eb
    have R1 : ∀ j, j < 9 → s1 392 j = t1 32 j := fun j hj => by
      rw [es1, et1, up2_s, up2_s]
      by_cases d : j = a
      · rw [d, upd_s, upd_s]
      · rw [upd_n d, upd_n d]; exact R9 j hj
    have T1 : ∀ j, j ≠ 32 → t1 j = t j := fun j hj => by rw [et1, up2_n hj]
    have t113 : t1 13 = M 13 := (T1 13 (by decide)).trans t13
    have t14' : t1 4 = M 4 := (T1 4 (by decide)).trans t4
    obtain ⟨z, ez⟩ : ∃ z, z = (if M 4 b = 1 then m / 2 else m) := ⟨_, rfl⟩
    have ar : fX2_arrives s1 f (nI b) m = some z := by
      rw [ez]
      exact f_arrives (hCF.kept (fun j hj => F1 j (by simp only [CFcells, List.mem_cons, List.not_mem_nil, or_false] at hj; omega))) hb' h9 m
    refine Or.inl ⟨(up2 s1 392 b (t1 32 b + z), nI (i + 1)), (up2 t1 32 b (t1 32 b + z), nI (8 * k + (i + 1))), ?_, ?_, rfl, rfl, ?_, ?_, fun j hj => ?_⟩
    · simp only [fX10_carryGrains_18, bnd_s, pw_s, rd_0, rd_1, rd_2, rd_3, rd_4, rd_5, rd_6, wr_0, wr_1, wr_2, wr_3, wr_4, wr_5, zb_0, zb_1, Nat.reduceLT, Nat.reducePow, rff, rd_k (n := 5) (show k < 5 by omega), s7, if_neg q1, ix, rd_k (n := 40) (show 8 * k + i < 40 by omega), s8, s10, rd_k (n := 9) (show a < 9 by omega), R9 a (by omega), ← em, wr_k (n := 9) (show a < 9 by omega), ← es1, rff1, s19, rd_k (n := 9) (show b < 9 by omega), R1 b (by omega), ar, wr_k (n := 9) (show b < 9 by omega), nI_1]
    · by_cases d : M 4 b = 1
      · rw [if_pos d] at ez
        simp only [fX11_from_113, fX11_from_217, if_neg n5, bnd_s, pw_s, rd_0, rd_1, rd_2, rd_3, rd_4, rd_5, rd_6, wr_0, wr_1, wr_2, wr_3, wr_4, wr_5, zb_0, zb_1, Nat.reduceLT, Nat.reducePow, rd_k (n := 10) (show k < 10 by omega), t11, e11, e8, nI_add, if_neg q2, rd_k (n := 80) (show 8 * k + i < 80 by omega), t12, t14, ea, ec, rd_k (n := 9) (show a < 9 by omega), ← em, wr_k (n := 9) (show a < 9 by omega), ← et1, t113, eb, rd_k (n := 9) (show b < 9 by omega), rd_k (n := 18) (show b < 18 by omega), t14', if_pos d, ← ez, wr_k (n := 9) (show b < 9 by omega), nI_1, Nat.add_assoc]
      · rw [if_neg d] at ez
        simp only [fX11_from_113, fX11_from_217, if_neg n5, bnd_s, pw_s, rd_0, rd_1, rd_2, rd_3, rd_4, rd_5, rd_6, wr_0, wr_1, wr_2, wr_3, wr_4, wr_5, zb_0, zb_1, Nat.reduceLT, Nat.reducePow, rd_k (n := 10) (show k < 10 by omega), t11, e11, e8, nI_add, if_neg q2, rd_k (n := 80) (show 8 * k + i < 80 by omega), t12, t14, ea, ec, rd_k (n := 9) (show a < 9 by omega), ← em, wr_k (n := 9) (show a < 9 by omega), ← et1, t113, eb, rd_k (n := 9) (show b < 9 by omega), rd_k (n := 18) (show b < 18 by omega), t14', if_neg d, ez, wr_k (n := 9) (show b < 9 by omega), nI_1, Nat.add_assoc]
    · dsimp only
      exact (show Fr [392] hc s1 by rw [es1]; exact g1.up (by decide)).up (by decide)
    · dsimp only
      exact (show Fr [32] hm t1 by rw [et1]; exact g2.up (by decide)).up (by decide)
    · dsimp only
      rw [up2_s, up2_s]
      by_cases d : j = b
      · rw [d, upd_s, upd_s]
      · rw [upd_n d, upd_n d]; exact R1 j hj) (by
    rintro ⟨s, x⟩ ⟨t, y⟩ ⟨rfl, rfl, g1, g2, g3⟩
    dsimp only at g1 g2 g3
    have F : ∀ j, j < 386 → s j = hc j := fun j hj => g1 j (by simp only [List.mem_cons, List.not_mem_nil, or_false]; omega)
    have rff : rf KC 395 1 (s 0 3) = some f := rf_f hf (by rw [F 0 (by omega)]; exact h0)
    have s7 : s (f + 7) k = nI n := by rw [F _ (by omega)]; exact cf7
    have t11 : t 11 = M 11 := (g2 11 (by decide)).trans (hF 11 (by decide))
    exact ⟨s, t, by simp only [fX10_carryGrains_18, bnd_s, pw_s, rd_0, rd_1, rd_2, rd_3, rd_4, rd_5, rd_6, wr_0, wr_1, wr_2, wr_3, wr_4, wr_5, zb_0, zb_1, Nat.reduceLT, Nat.reducePow, rff, rd_k (n := 5) (show k < 5 by omega), s7, Int32.le_refl, if_true], by simp only [fX11_from_113, if_neg n5, bnd_s, pw_s, rd_0, rd_1, rd_2, rd_3, rd_4, rd_5, rd_6, wr_0, wr_1, wr_2, wr_3, wr_4, wr_5, zb_0, zb_1, Nat.reduceLT, Nat.reducePow, rd_k (n := 10) (show k < 10 by omega), t11, e11, e8, nI_add, Int32.le_refl, if_true], g1, g2, g3⟩) ⟨rfl, rfl, hg⟩
  refine ⟨u, v, ?_, by rw [e8]; exact v1, uv⟩
  simp only [fX10_carryGrains, if_neg (nI_pos (show k < 2 ^ 31 by omega)), rff, bnd_s, pw_s, rd_0, rd_1, rd_2, rd_3, rd_4, rd_5, rd_6, wr_0, wr_1, wr_2, wr_3, wr_4, wr_5, zb_0, zb_1, Nat.reduceLT, Nat.reducePow, f8, if_pos (nI_lt hk (show nW M < 2 ^ 31 by omega)), u1]
theorem t_from {hc hm : ST} (hI : Inv hc hm) (a1 a2 a3 : Int32) : ∃ y, s_from hc hm a1 a2 a3 = some y ∧ Inv y.1 y.2 := by
  obtain ⟨f, M, A, h, h2⟩ := hI
  obtain ⟨hf, h0, hB, hF, hCF, hR, hR1, hA⟩ := id h
  have m1 := codeM (M := M) hR1
  have h9 := hB.1.2.1
  have hF1 := fm_up hF 2 0
  have n1 : ¬ (1 : Int32) = 0 := by decide
  unfold s_from fL_from
  apply s_ok
  rcases room_c h a1 with ⟨a, ha, rfl, e1, e2⟩ | ⟨e1, e2⟩
  rotate_left
  · obtain ⟨q1, q2⟩ := failM hR1 1
    refine Or.inr ⟨1, 1, 0, hc, _, ?_, rfl, by decide, ?_, q2.2.2.2, Inv.ro h h2 (fun _ _ _ _ => rfl) q2⟩
    · simp only [fX10_from, bnd_s, pw_s, rd_0, rd_1, rd_2, rd_3, rd_4, rd_5, rd_6, wr_0, wr_1, wr_2, wr_3, wr_4, wr_5, zb_0, zb_1, Nat.reduceLT, Nat.reducePow, e1, sm]
    · simp only [fX11_from, fX11_from_21, bnd_s, pw_s, rd_0, rd_1, rd_2, rd_3, rd_4, rd_5, rd_6, wr_0, wr_1, wr_2, wr_3, wr_4, wr_5, zb_0, zb_1, Nat.reduceLT, Nat.reducePow, e2 _ hF1, q1, if_true]
  have E2 := e2 _ hF1
  rcases room_c h a2 with ⟨b, hb, rfl, e3, e4⟩ | ⟨e3, e4⟩
  rotate_left
  · obtain ⟨q1, q2⟩ := failM hR1 1
    refine Or.inr ⟨1, 1, 0, hc, _, ?_, rfl, by decide, ?_, q2.2.2.2, Inv.ro h h2 (fun _ _ _ _ => rfl) q2⟩
    · simp only [fX10_from, bnd_s, pw_s, rd_0, rd_1, rd_2, rd_3, rd_4, rd_5, rd_6, wr_0, wr_1, wr_2, wr_3, wr_4, wr_5, zb_0, zb_1, Nat.reduceLT, Nat.reducePow, e1, e3, sm]
    · simp only [fX11_from, fX11_from_21, bnd_s, pw_s, rd_0, rd_1, rd_2, rd_3, rd_4, rd_5, rd_6, wr_0, wr_1, wr_2, wr_3, wr_4, wr_5, zb_0, zb_1, Nat.reduceLT, Nat.reducePow, E2, if_neg n1, e4 _ hF1, q1, if_true]
  have E4 := e4 _ hF1
  rcases in_c 0 9 (by decide) (by decide) a3 with ⟨n, -, hn, rfl, e⟩ | ⟨c, e⟩
  rotate_left
  · have e : fX11_isIn (up2 hm 0 2 0) a3.toInt64 (0 : Int64) (9 : Int64) = some 0 := e _
    obtain ⟨q1, q2⟩ := failM hR1 2
    refine Or.inr ⟨2, 2, 0, hc, _, ?_, rfl, by decide, ?_, q2.2.2.2, Inv.ro h h2 (fun _ _ _ _ => rfl) q2⟩
    · by_cases c1 : a3 < 0
      · simp only [fX10_from, fX10_from_20, bnd_s, pw_s, rd_0, rd_1, rd_2, rd_3, rd_4, rd_5, rd_6, wr_0, wr_1, wr_2, wr_3, wr_4, wr_5, zb_0, zb_1, Nat.reduceLT, Nat.reducePow, e1, e3, sm, if_pos c1]
      · simp only [fX10_from, fX10_from_20, bnd_s, pw_s, rd_0, rd_1, rd_2, rd_3, rd_4, rd_5, rd_6, wr_0, wr_1, wr_2, wr_3, wr_4, wr_5, zb_0, zb_1, Nat.reduceLT, Nat.reducePow, e1, e3, sm, if_neg c1, if_neg (show ¬ a3 ≤ 9 from fun q => c ⟨Int32.not_lt.mp c1, q⟩)]
    · simp only [fX11_from, bnd_s, pw_s, rd_0, rd_1, rd_2, rd_3, rd_4, rd_5, rd_6, wr_0, wr_1, wr_2, wr_3, wr_4, wr_5, zb_0, zb_1, Nat.reduceLT, Nat.reducePow, E2, E4, if_neg n1, e, q1, if_true]
  have e : fX11_isIn (up2 hm 0 2 0) (nI n).toInt64 (0 : Int64) (9 : Int64) = some 1 := e _
  obtain ⟨p, p1, p2, p3⟩ := fillJ (h := hc) (o := 392) (n := 9) (by decide) 0
  obtain ⟨q, q1, q2, q3⟩ : ∃ q, lp FU (fX11_from_48 (nI a) (nI b) (nI n)) (up2 hm 0 2 0, 0) = some q ∧ (∀ j, j < 9 → q 32 j = if j = a then 10000 else 0) ∧ Fr [32] (up2 hm 0 2 0) q := by
    refine lp_cnt (b := fX11_from_48 (nI a) (nI b) (nI n)) (fun i s => s.2 = nI i ∧ (∀ j, j < i → s.1 32 j = if j = a then 10000 else 0) ∧ Fr [32] (up2 hm 0 2 0) s.1) 9 (by decide) ?_ ?_ ⟨rfl, fun j hj => absurd hj (Nat.not_lt_zero j), Fr.rf⟩
    · rintro i ⟨s, t⟩ hi ⟨rfl, s1, s2⟩
      dsimp only at s1 s2
      have q1 : ¬ 9 ≤ nI i := nI_ge (b := 9) hi (by decide)
      have q2 : nI i = nI a ↔ i = a := nI_eq (by omega) (by omega)
      refine Or.inl ⟨(up2 s 32 i (if i = a then 10000 else 0), nI (i + 1)), ?_, rfl, fun j hj => ?_, s2.up (by decide)⟩
      · by_cases c : i = a
        · simp only [fX11_from_48, fX11_from_74, if_neg q1, if_pos (q2.mpr c), if_pos c, wr_k (n := 9) hi, bnd_s, nI_1]
        · simp only [fX11_from_48, fX11_from_74, if_neg q1, if_neg (fun x => c (q2.mp x)), if_neg c, wr_k (n := 9) hi, bnd_s, nI_1]
      · dsimp only
        rw [up2_s]
        by_cases c : j = i
        · rw [c, upd_s]
        · rw [upd_n c]; exact s1 j (by omega)
    · rintro ⟨s, t⟩ ⟨rfl, s1⟩
      exact ⟨s, by simp only [fX11_from_48]; rw [if_pos (show (9 : Int32) ≤ nI 9 by decide)], s1⟩
  obtain ⟨y, hy, ey, -⟩ := hA.at
  have g0 : GR hc (up2 hm 0 2 0) (up2 p 392 a 10000) q := by
    refine ⟨p3.up (by decide), q3, fun r hr => ?_⟩
    rw [q2 r hr, up2_s]
    by_cases c : r = a
    · rw [c, upd_s, if_pos rfl]
    · rw [upd_n c, if_neg c]; exact p2 r hr
  have q33 : q 0 33 = nI y := by rw [q3 0 (by decide)]; exact m1.2.2.1.1.1.trans ey
  obtain ⟨u, v, u1, v1, uv⟩ := lp2_cnt (b1 := fX10_from_48 (nI b) (nI n)) (b2 := fX11_from_87 (nI b) (nI n)) (s := (up2 p 392 a 10000, (0 : Int32))) (t := (q, nI y)) (Q := fun u v => GR hc (up2 hm 0 2 0) u v) (fun i s t => s.2 = nI i ∧ t.2 = nI (y + i) ∧ GR hc (up2 hm 0 2 0) s.1 t.1) n (by omega) (by
    rintro i ⟨s, x⟩ ⟨t, z⟩ hi ⟨rfl, rfl, g⟩
    dsimp only at g
    have F : ∀ j, j < 386 → s j = hc j := fun j hj => g.1 j (by simp only [List.mem_cons, List.not_mem_nil, or_false]; omega)
    have rff : rf KC 395 1 (s 0 3) = some f := rf_f hf (by rw [F 0 (by omega)]; exact h0)
    have s43 : s 43 0 = nI y := by rw [F 43 (by omega)]; exact hR.1.1.trans ey
    have hCs : CF f M s := hCF.kept (fun j hj => F j (by simp only [CFcells, List.mem_cons, List.not_mem_nil, or_false] at hj; omega))
    have hRs : RC 43 M A s := hR.kept (F _ (by omega)) (F _ (by omega)) (F _ (by omega)) (F _ (by omega))
    have hFt : FM M t := fun j hj => (g.2.1 j (by simp only [FMl, List.mem_cons, List.not_mem_nil, or_false] at hj ⊢; omega)).trans (hF1 j hj)
    have hRt : RM1 M A t := by
      unfold RM1
      rw [g.2.1 0 (by decide), g.2.1 19 (by decide), g.2.1 20 (by decide), g.2.1 21 (by decide)]
      exact m1.2.2.1
    have w1 := f_windC hB hCs hRs (d := y + i) (by omega)
    have w2 := f_windM hB hFt hRt (d := y + i) (by omega)
    obtain ⟨s', t', k1, k2, k3⟩ := grainsOne hf hB h0 hCF hF1 g (hA.okD hB (d := y + i) (by omega)) (nI b) (nI n) (nI (y + i))
    have t33 : t 0 33 = nI y := by rw [g.2.1 0 (by decide)]; exact m1.2.2.1.1.1.trans ey
    refine Or.inl ⟨(s', nI (i + 1)), (t', nI (y + (i + 1))), ?_, ?_, rfl, rfl, k3⟩
    · simp only [fX10_from_48, if_neg (nI_ge hi (show n < 2 ^ 31 by omega)), bnd_s, pw_s, rd_0, rd_1, rd_2, rd_3, rd_4, rd_5, rd_6, wr_0, wr_1, wr_2, wr_3, wr_4, wr_5, zb_0, zb_1, Nat.reduceLT, Nat.reducePow, rff, s43, nI_add, w1, k1, nI_1]
    · simp only [fX11_from_87, fX11_from_225, t33, nI_add, if_neg (nI_ge (show y + i < y + n by omega) (show y + n < 2 ^ 31 by omega)), w2, k2, bnd_s, nI_1, Nat.add_assoc]) (by
    rintro ⟨s, x⟩ ⟨t, z⟩ ⟨rfl, rfl, g⟩
    dsimp only at g
    have t33 : t 0 33 = nI y := by rw [g.2.1 0 (by decide)]; exact m1.2.2.1.1.1.trans ey
    exact ⟨s, t, by simp only [fX10_from_48, Int32.le_refl, if_true], by simp only [fX11_from_87, t33, nI_add, Int32.le_refl, if_true], g⟩) ⟨rfl, rfl, g0⟩
  obtain ⟨v2, v3, v4⟩ := uv
  refine Or.inl ⟨v 32 b, u, v, ?_, ?_, ?_, Inv.ro h h2 (KcE.of v2 (fun i hi => ?_)) (c := 0) ⟨m1.1.tr (v3.sub (by decide)), m1.2.1.tr (Fs.of v3 (by decide)), ?_, ?_⟩⟩
  · simp only [fX10_from, bnd_s, pw_s, rd_0, rd_1, rd_2, rd_3, rd_4, rd_5, rd_6, wr_0, wr_1, wr_2, wr_3, wr_4, wr_5, zb_0, zb_1, Nat.reduceLT, Nat.reducePow, e1, e3, sm, if_neg (nI_pos (show n < 2 ^ 31 by omega)), if_pos (show nI n ≤ 9 from nI_le (b := 9) hn (by decide)), p1, wr_k (n := 9) (show a < 9 by omega), u1, rd_k (n := 9) (show b < 9 by omega), v4 b (by omega)]
  · simp only [fX11_from, bnd_s, pw_s, rd_0, rd_1, rd_2, rd_3, rd_4, rd_5, rd_6, wr_0, wr_1, wr_2, wr_3, wr_4, wr_5, zb_0, zb_1, Nat.reduceLT, Nat.reducePow, E2, E4, if_neg n1, e, q1, q33, v1, rd_k (n := 9) (show b < 9 by omega)]
  · rw [v3 0 (by decide)]; exact m1.2.2.2
  · simp only [List.mem_cons, List.not_mem_nil, or_false] at hi; omega
  · unfold RM1
    rw [v3 0 (by decide), v3 19 (by decide), v3 20 (by decide), v3 21 (by decide)]
    exact m1.2.2.1
  · rw [v3 0 (by decide)]; exact m1.2.2.2
