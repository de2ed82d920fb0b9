/-! ===== restore ===== -/
theorem resM {M : ST} {B : AS} {hm : ST} (h9 : nR M ≤ 9) (h10 : nC M ≤ 10) (hP : PA (hm 37) 0 M B) (hc : ¬ hm 0 54 = 0) : ∃ z, fX11_restore hm = some (1, z) ∧ RM1 M B z ∧ (∀ i, i ∉ [0, 17, 19, 20, 21, 22, 33, 34, 35] → z i = hm i) ∧ (∀ j, j ∉ [2, 33, 34, 35, 36, 37] → z 0 j = hm 0 j) ∧ z 0 36 = hm 0 55 ∧ z 0 37 = hm 0 56 ∧ (∀ j, j < 1240 → z 22 j = hm 38 j) ∧ (∀ j, j < 8 → z 33 j = hm 39 j) ∧ (∀ j, j < 8 → z 34 j = hm 40 j) ∧ (∀ j, j < 8 → z 35 j = hm 41 j) ∧ ∀ j, j < 3 → z 17 j = hm 42 j := by
  obtain ⟨a, ea⟩ : ∃ a, a = up2 (up2 (up2 hm 0 2 0) 0 36 (hm 0 55)) 0 37 (hm 0 56) := ⟨_, rfl⟩
  have ak : ∀ i, i ≠ 0 → a i = hm i := fun i hi => by rw [ea, up2_n hi, up2_n hi, up2_n hi]
  have a36 : a 0 36 = hm 0 55 := by rw [ea, up2_sn (by decide), up2_ss]
  have a37 : a 0 37 = hm 0 56 := by rw [ea, up2_ss]
  have a0 : ∀ j, j ≠ 2 → j ≠ 36 → j ≠ 37 → a 0 j = hm 0 j := fun j p q r => by rw [ea, up2_sn r, up2_sn q, up2_sn p]
  obtain ⟨b, d1, d2, d3, d4⟩ := unpackM h9 h10 (hm := a) (o := 37) (n := 31) (b := 0) (A := B) (by rw [ak 37 (by decide)]; exact hP) (by decide) (by decide) (by decide)
  obtain ⟨e, e1, e2, e3⟩ := beM (h := b) (o1 := 22) (o2 := 38) (n := 1240) (by decide) (by decide)
  obtain ⟨g, g1, g2, g3⟩ := beM (h := e) (o1 := 33) (o2 := 39) (n := 8) (by decide) (by decide)
  obtain ⟨p, p1, p2, p3⟩ := beM (h := g) (o1 := 34) (o2 := 40) (n := 8) (by decide) (by decide)
  obtain ⟨q, q1, q2, q3⟩ := beM (h := p) (o1 := 35) (o2 := 41) (n := 8) (by decide) (by decide)
  obtain ⟨z, z1, z2, z3⟩ := beM (h := q) (o1 := 17) (o2 := 42) (n := 3) (by decide) (by decide)
  have zk : ∀ i, i ∉ [17, 22, 33, 34, 35] → z i = b i := fun i hi => by
    simp only [List.mem_cons, List.not_mem_nil, or_false] at hi
    rw [z3 i (by simp only [List.mem_cons, List.not_mem_nil, or_false]; omega), q3 i (by simp only [List.mem_cons, List.not_mem_nil, or_false]; omega), p3 i (by simp only [List.mem_cons, List.not_mem_nil, or_false]; omega), g3 i (by simp only [List.mem_cons, List.not_mem_nil, or_false]; omega), e3 i (by simp only [List.mem_cons, List.not_mem_nil, or_false]; omega)]
  have z0 : z 0 = b 0 := zk 0 (by decide)
  have bk : ∀ i, i ∉ [0, 19, 20, 21] → b i = hm i := fun i hi => by
    simp only [List.mem_cons, List.not_mem_nil, or_false] at hi
    rw [d3 i (by simp only [List.mem_cons, List.not_mem_nil, or_false]; omega), ak i (by omega)]
  have t0 : up2 hm 0 2 0 0 54 = hm 0 54 := up2_sn (by decide)
  have t1 : up2 hm 0 2 0 0 55 = hm 0 55 := up2_sn (by decide)
  have t2 : up2 (up2 hm 0 2 0) 0 36 (hm 0 55) 0 56 = hm 0 56 := by rw [up2_sn (by decide), up2_sn (by decide)]
  refine ⟨z, ?_, ?_, fun i hi => ?_, fun j hj => ?_, ?_, ?_, fun j hj => ?_, fun j hj => ?_, fun j hj => ?_, fun j hj => ?_, fun j hj => ?_⟩
  · unfold fX11_restore
    rw [pw_s, bnd_s, t0, if_neg hc, t1, pw_s, bnd_s, t2, pw_s, bnd_s, ← ea]
    rw [show fX11_unpack a 37 31 0 = some b from d1, bnd_s, e1, bnd_s, g1, bnd_s, p1, bnd_s, q1, bnd_s, z1, bnd_s]
  · unfold RM1
    rw [z0, zk 19 (by decide), zk 20 (by decide), zk 21 (by decide)]
    exact d2
  · simp only [List.mem_cons, List.not_mem_nil, or_false] at hi
    rw [zk i (by simp only [List.mem_cons, List.not_mem_nil, or_false]; omega), bk i (by simp only [List.mem_cons, List.not_mem_nil, or_false]; omega)]
  · simp only [List.mem_cons, List.not_mem_nil, or_false] at hj
    rw [z0, d4 j (by simp only [List.mem_cons, List.not_mem_nil, or_false]; omega), a0 j (by omega) (by omega) (by omega)]
  · rw [z0, d4 36 (by decide)]; exact a36
  · rw [z0, d4 37 (by decide)]; exact a37
  · rw [z3 22 (by decide), q3 22 (by decide), p3 22 (by decide), g3 22 (by decide), e2 j hj, bk 38 (by decide)]
  · rw [z3 33 (by decide), q3 33 (by decide), p3 33 (by decide), g2 j hj, e3 39 (by decide), bk 39 (by decide)]
  · rw [z3 34 (by decide), q3 34 (by decide), p2 j hj, g3 40 (by decide), e3 40 (by decide), bk 40 (by decide)]
  · rw [z3 35 (by decide), q2 j hj, p3 41 (by decide), g3 41 (by decide), e3 41 (by decide), bk 41 (by decide)]
  · rw [z2 j hj, q3 42 (by decide), p3 42 (by decide), g3 42 (by decide), e3 42 (by decide), bk 42 (by decide)]
theorem t_restore {hc hm : ST} (hI : Inv hc hm) : ∃ y, s_restore hc hm = some y ∧ Inv y.1 y.2 := by
  obtain ⟨f, M, A, h, h2⟩ := hI
  obtain ⟨hf, h0, hB, hF, hCF, hR, hR1, hA⟩ := id h
  have m1 := codeM (M := M) hR1
  have h9 := hB.1.2.1
  have h10 := hB.1.2.2.2.2.2.2.2
  obtain ⟨k1, k2, k3, k4, k5, k6, k7, k8, k9⟩ := id h2
  unfold s_restore
  apply n_ok
  rcases k9 with c | ⟨c, B, b1, b2, b3, b4, b5, b6⟩
  · refine ⟨0, hc, _, ?_, ?_, Inv.ro h h2 (fun _ _ _ _ => rfl) m1⟩
    · unfold fX10_restore fX10_restore_18
      rw [if_pos (k8.trans c), k8, c, zb_0, bnd_s]
    · unfold fX11_restore
      rw [pw_s, bnd_s, if_pos ((up2_sn (by decide)).trans c)]
  have c0 : ¬ hm 0 54 = 0 := by rw [c]; decide
  obtain ⟨y, y1, y2, y3, y4, y5, y6⟩ := copyP (o := 42) (o1 := 214) (by omega) hc
  obtain ⟨z, z1, zR, zm, zs, z36, z37, z22, z33, z34, z35, z17⟩ := resM h9 h10 b3 c0
  have y8 : y 0 8 = 1 := by rw [y6 0 (by omega), k8]; exact c
  refine ⟨1, y, z, ?_, z1, ?_⟩
  · unfold fX10_restore fX10_restore_18
    rw [if_neg (by rw [k8]; exact c0), y1, bnd_s, y8, zb_1, bnd_s]
  · refine Inv.wr h h2 (fun i _ _ _ r => y6 i (by omega)) (fun i hi => ?_) (fun i hi => ?_) (y2 M B h9 h10 b2) zR b1 (fun k hk => ?_) ?_ ?_
    · simp only [KmW, Km, List.mem_cons, List.not_mem_nil, or_false] at hi
      exact zm i (by simp only [List.mem_cons, List.not_mem_nil, or_false]; omega)
    · simp only [KsW, KmS, List.mem_cons, List.not_mem_nil, or_false] at hi
      exact zs i (by simp only [List.mem_cons, List.not_mem_nil, or_false]; omega)
    · exact (y5 k hk).trans ((b6 k hk).trans (z17 k hk).symm)
    · rw [z37]
      exact (y4 M _ _ _ _ b5).rows z33 z34 z35
    · rw [z36]
      exact (y3 M _ _ h9 h10 b4).past h9 h10 z22
