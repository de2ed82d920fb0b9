/-! ===== change ===== -/
theorem rc_swap {s : Nat} {M : ST} {A : AS} {y : ST} (hR : RC s M A y) {a b : Nat} : RC s M (aSwap A a b) (up2 (up2 y (s + 3) a (aC A b)) (s + 3) b (aC A a)) := by
  refine ⟨?_, ?_, ?_⟩
  · rw [up2_n (by omega), up2_n (by omega)]; exact hR.1
  · intro r hr
    rw [up2_n (by omega), up2_n (by omega), up2_n (by omega), up2_n (by omega)]; exact hR.2.1 r hr
  · intro i hi
    rw [up2_s, up2_s]
    show _ = upd (upd (aC A) a (aC A b)) b (aC A a) i
    by_cases c1 : i = b
    · subst c1; rw [upd_s, upd_s]
    · rw [upd_n c1, upd_n c1]
      by_cases c2 : i = a
      · subst c2; rw [upd_s, upd_s]
      · rw [upd_n c2, upd_n c2]; exact hR.2.2 i hi
theorem tryChC {f : Nat} (hf : f = 2 ∨ f = 20) {M : ST} (hB : FB M) {A : AS} {y : ST} (hC : CF f M y) (h0 : y 0 3 = nI f) (hR : RC 43 M A y) (hA : AB M 999 A) {a b n : Nat} (ha : a < nC M) (hb : b < nC M) (hn : n ≤ 99) :
    ∃ z, fX10_tryChange y (nI a) (nI b) (nI n) = some z ∧ KcE f y z ∧ ((aC A a = aC A b ∧ z 386 1 = aT A) ∨ (¬ aC A a = aC A b ∧ z 386 1 = aT (aDays M n (aSwap A a b)))) := by
  have h10 := hB.1.2.2.2.2.2.2.2
  obtain ⟨z, z1, z2, z3, z4, z5⟩ := copyT2 hf hB.1.2.1 h10 hC h0 hR
  have ea : z 389 a = aC A a := z2.2.2 a ha
  have eb : z 389 b = aC A b := z2.2.2 b hb
  by_cases c : aC A a = aC A b
  · refine ⟨z, ?_, z3, Or.inl ⟨c, z2.1.2.1⟩⟩
    simp only [fX10_tryChange, fX10_tryChange_80, bnd_s, pw_s, rd_0, rd_1, rd_2, rd_3, rd_4, rd_5, rd_6, wr_0, wr_1, wr_2, wr_3, wr_4, wr_5, zb_0, zb_1, Nat.reduceLT, Nat.reducePow, z1, rd_k (n := 10) (show a < 10 by omega), rd_k (n := 10) (show b < 10 by omega), ea, eb, if_pos c]
  · obtain ⟨u, eu⟩ : ∃ u, u = up2 (up2 z 389 a (aC A b)) 389 b (aC A a) := ⟨_, rfl⟩
    have fu : Fr [389] z u := by rw [eu]; exact (Fr.rf.up (by decide)).up (by decide)
    have hRu : RC 386 M (aSwap A a b) u := by rw [eu]; exact rc_swap z2
    have ku : KcE f z u := KcE.of fu (fun i hi => by simp only [List.mem_cons, List.not_mem_nil, or_false] at hi; omega)
    obtain ⟨w, w1, w2, w3⟩ := manyC hf (Or.inr rfl) hB (ku.cf hf z4) (hA.swap ha hb) hRu (n := n) (by omega) (by omega)
    refine ⟨w, ?_, (z3.tr ku).tr (KcE.of w3 (fun i hi => by simp only [List.mem_cons, List.not_mem_nil, or_false] at hi; omega)), Or.inr ⟨c, w2.1.2.1⟩⟩
    have u0 : u 0 3 = nI f := ku.c0 hf z5
    rw [eu] at w1 u0
    simp only [fX10_tryChange, fX10_tryChange_80, bnd_s, pw_s, rd_0, rd_1, rd_2, rd_3, rd_4, rd_5, rd_6, wr_0, wr_1, wr_2, wr_3, wr_4, wr_5, zb_0, zb_1, Nat.reduceLT, Nat.reducePow, z1, rd_k (n := 10) (show a < 10 by omega), rd_k (n := 10) (show b < 10 by omega), wr_k (n := 10) (show a < 10 by omega), wr_k (n := 10) (show b < 10 by omega), ea, eb, if_neg c, rf_f hf u0, w1]
theorem t_change {hc hm : ST} (hI : Inv hc hm) (a1 : Int32) : ∃ y, s_change hc hm a1 = some y ∧ Inv y.1 y.2 := by
  obtain ⟨f, M, A, h, h2⟩ := hI
  obtain ⟨hf, h0, hB, hF, hCF, hR, hR1, hA⟩ := id h
  have bC := hB.1.2.2.2.2.2.2.1
  have h10 := hB.1.2.2.2.2.2.2.2
  unfold s_change fL_change
  apply s_ok
  rcases ahead_c hc a1 with ⟨n, hn, rfl, e3, e4⟩ | ⟨e3, e4⟩
  rotate_left
  · obtain ⟨q1, q2⟩ := failM hR1 1
    refine Or.inr ⟨2, 1, 0, hc, _, ?_, rfl, by decide, ?_, q2.2.2.2, Inv.ro h h2 (fun _ _ _ _ => rfl) q2⟩
    · simp only [fX10_change, bnd_s, pw_s, rd_0, rd_1, rd_2, rd_3, rd_4, rd_5, rd_6, wr_0, wr_1, wr_2, wr_3, wr_4, wr_5, zb_0, zb_1, Nat.reduceLT, Nat.reducePow, e3, sm]
    · simp only [fX11_change, bnd_s, pw_s, rd_0, rd_1, rd_2, rd_3, rd_4, rd_5, rd_6, wr_0, wr_1, wr_2, wr_3, wr_4, wr_5, zb_0, zb_1, Nat.reduceLT, Nat.reducePow, e4, q1, if_true]
  obtain ⟨-, -, y0, t0, hy0, ht0, ey0, et0⟩ := id hA
  have m1 := codeM (M := M) hR1
  obtain ⟨z, z1, z2, z3, z4, z5⟩ := tryC h hn
  obtain ⟨r, r1, r2⟩ := takenInM hB (fm_up hF 2 0) m1.2.2.1 m1.2.2.2 hA (n := n) (by omega) (by omega) (okE4 hB)
  obtain ⟨T, hT1, hT2, hT3⟩ := taken_B hB (e := M 3 4) hA et0 (by omega) (n := n) (by omega)
  rw [hT3, et0, nI_sub hT1] at r1
  rw [aDaysE_4] at hT3
  have ez : z 386 1 = nI T := z2.1.2.1.trans hT3
  have KK : ∀ (s : ST × Int32 × Int32 × Int32) (t : ST × Int32 × Int32 × Int32), Prop := fun s t => KcE f hc s.1 ∧ MR M A 0 hm t.1 ∧ s.2.2.1 = t.2.2.1 ∧ ∃ m, T - t0 ≤ m ∧ m ≤ 200000000 ∧ s.2.1 = nI (m + t0) ∧ t.2.1 = nI m
  obtain ⟨v, w, v1, w1, v2, w2, vw⟩ := lp2_cnt (b1 := fX10_change_22 (nI n)) (b2 := fX11_change_35 (nI n)) (s := (z, nI T, -1, 0)) (t := (r, nI (T - t0), -1, 0)) (Q := fun v w => KcE f hc v.1 ∧ MR M A 0 hm w.1 ∧ v.2 = w.2) (fun i s t => s.2.2.2 = nI i ∧ t.2.2.2 = nI i ∧ KcE f hc s.1 ∧ MR M A 0 hm t.1 ∧ s.2.2.1 = t.2.2.1 ∧ ∃ m, T - t0 ≤ m ∧ m ≤ 200000000 ∧ s.2.1 = nI (m + t0) ∧ t.2.1 = nI m) (nC M) (by omega) (by
    rintro a ⟨y, m, b, k⟩ ⟨r, m', b', k'⟩ ha ⟨g1, g2, g3, g4, g5, g6⟩
    obtain rfl : k = nI a := g1
    obtain rfl : k' = nI a := g2
    dsimp only at g3 g4 g5 g6
    have f13 : ∀ y', KcE f hc y' → y' f 13 = nI (nC M) := fun y' q => ((q.cf hf hCF).1.2.2.2.1).trans bC
    obtain ⟨v, w, v1, w1, v2, w2, vw⟩ := lp2_cnt (b1 := fX10_change_40 (nI n) (nI a)) (b2 := fX11_change_52 (nI n) (nI a)) (s := (y, m, b, nI a + 1)) (t := (r, m', b', nI a + 1)) (Q := fun v w => KcE f hc v.1 ∧ MR M A 0 hm w.1 ∧ v.2.2 = w.2.2 ∧ ∃ m, T - t0 ≤ m ∧ m ≤ 200000000 ∧ v.2.1 = nI (m + t0) ∧ w.2.1 = nI m) (fun i s t => s.2.2.2 = nI (a + 1 + i) ∧ t.2.2.2 = nI (a + 1 + i) ∧ KcE f hc s.1 ∧ MR M A 0 hm t.1 ∧ s.2.2.1 = t.2.2.1 ∧ ∃ m, T - t0 ≤ m ∧ m ≤ 200000000 ∧ s.2.1 = nI (m + t0) ∧ t.2.1 = nI m) (nC M - (a + 1)) (by omega) (by
      rintro i ⟨y, m, b, k⟩ ⟨r, m', b', k'⟩ hi ⟨g1, g2, g3, g4, g5, mm, g6, g7, g8, g9⟩
      obtain rfl : k = nI (a + 1 + i) := g1
      obtain rfl : k' = nI (a + 1 + i) := g2
      obtain rfl : b = b' := g5
      obtain rfl : m = nI (mm + t0) := g8
      obtain rfl : m' = nI mm := g9
      dsimp only at g3 g4
      have hb : a + 1 + i < nC M := by omega
      obtain ⟨z', p1, p2, p3⟩ := tryChC hf hB (g3.cf hf hCF) (g3.c0 hf h0) (g3.rc hf hR) hA ha hb hn
      obtain ⟨r1, x1, x2, x3⟩ := exchM h10 g4.2.2.1 ha hb
      have fm1 : FM M r1 := fun j hj => (x3 j (by simp only [FMl, List.mem_cons, List.not_mem_nil, or_false] at hj ⊢; omega)).trans (g4.fm hF j hj)
      obtain ⟨r2, x4, x5⟩ := takenInM hB fm1 x2 (by rw [x3 0 (by decide)]; exact g4.2.2.2) (hA.swap ha hb) (n := n) (by omega) (by omega) (okE4 hB)
      obtain ⟨r3, x6, x7, x8⟩ := exchM h10 x5.2.2.1 ha hb
      rw [aSwap2] at x7
      obtain ⟨U, hU1, hU2, hU3⟩ := taken_B hB (e := M 3 4) (hA.swap ha hb) (show aT (aSwap A a (a + 1 + i)) = nI t0 from et0) (by omega) (n := n) (by omega)
      have eT : aT (aSwap A a (a + 1 + i)) = nI t0 := et0
      rw [hU3, eT, nI_sub hU1] at x4
      have m3 : MR M A 0 hm r3 := by
        refine ⟨((g4.1.tr (x3.sub (by decide))).tr x5.1).tr (x8.sub (by decide)), ((g4.2.1.tr (Fs.of x3 (by decide))).tr x5.2.1).tr (Fs.of x8 (by decide)), x7, by rw [x8 0 (by decide)]; exact x5.2.2.2⟩
      have q1 : ¬ nI (nC M) ≤ nI (a + 1 + i) := nI_ge (by omega) (by omega)
      have f3r : r 3 = M 3 := g4.fm hF 3 (by decide)
      have f3r1 : r1 3 = M 3 := fm1 3 (by decide)
      refine Or.inl ?_
      rcases p3 with ⟨c, p3⟩ | ⟨c, p3⟩
      · -- the same number twice: nothing changes
        have eU : U = T := by
          rw [aSwap_same c, aDaysE_4, hT3] at hU3
          exact ((nI_eq (by omega) (by omega)).mp hU3).symm
        subst eU
        have c1 : aT A ≤ nI (mm + t0) := by rw [et0]; exact nI_le (by omega) (by omega)
        have c2 : ¬ nI mm < nI (U - t0) := nI_nlt (by omega) (by omega)
        refine ⟨(z', nI (mm + t0), b, nI (a + 1 + i) + 1), (r3, nI mm, b, nI (a + 1 + i) + 1), ?_, ?_, nI_1 _, nI_1 _, g3.tr p2, m3, rfl, mm, g6, g7, rfl, rfl⟩
        · simp only [fX10_change_40, fX10_change_89, bnd_s, pw_s, rd_0, rd_1, rd_2, rd_3, rd_4, rd_5, rd_6, wr_0, wr_1, wr_2, wr_3, wr_4, wr_5, zb_0, zb_1, Nat.reduceLT, Nat.reducePow, rf_f hf (g3.c0 hf h0), f13 y g3, if_neg q1, p1, p3, if_pos c1]
        · simp only [fX11_change_52, fX11_change_113, bnd_s, pw_s, rd_0, rd_1, rd_2, rd_3, rd_4, rd_5, rd_6, wr_0, wr_1, wr_2, wr_3, wr_4, wr_5, zb_0, zb_1, Nat.reduceLT, Nat.reducePow, f3r, bC, if_neg q1, x1, f3r1, x4, x6, if_neg c2]
      · rw [aDaysE_4] at hU3
        rw [hU3] at p3
        by_cases c3 : U ≤ mm + t0
        · have c1 : nI U ≤ nI (mm + t0) := nI_le c3 (by omega)
          have c2 : ¬ nI mm < nI (U - t0) := nI_nlt (by omega) (by omega)
          refine ⟨(z', nI (mm + t0), b, nI (a + 1 + i) + 1), (r3, nI mm, b, nI (a + 1 + i) + 1), ?_, ?_, nI_1 _, nI_1 _, g3.tr p2, m3, rfl, mm, g6, g7, rfl, rfl⟩
          · simp only [fX10_change_40, fX10_change_89, bnd_s, pw_s, rd_0, rd_1, rd_2, rd_3, rd_4, rd_5, rd_6, wr_0, wr_1, wr_2, wr_3, wr_4, wr_5, zb_0, zb_1, Nat.reduceLT, Nat.reducePow, rf_f hf (g3.c0 hf h0), f13 y g3, if_neg q1, p1, p3, if_pos c1]
          · simp only [fX11_change_52, fX11_change_113, bnd_s, pw_s, rd_0, rd_1, rd_2, rd_3, rd_4, rd_5, rd_6, wr_0, wr_1, wr_2, wr_3, wr_4, wr_5, zb_0, zb_1, Nat.reduceLT, Nat.reducePow, f3r, bC, if_neg q1, x1, f3r1, x4, x6, if_neg c2]
        · have c1 : ¬ nI U ≤ nI (mm + t0) := nI_ge (by omega) (by omega)
          have c2 : nI mm < nI (U - t0) := nI_lt (by omega) (by omega)
          refine ⟨(z', nI U, 10 * nI a + nI (a + 1 + i), nI (a + 1 + i) + 1), (r3, nI (U - t0), 10 * nI a + nI (a + 1 + i), nI (a + 1 + i) + 1), ?_, ?_, nI_1 _, nI_1 _, g3.tr p2, m3, rfl, U - t0, by omega, by omega, by rw [show U - t0 + t0 = U by omega], rfl⟩
          · simp only [fX10_change_40, fX10_change_89, bnd_s, pw_s, rd_0, rd_1, rd_2, rd_3, rd_4, rd_5, rd_6, wr_0, wr_1, wr_2, wr_3, wr_4, wr_5, zb_0, zb_1, Nat.reduceLT, Nat.reducePow, rf_f hf (g3.c0 hf h0), f13 y g3, if_neg q1, p1, p3, if_neg c1]
          · simp only [fX11_change_52, fX11_change_113, bnd_s, pw_s, rd_0, rd_1, rd_2, rd_3, rd_4, rd_5, rd_6, wr_0, wr_1, wr_2, wr_3, wr_4, wr_5, zb_0, zb_1, Nat.reduceLT, Nat.reducePow, f3r, bC, if_neg q1, x1, f3r1, x4, x6, if_pos c2]) (by
      rintro ⟨y, m, b, k⟩ ⟨r, m', b', k'⟩ ⟨g1, g2, g3, g4, g5, g6⟩
      have ek : a + 1 + (nC M - (a + 1)) = nC M := by omega
      rw [ek] at g1 g2
      obtain rfl : k = nI (nC M) := g1
      obtain rfl : k' = nI (nC M) := g2
      dsimp only at g3 g4 g5 g6
      have f3r : r 3 = M 3 := g4.fm hF 3 (by decide)
      refine ⟨(y, m, b), (r, m', b'), ?_, ?_, g3, g4, g5, g6⟩
      · simp only [fX10_change_40, bnd_s, pw_s, rd_0, rd_1, rd_2, rd_3, rd_4, rd_5, rd_6, wr_0, wr_1, wr_2, wr_3, wr_4, wr_5, zb_0, zb_1, Nat.reduceLT, Nat.reducePow, rf_f hf (g3.c0 hf h0), f13 y g3, Int32.le_refl, if_true]
      · simp only [fX11_change_52, bnd_s, pw_s, rd_0, rd_1, rd_2, rd_3, rd_4, rd_5, rd_6, wr_0, wr_1, wr_2, wr_3, wr_4, wr_5, zb_0, zb_1, Nat.reduceLT, Nat.reducePow, f3r, bC, Int32.le_refl, if_true]) ⟨nI_1 a, nI_1 a, g3, g4, g5, g6⟩
    have q1 : ¬ nI (nC M) ≤ nI a := nI_ge ha (by omega)
    have f3r : r 3 = M 3 := g4.fm hF 3 (by decide)
    refine Or.inl ⟨(v.1, v.2.1, v.2.2, nI a + 1), (w.1, w.2.1, w.2.2, nI a + 1), ?_, ?_, nI_1 a, nI_1 a, v2, w2, vw.1, vw.2⟩
    · simp only [fX10_change_22, bnd_s, pw_s, rd_0, rd_1, rd_2, rd_3, rd_4, rd_5, rd_6, wr_0, wr_1, wr_2, wr_3, wr_4, wr_5, zb_0, zb_1, Nat.reduceLT, Nat.reducePow, rf_f hf (g3.c0 hf h0), f13 y g3, if_neg q1, v1]
    · simp only [fX11_change_35, bnd_s, pw_s, rd_0, rd_1, rd_2, rd_3, rd_4, rd_5, rd_6, wr_0, wr_1, wr_2, wr_3, wr_4, wr_5, zb_0, zb_1, Nat.reduceLT, Nat.reducePow, f3r, bC, if_neg q1, w1]) (by
    rintro ⟨y, m, b, k⟩ ⟨r, m', b', k'⟩ ⟨g1, g2, g3, g4, g5, g6⟩
    obtain rfl : k = nI (nC M) := g1
    obtain rfl : k' = nI (nC M) := g2
    dsimp only at g3 g4 g5 g6
    have f3r : r 3 = M 3 := g4.fm hF 3 (by decide)
    have f13 : y f 13 = nI (nC M) := ((g3.cf hf hCF).1.2.2.2.1).trans bC
    refine ⟨(y, b), (r, b'), ?_, ?_, g3, g4, g5⟩
    · simp only [fX10_change_22, bnd_s, pw_s, rd_0, rd_1, rd_2, rd_3, rd_4, rd_5, rd_6, wr_0, wr_1, wr_2, wr_3, wr_4, wr_5, zb_0, zb_1, Nat.reduceLT, Nat.reducePow, rf_f hf (g3.c0 hf h0), f13, Int32.le_refl, if_true]
    · simp only [fX11_change_35, bnd_s, pw_s, rd_0, rd_1, rd_2, rd_3, rd_4, rd_5, rd_6, wr_0, wr_1, wr_2, wr_3, wr_4, wr_5, zb_0, zb_1, Nat.reduceLT, Nat.reducePow, f3r, bC, Int32.le_refl, if_true]) ⟨rfl, rfl, z3, m1.tr r2, rfl, T - t0, Nat.le_refl _, by omega, by rw [show T - t0 + t0 = T by omega], rfl⟩
  have f3 : up2 hm 0 2 0 3 = M 3 := fm_up hF 2 0 3 (by decide)
  refine Or.inl ⟨v.2, v.1, w.1, ?_, ?_, w2.2.2.2, Inv.ro h h2 v2 w2⟩
  · simp only [fX10_change, bnd_s, pw_s, rd_0, rd_1, rd_2, rd_3, rd_4, rd_5, rd_6, wr_0, wr_1, wr_2, wr_3, wr_4, wr_5, zb_0, zb_1, Nat.reduceLT, Nat.reducePow, e3, sm, z1, ez, v1]
  · simp only [fX11_change, bnd_s, pw_s, rd_0, rd_1, rd_2, rd_3, rd_4, rd_5, rd_6, wr_0, wr_1, wr_2, wr_3, wr_4, wr_5, zb_0, zb_1, Nat.reduceLT, Nat.reducePow, e4, if_neg (show ¬ (1 : Int32) = 0 by decide), f3, r1, w1, vw]
