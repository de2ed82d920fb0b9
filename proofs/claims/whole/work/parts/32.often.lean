/-! ===== often, change ===== -/
theorem taken_up {M : ST} (hB : FB M) {K : Nat} {A : AS} (h : AB M K A) {w e : Int32} (hw : okW M w) {t : Nat} (ht : aT A = nI t) : ∃ t', t ≤ t' ∧ aT (aPass M A w e) = nI t' := by
  have hd : DB (nR M) (aWind M w (aSettle M (nR M) (aD A))) := (h.1.settle hB _ (Nat.le_refl _)).wind hB hw
  by_cases c : (aY A + 1) - (aY A + 1) / e * e = 0
  · rw [aPass_y c]
    obtain ⟨u, hu, eu⟩ := sumT_k (A := setD A (aWind M w (aSettle M (nR M) (aD A)))) hd (nR M) (Nat.le_refl _)
    exact ⟨t + u, by omega, by show aT A + sumT M _ (nR M) = _; rw [ht, eu, nI_add]⟩
  · rw [aPass_n c]
    exact ⟨t, Nat.le_refl _, ht⟩
theorem taken_E {M : ST} (hB : FB M) {e : Int32} {K : Nat} {A : AS} (h : AB M K A) {t : Nat} (ht : aT A = nI t) : ∀ n, K + n < 20000 → ∃ t', t ≤ t' ∧ aT (aDaysE M e n A) = nI t'
  | 0, _ => ⟨t, Nat.le_refl _, ht⟩
  | n + 1, hn => by
    obtain ⟨t', h1, h2⟩ := taken_E hB h ht n (by omega)
    have hAi := h.daysE (e := e) hB n (by omega)
    obtain ⟨q1, q2, y, t9, hy, ht9, ey, et⟩ := id hAi
    show ∃ t'', t ≤ t'' ∧ aT (aPass M (aDaysE M e n A) (aWindOf M (aDaysE M e n A) (aY (aDaysE M e n A))) e) = nI t''
    rw [ey]
    obtain ⟨t'', h3, h4⟩ := taken_up hB hAi (w := aWindOf M (aDaysE M e n A) (nI y)) (e := e) (hAi.okD hB (by omega)) h2
    exact ⟨t'', by omega, h4⟩
/-- .. with its bound -/
theorem taken_B {M : ST} (hB : FB M) {e : Int32} {K : Nat} {A : AS} (h : AB M K A) {t : Nat} (ht : aT A = nI t) (htb : t < 2 ^ 31) {n : Nat} (hn : K + n < 20000) : ∃ t', t ≤ t' ∧ t' ≤ 89991 * (K + n) ∧ aT (aDaysE M e n A) = nI t' := by
  obtain ⟨q1, q2, y, t9, hy, ht9, ey, et⟩ := h.daysE (e := e) hB n (by omega)
  -- the rise, day by day, stays small
  have key : ∀ j, j ≤ n → ∃ t', t ≤ t' ∧ t' ≤ t + 89991 * j ∧ aT (aDaysE M e j A) = nI t' := by
    intro j
    induction j with
    | zero => intro _; exact ⟨t, Nat.le_refl _, by omega, ht⟩
    | succ j ih =>
      intro hj
      obtain ⟨u, h1, h2, h3⟩ := ih (by omega)
      have hAi := h.daysE (e := e) hB j (by omega)
      obtain ⟨p1, p2, y1, t1, hy1, ht1, ey1, et1⟩ := id hAi
      show ∃ t'', t ≤ t'' ∧ t'' ≤ t + 89991 * (j + 1) ∧ aT (aPass M (aDaysE M e j A) (aWindOf M (aDaysE M e j A) (aY (aDaysE M e j A))) e) = nI t''
      rw [ey1]
      have hw := hAi.okD hB (show y1 < 2 ^ 31 by omega)
      have hd := ((hAi.1.settle hB _ (Nat.le_refl _)).wind hB hw)
      have h9 := hB.1.2.1
      by_cases c : (aY (aDaysE M e j A) + 1) - (aY (aDaysE M e j A) + 1) / e * e = 0
      · rw [aPass_y c]
        obtain ⟨s, hs, es⟩ := sumT_k (A := setD (aDaysE M e j A) (aWind M (aWindOf M (aDaysE M e j A) (nI y1)) (aSettle M (nR M) (aD (aDaysE M e j A))))) hd (nR M) (Nat.le_refl _)
        exact ⟨u + s, by omega, by omega, by show aT (aDaysE M e j A) + sumT M _ (nR M) = _; rw [h3, es, nI_add]⟩
      · rw [aPass_n c]
        exact ⟨u, h1, by omega, h3⟩
  obtain ⟨u, h1, h2, h3⟩ := key n (Nat.le_refl _)
  obtain ⟨-, -, y0, t0, hy0, ht0, -, et0⟩ := h
  have : t0 = t := by
    have h9 := et0.symm.trans ht
    rwa [nI_eq (by omega) htb] at h9
  exact ⟨u, h1, by omega, h3⟩
theorem copyT2 {f : Nat} (hf : f = 2 ∨ f = 20) {M : ST} {A : AS} {y : ST} (h9 : nR M ≤ 9) (h10 : nC M ≤ 10) (hC : CF f M y) (h0 : y 0 3 = nI f) (hR : RC 43 M A y) : ∃ h1, fX8_copy y 386 43 = some h1 ∧ RC 386 M A h1 ∧ KcE f y h1 ∧ CF f M h1 ∧ h1 0 3 = nI f := by
  obtain ⟨z, y1, y2, y3⟩ := copyR (o := 386) (o1 := 43) (by omega) h9 h10 hR
  have k0 : z 0 = y 0 := y3 0 (by decide)
  refine ⟨z, y1, y2, KcE.of y3 (fun i hi => ?_), hC.kept (fun j hj => y3 j ?_), by rw [k0]; exact h0⟩
  · simp only [List.mem_cons, List.not_mem_nil, or_false] at hi; omega
  · simp only [CFcells, List.mem_cons, List.not_mem_nil, or_false] at hj ⊢; omega
theorem KcE.rc {f : Nat} (hf : f = 2 ∨ f = 20) {M : ST} {A : AS} {y z : ST} (h : KcE f y z) (hR : RC 43 M A y) : RC 43 M A z := hR.kept (h _ (by omega) (by omega) (by omega)) (h _ (by omega) (by omega) (by omega)) (h _ (by omega) (by omega) (by omega)) (h _ (by omega) (by omega) (by omega))
theorem KcE.c0 {f : Nat} (hf : f = 2 ∨ f = 20) {y z : ST} (h : KcE f y z) (h0 : y 0 3 = nI f) : z 0 3 = nI f := by rw [h 0 (by omega) (by omega) (by omega)]; exact h0
theorem KcE.cf {f : Nat} (hf : f = 2 ∨ f = 20) {M y z : ST} (h : KcE f y z) (hC : CF f M y) : CF f M z := hC.kept (fun i hi => by
  simp only [CFcells, List.mem_cons, List.not_mem_nil, or_false] at hi
  exact h i (by omega) (by omega) (by omega))
theorem daysEC {f : Nat} (hf : f = 2 ∨ f = 20) {M : ST} (hB : FB M) {B : AS} {y : ST} (hC : CF f M y) (h0 : y 0 3 = nI f) (hR : RC 386 M B y) {K : Nat} (hA : AB M K B) {n : Nat} (hK : K + n < 2000000) (hn : n < 100000) {e : Int32} (he : okE e) (p q : Int32) : ∃ z, lp FU (fX10_often_35 (nI n) p q e) (y, 0) = some z ∧ RC 386 M (aDaysE M e n B) z ∧ KcE f y z := by
  obtain ⟨z, h1, h2, h3⟩ := lp_cnt (b := fX10_often_35 (nI n) p q e) (s := (y, 0)) (Q := fun z => RC 386 M (aDaysE M e n B) z ∧ KcE f y z) (fun i q => q.2 = nI i ∧ RC 386 M (aDaysE M e i B) q.1 ∧ KcE f y q.1) n (by omega) (by
    rintro i ⟨z, k⟩ hi ⟨e1, e2, e3⟩
    obtain rfl : k = nI i := e1
    dsimp only at e2 e3
    have hAi := hA.daysE (e := e) hB i (by omega)
    obtain ⟨q1, q2, yy, t, hy, ht, ey, et⟩ := id hAi
    have ey' : z 386 0 = nI yy := e2.1.1.trans ey
    have hw := hAi.okD hB (show yy < 2 ^ 31 by omega)
    have hCz := e3.cf hf hC
    have h0z := e3.c0 hf h0
    obtain ⟨u, u1, u2, u3⟩ := passC hf (Or.inr rfl) hB hCz e2 hw he
    refine Or.inl ⟨(u, nI i + 1), ?_, nI_1 i, ?_, e3.tr (KcE.of u3 (fun i hi => ?_))⟩
    · simp only [fX10_often_35, bnd_s, pw_s, rd_0, rd_1, rd_2, rd_3, rd_4, rd_5, rd_6, wr_0, wr_1, wr_2, wr_3, wr_4, wr_5, zb_0, zb_1, Nat.reduceLT, Nat.reducePow, if_neg (nI_ge hi (show n < 2 ^ 31 by omega)), rf_f hf h0z, ey', f_windC hB hCz e2 (show yy < 2 ^ 31 by omega), u1]
    · show RC 386 M (aPass M _ _ _) u
      rw [ey]; exact u2
    · simp only [List.mem_cons, List.not_mem_nil, or_false] at hi; omega) (by
    rintro ⟨z, k⟩ ⟨e1, e2, e3⟩
    obtain rfl : k = nI n := e1
    exact ⟨z, by simp only [fX10_often_35, Int32.le_refl, if_true], e2, e3⟩) ⟨rfl, hR, fun _ _ _ _ => rfl⟩
  exact ⟨z, h1, h2, h3⟩
theorem t_often {hc hm : ST} (hI : Inv hc hm) (a1 : Int32) : ∃ y, s_often hc hm a1 = some y ∧ Inv y.1 y.2 := by
  obtain ⟨f, M, A, h, h2⟩ := hI
  obtain ⟨hf, h0, hB, hF, hCF, hR, hR1, hA⟩ := id h
  have h9 := hB.1.2.1
  unfold s_often fL_often
  apply s_ok
  rcases ahead_c hc a1 with ⟨n, hn, rfl, e3, e4⟩ | ⟨e3, e4⟩
  rotate_left
  · obtain ⟨q1, q2⟩ := failM hR1 1
    refine Or.inr ⟨2, 1, 0, hc, _, ?_, rfl, by decide, ?_, q2.2.2.2, Inv.ro h h2 (fun _ _ _ _ => rfl) q2⟩
    · simp only [fX10_often, bnd_s, pw_s, rd_0, rd_1, rd_2, rd_3, rd_4, rd_5, rd_6, wr_0, wr_1, wr_2, wr_3, wr_4, wr_5, zb_0, zb_1, Nat.reduceLT, Nat.reducePow, e3, sm]
    · simp only [fX11_often, bnd_s, pw_s, rd_0, rd_1, rd_2, rd_3, rd_4, rd_5, rd_6, wr_0, wr_1, wr_2, wr_3, wr_4, wr_5, zb_0, zb_1, Nat.reduceLT, Nat.reducePow, e4, q1, if_true]
  obtain ⟨-, -, y0, t0, hy0, ht0, ey0, et0⟩ := id hA
  have m1 := codeM (M := M) hR1
  obtain ⟨v, w, v1, w1, vw, v2, w2⟩ := lp2_cnt (b1 := fX10_often_11 (nI n)) (b2 := fX11_often_25 (nI n)) (s := (hc, 1, -1, 1)) (t := (up2 hm 0 2 0, 0, -1, 1)) (Q := fun v w => v.2 = w.2 ∧ KcE f hc v.1 ∧ MR M A 0 hm w.1) (fun i s t => s.2.2.2 = nI (i + 1) ∧ t.2.2.2 = nI (i + 1) ∧ KcE f hc s.1 ∧ MR M A 0 hm t.1 ∧ ((i = 0 ∧ s.2.2.1 = -1 ∧ t.2.2.1 = -1) ∨ (0 < i ∧ s.2.1 = t.2.1 ∧ ∃ m, m ≤ 200000000 ∧ s.2.2.1 = nI (m + t0) ∧ t.2.2.1 = nI m))) 30 (by decide) (by
    rintro i ⟨y, b, m, k⟩ ⟨r, b', m', k'⟩ hi ⟨g1, g2, g3, g4, g5⟩
    obtain rfl : k = nI (i + 1) := g1
    obtain rfl : k' = nI (i + 1) := g2
    dsimp only at g3 g4 g5
    have he : okE (nI (i + 1)) := ⟨i + 1, by omega, by omega, rfl⟩
    obtain ⟨z, z1, z2, z3, z4, z5⟩ := copyT2 hf h9 hB.1.2.2.2.2.2.2.2 (g3.cf hf hCF) (g3.c0 hf h0) (g3.rc hf hR)
    obtain ⟨u, u1, u2, u3⟩ := daysEC hf hB z4 z5 z2 hA (n := n) (by omega) (by omega) he b m
    obtain ⟨r', r1, r2⟩ := takenInM hB (g4.fm hF) g4.2.2.1 g4.2.2.2 hA (n := n) (by omega) (by omega) he
    obtain ⟨te, ht1, ht2, ht3⟩ := taken_B hB (e := nI (i + 1)) hA et0 (by omega) (n := n) (by omega)
    rw [ht3, et0, nI_sub ht1] at r1
    have eu : u 386 1 = nI te := u2.1.2.1.trans ht3
    have q1 : ¬ (30 : Int32) < nI (i + 1) := nI_nlt (a := 30) (by omega) (by decide)
    refine Or.inl ?_
    rcases g5 with ⟨rfl, rfl, rfl⟩ | ⟨g5, rfl, mm, g6, rfl, rfl⟩
    · have c1 : ¬ nI te ≤ -1 := fun q => nI_pos (n := te) (by omega) (Int32.lt_of_le_of_lt q (by decide))
      have c2 : (-1 : Int32) < nI (te - t0) := Int32.lt_of_lt_of_le (by decide : (-1 : Int32) < 0) (nI_pos' (by omega))
      refine ⟨(u, nI 1, nI te, nI 1 + 1), (r', nI 1, nI (te - t0), nI 1 + 1), ?_, ?_, nI_1 1, nI_1 1, (g3.tr z3).tr u3, g4.tr r2, Or.inr ⟨by omega, rfl, te - t0, by omega, by rw [show te - t0 + t0 = te by omega], rfl⟩⟩
      · simp only [fX10_often_11, fX10_often_100, bnd_s, pw_s, rd_0, rd_1, rd_2, rd_3, rd_4, rd_5, rd_6, wr_0, wr_1, wr_2, wr_3, wr_4, wr_5, zb_0, zb_1, Nat.reduceLT, Nat.reducePow, if_neg q1, z1, u1, eu, if_neg c1, Nat.zero_add]
      · simp only [fX11_often_25, fX11_often_56, bnd_s, pw_s, rd_0, rd_1, rd_2, rd_3, rd_4, rd_5, rd_6, wr_0, wr_1, wr_2, wr_3, wr_4, wr_5, zb_0, zb_1, Nat.reduceLT, Nat.reducePow, if_neg q1, r1, if_pos c2, Nat.zero_add]
    · by_cases c : te ≤ mm + t0
      · have c1 : nI te ≤ nI (mm + t0) := nI_le c (by omega)
        have c2 : ¬ nI mm < nI (te - t0) := nI_nlt (by omega) (by omega)
        refine ⟨(u, b, nI (mm + t0), nI (i + 1) + 1), (r', b, nI mm, nI (i + 1) + 1), ?_, ?_, nI_1 _, nI_1 _, (g3.tr z3).tr u3, g4.tr r2, Or.inr ⟨by omega, rfl, mm, g6, rfl, rfl⟩⟩
        · simp only [fX10_often_11, fX10_often_100, bnd_s, pw_s, rd_0, rd_1, rd_2, rd_3, rd_4, rd_5, rd_6, wr_0, wr_1, wr_2, wr_3, wr_4, wr_5, zb_0, zb_1, Nat.reduceLT, Nat.reducePow, if_neg q1, z1, u1, eu, if_pos c1]
        · simp only [fX11_often_25, fX11_often_56, bnd_s, pw_s, rd_0, rd_1, rd_2, rd_3, rd_4, rd_5, rd_6, wr_0, wr_1, wr_2, wr_3, wr_4, wr_5, zb_0, zb_1, Nat.reduceLT, Nat.reducePow, if_neg q1, r1, if_neg c2]
      · have c1 : ¬ nI te ≤ nI (mm + t0) := nI_ge (by omega) (by omega)
        have c2 : nI mm < nI (te - t0) := nI_lt (by omega) (by omega)
        refine ⟨(u, nI (i + 1), nI te, nI (i + 1) + 1), (r', nI (i + 1), nI (te - t0), nI (i + 1) + 1), ?_, ?_, nI_1 _, nI_1 _, (g3.tr z3).tr u3, g4.tr r2, Or.inr ⟨by omega, rfl, te - t0, by omega, by rw [show te - t0 + t0 = te by omega], rfl⟩⟩
        · simp only [fX10_often_11, fX10_often_100, bnd_s, pw_s, rd_0, rd_1, rd_2, rd_3, rd_4, rd_5, rd_6, wr_0, wr_1, wr_2, wr_3, wr_4, wr_5, zb_0, zb_1, Nat.reduceLT, Nat.reducePow, if_neg q1, z1, u1, eu, if_neg c1]
        · simp only [fX11_often_25, fX11_often_56, bnd_s, pw_s, rd_0, rd_1, rd_2, rd_3, rd_4, rd_5, rd_6, wr_0, wr_1, wr_2, wr_3, wr_4, wr_5, zb_0, zb_1, Nat.reduceLT, Nat.reducePow, if_neg q1, r1, if_pos c2]) (by
    rintro ⟨y, b, m, k⟩ ⟨r, b', m', k'⟩ ⟨g1, g2, g3, g4, g5⟩
    obtain rfl : k = nI 31 := g1
    obtain rfl : k' = nI 31 := g2
    dsimp only at g3 g4 g5
    rcases g5 with ⟨q, -, -⟩ | ⟨-, rfl, -⟩
    · omega
    · refine ⟨(y, b), (r, b), ?_, ?_, rfl, g3, g4⟩
      · simp only [fX10_often_11]; rw [if_pos (by decide)]
      · simp only [fX11_often_25]; rw [if_pos (by decide)]) ⟨rfl, rfl, fun _ _ _ _ => rfl, m1, Or.inl ⟨rfl, rfl, rfl⟩⟩
  refine Or.inl ⟨v.2, v.1, w.1, ?_, ?_, w2.2.2.2, Inv.ro h h2 v2 w2⟩
  · simp only [fX10_often, bnd_s, pw_s, rd_0, rd_1, rd_2, rd_3, rd_4, rd_5, rd_6, wr_0, wr_1, wr_2, wr_3, wr_4, wr_5, zb_0, zb_1, Nat.reduceLT, Nat.reducePow, e3, sm, v1]
  · simp only [fX11_often, bnd_s, pw_s, rd_0, rd_1, rd_2, rd_3, rd_4, rd_5, rd_6, wr_0, wr_1, wr_2, wr_3, wr_4, wr_5, zb_0, zb_1, Nat.reduceLT, Nat.reducePow, e4, if_neg (show ¬ (1 : Int32) = 0 by decide), w1, vw]
/-! two numbers of the calendar change places -/
def aSwap (A : AS) (a b : Nat) : AS := (aD A, aB A, upd (upd (aC A) a (aC A b)) b (aC A a), aY A, aT A, aS A)
theorem aSwap_same {A : AS} {a b : Nat} (h : aC A a = aC A b) : aSwap A a b = A := by
  unfold aSwap
  have : upd (upd (aC A) a (aC A b)) b (aC A a) = aC A := by
    funext j
    by_cases c1 : j = b
    · subst c1; rw [upd_s, h]
    · rw [upd_n c1]
      by_cases c2 : j = a
      · subst c2; rw [upd_s, h]
      · rw [upd_n c2]
  rw [this]
theorem AB.swap {M : ST} {K : Nat} {A : AS} (h : AB M K A) {a b : Nat} (ha : a < nC M) (hb : b < nC M) : AB M K (aSwap A a b) := by
  refine ⟨h.1, fun i hi => ?_, h.2.2⟩
  show okW M (upd (upd (aC A) a (aC A b)) b (aC A a) i)
  by_cases c1 : i = b
  · subst c1; rw [upd_s]; exact h.2.1 a ha
  · rw [upd_n c1]
    by_cases c2 : i = a
    · subst c2; rw [upd_s]; exact h.2.1 b hb
    · rw [upd_n c2]; exact h.2.1 i hi
theorem exchM {M : ST} {A : AS} {r : ST} (h10 : nC M ≤ 10) (hR : RM1 M A r) {a b : Nat} (ha : a < nC M) (hb : b < nC M) : ∃ r', fX11_exchange r (nI a) (nI b) = some r' ∧ RM1 M (aSwap A a b) r' ∧ Fr [21] r r' := by
  refine ⟨up2 (up2 r 21 a (aC A b)) 21 b (aC A a), ?_, ⟨?_, ?_, ?_⟩, (Fr.rf.up (by decide)).up (by decide)⟩
  · simp only [fX11_exchange, bnd_s, pw_s, rd_0, rd_1, rd_2, rd_3, rd_4, rd_5, rd_6, wr_0, wr_1, wr_2, wr_3, wr_4, wr_5, zb_0, zb_1, Nat.reduceLT, Nat.reducePow, rd_k (n := 10) (show a < 10 by omega), rd_k (n := 10) (show b < 10 by omega), wr_k (n := 10) (show a < 10 by omega), wr_k (n := 10) (show b < 10 by omega), hR.2.2 a ha, hR.2.2 b hb]
  · rw [up2_n (by decide), up2_n (by decide)]; exact hR.1
  · rw [up2_n (by decide), up2_n (by decide), up2_n (by decide), up2_n (by decide)]; exact hR.2.1
  · intro i hi
    rw [up2_s, up2_s]
    show _ = upd (upd (aC A) a (aC A b)) b (aC A a) i
    by_cases c1 : i = b
    · subst c1; rw [upd_s, upd_s]
    · rw [upd_n c1, upd_n c1]
      by_cases c2 : i = a
      · subst c2; rw [upd_s, upd_s]
      · rw [upd_n c2, upd_n c2]; exact hR.2.2 i hi
theorem aSwap2 {A : AS} {a b : Nat} : aSwap (aSwap A a b) a b = A := by
  obtain ⟨D, B, C, y, t, s⟩ := A
  unfold aSwap
  have : upd (upd (upd (upd C a (C b)) b (C a)) a (upd (upd C a (C b)) b (C a) b)) b (upd (upd C a (C b)) b (C a) a) = C := by
    funext j
    by_cases c1 : j = b
    · subst c1
      rw [upd_s]
      by_cases c2 : a = j
      · subst c2; rw [upd_s]
      · rw [upd_n c2, upd_s]
    · rw [upd_n c1]
      by_cases c2 : j = a
      · subst c2; rw [upd_s, upd_s]
      · rw [upd_n c2, upd_n c1, upd_n c2]
  show (D, B, _, y, t, s) = _
  rw [this]
