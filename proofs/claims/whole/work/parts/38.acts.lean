/-! ===== days, sweep, shake, sneeze, plan, undo ===== -/
theorem n_ok {X Y : Option (Int32 × ST)} {hc : ST} (h : ∃ v h1 hm1, X = some (v, h1) ∧ Y = some (v, hm1) ∧ Inv h1 hm1) :
    ∃ y : ST × ST, (bnd X fun r => bnd Y fun q => if r.1 = q.1 then some (mg hc r.2, q.2) else none) = some y ∧ Inv y.1 y.2 := by
  obtain ⟨v, h1, hm1, rfl, rfl, hI⟩ := h
  refine ⟨(mg hc h1, hm1), ?_, hI.hi (fun i hi => ?_)⟩
  · simp only [bnd_s, if_true]
  · dsimp only [mg]
    rw [if_pos (by omega)]
theorem n_ok0 {X Y : Option ST} {hc : ST} (h : ∃ h1 hm1, X = some h1 ∧ Y = some hm1 ∧ Inv h1 hm1) :
    ∃ y : ST × ST, (bnd X fun r => bnd Y fun q => some (mg hc r, q)) = some y ∧ Inv y.1 y.2 := by
  obtain ⟨h1, hm1, rfl, rfl, hI⟩ := h
  refine ⟨(mg hc h1, hm1), ?_, hI.hi (fun i hi => ?_)⟩
  · simp only [bnd_s]
  · dsimp only [mg]
    rw [if_pos (by omega)]
/-- both remember, at the reference's cleared code -/
def Rem (M : ST) (A : AS) (hc hm hc1 hm1 : ST) : Prop := RC 43 M A hc1 ∧ RM1 M A hm1 ∧ ActsR 42 M hc1 (hm1 0 36) (hm1 22) ∧ (∀ i, i < 47 ∨ 209 ≤ i → hc1 i = hc i) ∧ Fr [0, 22] hm hm1 ∧ Fs 0 [2, 36] hm hm1 ∧ hm1 0 2 = 0
theorem remB {f : Nat} {M : ST} {A : AS} {hc hm : ST} (h : J f M A hc hm) (h2 : J2 f M hc hm) : ∃ hc1 hm1, fX0_remember hc 47 43 = some hc1 ∧ fX11_keep (up2 hm 0 2 0) = some hm1 ∧ Rem M A hc hm hc1 hm1 := by
  obtain ⟨hf, h0, hB, hF, hCF, hR, hR1, hA⟩ := id h
  have m1 := codeM (M := M) hR1
  have h7 : ActsR 42 M hc (up2 hm 0 2 0 0 36) (up2 hm 0 2 0 22) := by
    rw [up2_sn (by decide), up2_n (by decide)]
    exact h2.2.2.2.2.2.2.1
  obtain ⟨y, z, p1, p2, p3, p4, p5, p6, p7, p8⟩ := remC hB.1.2.1 hB.1.2.2.2.2.2.2.2 hR m1.2.2.1 hA h7
  refine ⟨y, z, p1, p2, p3, p4, p5, p6, (Fr.rf.up (by decide)).tr p7, (Fs.rf.up (by decide)).tr (p8.sub (by decide)), ?_⟩
  rw [p8 2 (by decide)]; exact up2_ss _ _ _ _
theorem Rem.cf {f : Nat} {M : ST} {A : AS} {hc hm hc1 hm1 : ST} (h : J f M A hc hm) (r : Rem M A hc hm hc1 hm1) : CF f M hc1 ∧ FM M hm1 ∧ hc1 0 = hc 0 := by
  have hf := h.1
  refine ⟨h.2.2.2.2.1.kept (fun i hi => r.2.2.2.1 i ?_), fun i hi => (r.2.2.2.2.1 i ?_).trans (h.2.2.2.1 i hi), r.2.2.2.1 0 (by omega)⟩
  · simp only [CFcells, List.mem_cons, List.not_mem_nil, or_false] at hi; omega
  · simp only [FMl, List.mem_cons, List.not_mem_nil, or_false] at hi ⊢; omega
theorem Inv.act {f : Nat} {M : ST} {A A' : AS} {hc hm hc1 hm1 hc2 hm2 : ST} (h : J f M A hc hm) (h2 : J2 f M hc hm) (r : Rem M A hc hm hc1 hm1)
    (q1 : ∀ i, i ≠ f + 13 → i ≠ f + 15 → i < 43 ∨ 47 ≤ i → hc2 i = hc1 i) (q2 : Fr Km hm1 hm2) (q3 : Fs 0 KmS hm1 hm2) (hR : RC 43 M A' hc2) (hR1 : RM1 M A' hm2) (hA : AB M 999 A') : Inv hc2 hm2 := by
  have hf := h.1
  obtain ⟨r1, r2, r3, r4, r5, r6, r7⟩ := r
  have e : ∀ i, i ≠ f + 13 → i ≠ f + 15 → i < 43 ∨ 209 ≤ i → hc2 i = hc i := fun i a b c => (q1 i a b (by omega)).trans (r4 i (by omega))
  have g : Fr KmW hm hm2 := (r5.sub (by decide)).tr (q2.sub (by decide))
  have gs : Fs 0 KsW hm hm2 := (r6.sub (by decide)).tr (q3.sub (by decide))
  have g22 : hm2 22 = hm1 22 := q2 22 (by decide)
  have g36 : hm2 0 36 = hm1 0 36 := q3 36 (by decide)
  have g37 : hm2 0 37 = hm 0 37 := (q3 37 (by decide)).trans (r6 37 (by decide))
  have gc : ∀ i, i ∉ 22 :: Km → hm2 i = hm i := fun i hi => by
    simp only [Km, List.mem_cons, List.not_mem_nil, or_false] at hi
    exact (q2 i (by simp only [Km, List.mem_cons, List.not_mem_nil, or_false]; omega)).trans (r5 i (by simp only [List.mem_cons, List.not_mem_nil, or_false]; omega))
  obtain ⟨k1, k2, k3, k4, k5, k6, k7, k8, k9⟩ := id h2
  refine Inv.wr h h2 (fun i _ a b c => e i a b (by omega)) g gs hR hR1 hA (fun k hk => ?_) ?_ ?_
  · rw [e 213 (by omega) (by omega) (by omega), gc 17 (by decide)]; exact k5 k hk
  · rw [g37, gc 33 (by decide), gc 34 (by decide), gc 35 (by decide)]
    exact k6.kept2 (fun i a b => e i (by omega) (by omega) (by omega))
  · rw [g36, g22]
    exact r3.kept2 (fun i a b => q1 i (by omega) (by omega) (by omega))
theorem AB.at {M : ST} {K : Nat} {A : AS} (h : AB M K A) : ∃ y, y ≤ K ∧ aY A = nI y ∧ AB M y A := by
  obtain ⟨h1, h2, y, t, h3, h4, h5, h6⟩ := h
  exact ⟨y, h3, h5, h1, h2, y, t, Nat.le_refl _, h4, h5, h6⟩
theorem AB.mono {M : ST} {K L : Nat} {A : AS} (h : AB M K A) (hl : K ≤ L) : AB M L A := by
  obtain ⟨h1, h2, y, t, h3, h4, h5, h6⟩ := h
  exact ⟨h1, h2, y, t, by omega, h4, h5, h6⟩
theorem t_days {hc hm : ST} (hI : Inv hc hm) (a1 : Int32) : ∃ y, s_days hc hm a1 = some y ∧ Inv y.1 y.2 := by
  obtain ⟨f, M, A, h, h2⟩ := hI
  obtain ⟨hf, h0, hB, hF, hCF, hR, hR1, hA⟩ := id h
  have m1 := codeM (M := M) hR1
  have n1 : ¬ (1 : Int32) = 0 := by decide
  unfold s_days
  apply n_ok
  obtain ⟨y, hy, ey, hAy⟩ := hA.at
  have rm := refM (hm := up2 hm 0 2 0) (k := 1) (by decide)
  have rc := refC (hc := hc) (k := 1) (by decide)
  rcases in_c 1 30 (by decide) (by decide) a1 with ⟨n, hn1, hn, rfl, e⟩ | ⟨c, e⟩
  · have e : fX11_isIn (up2 hm 0 2 0) (nI n).toInt64 (1 : Int64) (30 : Int64) = some 1 := e _
    have q1 : ¬ nI n < 1 := nI_nlt (b := 1) hn1 (by omega)
    have q2 : ¬ 30 < nI n := nI_nlt (a := 30) hn (by decide)
    have hy1 : hc 43 0 = nI y := hR.1.1.trans ey
    have hy2 : up2 hm 0 2 0 0 33 = nI y := m1.2.2.1.1.1.trans ey
    by_cases c : y + n ≤ 999
    · obtain ⟨hc1, hm1, p1, p2, p3⟩ := remB h h2
      obtain ⟨g1, g2, g3⟩ := p3.cf h
      obtain ⟨u, u1, u2, u3⟩ := manyC hf (Or.inl rfl) hB g1 hAy p3.1 (n := n) (by omega) (by omega)
      obtain ⟨v, v1, v2, v3, v4⟩ := goOnM hB g2 hAy p3.2.1 (n := n) (by omega) (by omega)
      have le : nI (y + n) ≤ 999 := nI_le (b := 999) c (by decide)
      have rff : rf KC 395 1 (hc1 0 3) = some f := rf_f hf (by rw [g3]; exact h0)
      refine ⟨aY (aDays M n A), u, v, ?_, ?_, ?_⟩
      · simp only [fX10_days, if_neg q1, if_neg q2, hy1, nI_add, if_pos le, p1, bnd_s, pw_s, rd_0, rd_1, rd_2, rd_3, rd_4, rd_5, rd_6, wr_0, wr_1, wr_2, wr_3, wr_4, wr_5, zb_0, zb_1, Nat.reduceLT, Nat.reducePow, rff, u1, u2.1.1]
      · simp only [fX11_days, bnd_s, pw_s, rd_0, rd_1, rd_2, rd_3, rd_4, rd_5, rd_6, wr_0, wr_1, wr_2, wr_3, wr_4, wr_5, zb_0, zb_1, Nat.reduceLT, Nat.reducePow, e, if_neg n1, hy2, nI_add, if_pos le, p2, v1, v2.1.1]
      · exact Inv.act h h2 p3 (fun i a b c => u3 i (by simp only [List.mem_cons, List.not_mem_nil, or_false]; omega)) (v3.sub (by decide)) (v4.sub (by decide)) u2 v2 ((hAy.days hB n (by omega)).mono c)
    · have le : ¬ nI (y + n) ≤ 999 := nI_ge (a := 999) (b := y + n) (by omega) (by omega)
      refine ⟨-1, _, _, ?_, ?_, Inv.ref h h2 (k := 1) (by decide)⟩
      · simp only [fX10_days, fX10_days_29, if_neg q1, if_neg q2, hy1, nI_add, if_neg le]
        rw [show fX10_refuse hc 1 = _ from rc]; rfl
      · simp only [fX11_days, fX11_days_29, bnd_s, pw_s, rd_0, rd_1, rd_2, rd_3, rd_4, rd_5, rd_6, wr_0, wr_1, wr_2, wr_3, wr_4, wr_5, zb_0, zb_1, Nat.reduceLT, Nat.reducePow, e, if_neg n1, hy2, nI_add, if_neg le]
        rw [show fX11_refuse (up2 hm 0 2 0) 1 = _ from rm]; rfl
  · have e : fX11_isIn (up2 hm 0 2 0) a1.toInt64 (1 : Int64) (30 : Int64) = some 0 := e _
    refine ⟨-1, _, _, ?_, ?_, Inv.ref h h2 (k := 1) (by decide)⟩
    · have r1 : fX10_days_29 hc = some (-1, up2 hc 213 1 (hc 213 1 + 1)) := by
        unfold fX10_days_29; rw [show fX10_refuse hc 1 = _ from rc]; rfl
      unfold fX10_days
      by_cases c1 : a1 < 1
      · rw [if_pos c1]; exact r1
      · rw [if_neg c1, if_pos (show 30 < a1 from Int32.not_le.mp (fun q => c ⟨Int32.not_lt.mp c1, q⟩))]; exact r1
    · simp only [fX11_days, fX11_days_29, bnd_s, pw_s, rd_0, rd_1, rd_2, rd_3, rd_4, rd_5, rd_6, wr_0, wr_1, wr_2, wr_3, wr_4, wr_5, zb_0, zb_1, Nat.reduceLT, Nat.reducePow, e, if_true]
      rw [show fX11_refuse (up2 hm 0 2 0) 1 = _ from rm]; rfl
/-! what is brought from a to b -/
def aBring (A : AS) (a b : Nat) (v : Int32) : AS := (layD (upd (aD A) a (aD A a - v)) b v, upd (aB A) b (aB A b + v), aC A, aY A, aT A, aS A)
theorem AB.bring {M : ST} {K : Nat} {A : AS} (h : AB M K A) {a b v : Nat} (ha : a < nR M) (hb : b < nR M) (hv : nI v ≤ aD A a) (hv2 : v ≤ 9999) : AB M K (aBring A a b (nI v)) := by
  obtain ⟨x, hx, ex⟩ := h.1 a ha
  rw [ex, nI_leI (by omega) (by omega)] at hv
  refine ⟨?_, h.2⟩
  show DB (nR M) (layD (upd (aD A) a (aD A a - nI v)) b (nI v))
  rw [ex, nI_sub hv]
  exact (h.1.up1 (r := a) (v := x - v) (by omega)).lay hb (by omega)
theorem bringC {M : ST} {A : AS} {y : ST} (h9 : nR M ≤ 9) (hR : RC 43 M A y) {a b : Nat} (ha : a < nR M) (hb : b < nR M) (v : Int32) : ∃ z, fX8_bring y 43 (nI a) (nI b) v = some z ∧ RC 43 M (aBring A a b v) z ∧ Fr [44, 45] y z := by
  have H1 : y 44 a = aD A a := (hR.2.1 a ha).1
  have e1 : up2 y 44 a (aD A a - v) 44 = upd (y 44) a (aD A a - v) := up2_s _ _ _ _
  refine ⟨up2 (up2 (up2 y 44 a (aD A a - v)) 44 b (cap (up2 y 44 a (aD A a - v) 44 b + v))) 45 b (y 45 b + v), ?_, ?_, ?_⟩
  · have g : up2 (up2 y 44 a (aD A a - v)) 44 b (cap (up2 y 44 a (aD A a - v) 44 b + v)) 45 = y 45 := by rw [up2_n (by decide), up2_n (by decide)]
    simp only [fX8_bring, bnd_s, pw_s, rd_0, rd_1, rd_2, rd_3, rd_4, rd_5, rd_6, wr_0, wr_1, wr_2, wr_3, wr_4, wr_5, zb_0, zb_1, Nat.reduceLT, Nat.reducePow, rd_k (n := 9) (show a < 9 by omega), H1, wr_k (n := 9) (show a < 9 by omega), f_lay (show b < 9 by omega), rd_k (n := 9) (show b < 9 by omega), Nat.reduceAdd, g, wr_k (n := 9) (show b < 9 by omega)]
  · refine ⟨?_, fun r hr => ?_, ?_⟩
    · rw [up2_n (by decide), up2_n (by decide), up2_n (by decide)]; exact hR.1
    · have g1 : y 44 r = aD A r := (hR.2.1 r hr).1
      have g2 : y 45 r = aB A r := (hR.2.1 r hr).2
      have g3 : y 45 b = aB A b := (hR.2.1 b hb).2
      constructor
      · show up2 (up2 (up2 y 44 a (aD A a - v)) 44 b (cap (up2 y 44 a (aD A a - v) 44 b + v))) 45 b (y 45 b + v) 44 r = upd (upd (aD A) a (aD A a - v)) b (cap (upd (aD A) a (aD A a - v) b + v)) r
        have k : ∀ q, q < nR M → upd (y 44) a (aD A a - v) q = upd (aD A) a (aD A a - v) q := fun q hq => by
          by_cases c : q = a
          · rw [c, upd_s, upd_s]
          · rw [upd_n c, upd_n c]; exact (hR.2.1 q hq).1
        rw [up2_n (by decide), up2_s, e1, k b hb]
        by_cases c : r = b
        · rw [c, upd_s, upd_s]
        · rw [upd_n c, upd_n c]; exact k r hr
      · show up2 (up2 (up2 y 44 a (aD A a - v)) 44 b (cap (up2 y 44 a (aD A a - v) 44 b + v))) 45 b (y 45 b + v) 45 r = upd (aB A) b (aB A b + v) r
        rw [up2_s, up2_n (by decide), up2_n (by decide), g3]
        by_cases c : r = b
        · rw [c, upd_s, upd_s]
        · rw [upd_n c, upd_n c]; exact g2
    · rw [up2_n (by decide), up2_n (by decide), up2_n (by decide)]; exact hR.2.2
  · exact ((Fr.rf.up (by decide)).up (by decide)).up (by decide)
theorem bringM {M : ST} {A : AS} {y : ST} (h9 : nR M ≤ 9) (hR : RM1 M A y) {a b : Nat} (ha : a < nR M) (hb : b < nR M) (v : Int32) : ∃ z, fX11_bring y (nI a) (nI b) v = some z ∧ RM1 M (aBring A a b v) z ∧ Fr [19, 20] y z := by
  have H1 : y 19 a = aD A a := (hR.2.1 a ha).1
  have e1 : up2 y 19 a (aD A a - v) 19 = upd (y 19) a (aD A a - v) := up2_s _ _ _ _
  refine ⟨up2 (up2 (up2 y 19 a (aD A a - v)) 19 b (cap (up2 y 19 a (aD A a - v) 19 b + v))) 20 b (y 20 b + v), ?_, ?_, ?_⟩
  · have g : up2 (up2 y 19 a (aD A a - v)) 19 b (cap (up2 y 19 a (aD A a - v) 19 b + v)) 20 = y 20 := by rw [up2_n (by decide), up2_n (by decide)]
    simp only [fX11_bring, bnd_s, pw_s, rd_0, rd_1, rd_2, rd_3, rd_4, rd_5, rd_6, wr_0, wr_1, wr_2, wr_3, wr_4, wr_5, zb_0, zb_1, Nat.reduceLT, Nat.reducePow, rd_k (n := 9) (show a < 9 by omega), H1, wr_k (n := 9) (show a < 9 by omega), f_lays (show b < 9 by omega), rd_k (n := 9) (show b < 9 by omega), g, wr_k (n := 9) (show b < 9 by omega)]
  · refine ⟨?_, fun r hr => ?_, ?_⟩
    · rw [up2_n (by decide), up2_n (by decide), up2_n (by decide)]; exact hR.1
    · have g1 : y 19 r = aD A r := (hR.2.1 r hr).1
      have g2 : y 20 r = aB A r := (hR.2.1 r hr).2
      have g3 : y 20 b = aB A b := (hR.2.1 b hb).2
      constructor
      · show up2 (up2 (up2 y 19 a (aD A a - v)) 19 b (cap (up2 y 19 a (aD A a - v) 19 b + v))) 20 b (y 20 b + v) 19 r = upd (upd (aD A) a (aD A a - v)) b (cap (upd (aD A) a (aD A a - v) b + v)) r
        have k : ∀ q, q < nR M → upd (y 19) a (aD A a - v) q = upd (aD A) a (aD A a - v) q := fun q hq => by
          by_cases c : q = a
          · rw [c, upd_s, upd_s]
          · rw [upd_n c, upd_n c]; exact (hR.2.1 q hq).1
        rw [up2_n (by decide), up2_s, e1, k b hb]
        by_cases c : r = b
        · rw [c, upd_s, upd_s]
        · rw [upd_n c, upd_n c]; exact k r hr
      · show up2 (up2 (up2 y 19 a (aD A a - v)) 19 b (cap (up2 y 19 a (aD A a - v) 19 b + v))) 20 b (y 20 b + v) 20 r = upd (aB A) b (aB A b + v) r
        rw [up2_s, up2_n (by decide), up2_n (by decide), g3]
        by_cases c : r = b
        · rw [c, upd_s, upd_s]
        · rw [upd_n c, upd_n c]; exact g2
    · rw [up2_n (by decide), up2_n (by decide), up2_n (by decide)]; exact hR.2.2
  · exact ((Fr.rf.up (by decide)).up (by decide)).up (by decide)
theorem codeK {M : ST} {A : AS} {hc hm hc1 hm1 z : ST} (p : Rem M A hc hm hc1 hm1) {S : List Nat} (h : Fr S hm1 z) (h0 : 0 ∉ S) : z 0 2 = 0 := by rw [h 0 h0]; exact p.2.2.2.2.2.2
theorem t_sweep {hc hm : ST} (hI : Inv hc hm) (a1 a2 a3 : Int32) : ∃ y, s_sweep hc hm a1 a2 a3 = some y ∧ Inv y.1 y.2 := by
  obtain ⟨f, M, A, h, h2⟩ := hI
  obtain ⟨hf, h0, hB, hF, hCF, hR, hR1, hA⟩ := id h
  have m1 := codeM (M := M) hR1
  have h9 := hB.1.2.1
  have hF1 := fm_up hF 2 0
  have n1 : ¬ (1 : Int32) = 0 := by decide
  unfold s_sweep fL_sweep
  apply s_ok
  have rm := refM (hm := up2 hm 0 2 0) (k := 1) (by decide)
  have rc := refC (hc := hc) (k := 1) (by decide)
  rcases room_c h a1 with ⟨a, ha, rfl, e1, e2⟩ | ⟨e1, e2⟩
  rotate_left
  · obtain ⟨q1, q2⟩ := failM hR1 1
    refine Or.inr ⟨1, 1, 0, hc, _, ?_, rfl, by decide, ?_, q2.2.2.2, Inv.ro h h2 (fun _ _ _ _ => rfl) q2⟩
    · simp only [fX10_sweep, bnd_s, pw_s, rd_0, rd_1, rd_2, rd_3, rd_4, rd_5, rd_6, wr_0, wr_1, wr_2, wr_3, wr_4, wr_5, zb_0, zb_1, Nat.reduceLT, Nat.reducePow, e1, sm]
    · simp only [fX11_sweep, fX11_sweep_21, bnd_s, pw_s, rd_0, rd_1, rd_2, rd_3, rd_4, rd_5, rd_6, wr_0, wr_1, wr_2, wr_3, wr_4, wr_5, zb_0, zb_1, Nat.reduceLT, Nat.reducePow, e2 _ hF1, q1, if_true]
  have E2 := e2 _ hF1
  rcases room_c h a2 with ⟨b, hb, rfl, e3, e4⟩ | ⟨e3, e4⟩
  rotate_left
  · obtain ⟨q1, q2⟩ := failM hR1 1
    refine Or.inr ⟨1, 1, 0, hc, _, ?_, rfl, by decide, ?_, q2.2.2.2, Inv.ro h h2 (fun _ _ _ _ => rfl) q2⟩
    · simp only [fX10_sweep, bnd_s, pw_s, rd_0, rd_1, rd_2, rd_3, rd_4, rd_5, rd_6, wr_0, wr_1, wr_2, wr_3, wr_4, wr_5, zb_0, zb_1, Nat.reduceLT, Nat.reducePow, e1, e3, sm]
    · simp only [fX11_sweep, fX11_sweep_21, bnd_s, pw_s, rd_0, rd_1, rd_2, rd_3, rd_4, rd_5, rd_6, wr_0, wr_1, wr_2, wr_3, wr_4, wr_5, zb_0, zb_1, Nat.reduceLT, Nat.reducePow, E2, if_neg n1, e4 _ hF1, q1, if_true]
  have E4 := e4 _ hF1
  obtain ⟨d, hd, d1, d2, -⟩ := door_c hB hCF hF1 (a := a) (b := b) (by omega) (by omega)
  have H1 : hc 44 a = aD A a := (hR.2.1 a ha).1
  have R2 := (m1.2.2.1.2.1 a ha).1
  have r1 : fX10_sweep_50 hc = some (.inl (-1), up2 hc 213 1 (hc 213 1 + 1)) := by
    unfold fX10_sweep_50; rw [show fX10_refuse hc 1 = _ from rc]; rfl
  have r2 : fX11_sweep_58 (up2 hm 0 2 0) = some (-1, up2 (up2 hm 0 2 0) 17 1 (up2 hm 0 2 0 17 1 + 1)) := by
    unfold fX11_sweep_58; rw [show fX11_refuse (up2 hm 0 2 0) 1 = _ from rm]; rfl
  have z2 : up2 (up2 hm 0 2 0) 17 1 (up2 hm 0 2 0 17 1 + 1) 0 2 = 0 := by rw [up2_n (by decide), up2_ss]
  have rI := Inv.ref h h2 (k := 1) (by decide)
  rcases hd with rfl | rfl
  · refine Or.inl ⟨-1, _, _, ?_, ?_, z2, rI⟩
    · simp only [fX10_sweep, bnd_s, pw_s, rd_0, rd_1, rd_2, rd_3, rd_4, rd_5, rd_6, wr_0, wr_1, wr_2, wr_3, wr_4, wr_5, zb_0, zb_1, Nat.reduceLT, Nat.reducePow, e1, e3, sm, rf_f hf h0, d1, if_true, r1]
    · simp only [fX11_sweep, bnd_s, pw_s, rd_0, rd_1, rd_2, rd_3, rd_4, rd_5, rd_6, wr_0, wr_1, wr_2, wr_3, wr_4, wr_5, zb_0, zb_1, Nat.reduceLT, Nat.reducePow, E2, E4, if_neg n1, d2, if_true, r2]
  rcases in_c 1 999 (by decide) (by decide) a3 with ⟨n, hn1, hn, rfl, e⟩ | ⟨c, e⟩
  · have e : fX11_isIn (up2 hm 0 2 0) (nI n).toInt64 (1 : Int64) (999 : Int64) = some 1 := e _
    have q1 : ¬ nI n < 1 := nI_nlt (b := 1) hn1 (by omega)
    have q2 : ¬ 999 < nI n := nI_nlt (a := 999) hn (by decide)
    by_cases c : nI n ≤ aD A a
    · obtain ⟨hc1, hm1, p1, p2, p3⟩ := remB h h2
      obtain ⟨u, u1, u2, u3⟩ := bringC h9 p3.1 ha hb (nI n)
      obtain ⟨v, v1, v2, v3⟩ := bringM h9 p3.2.1 ha hb (nI n)
      have u4 : u 44 a = aD (aBring A a b (nI n)) a := (u2.2.1 a ha).1
      have v4 := (v2.2.1 a ha).1
      refine Or.inl ⟨aD (aBring A a b (nI n)) a, u, v, ?_, ?_, codeK p3 v3 (by decide), ?_⟩
      · simp only [fX10_sweep, bnd_s, pw_s, rd_0, rd_1, rd_2, rd_3, rd_4, rd_5, rd_6, wr_0, wr_1, wr_2, wr_3, wr_4, wr_5, zb_0, zb_1, Nat.reduceLT, Nat.reducePow, e1, e3, sm, rf_f hf h0, d1, if_neg n1, if_neg q1, if_neg q2, rd_k (n := 9) (show a < 9 by omega), H1, if_pos c, p1, u1, u4]
      · simp only [fX11_sweep, bnd_s, pw_s, rd_0, rd_1, rd_2, rd_3, rd_4, rd_5, rd_6, wr_0, wr_1, wr_2, wr_3, wr_4, wr_5, zb_0, zb_1, Nat.reduceLT, Nat.reducePow, E2, E4, if_neg n1, d2, e, rd_k (n := 9) (show a < 9 by omega), R2, if_pos c, p2, v1, v4]
      · exact Inv.act h h2 p3 (fun i _ _ _ => u3 i (by simp only [List.mem_cons, List.not_mem_nil, or_false]; omega)) (v3.sub (by decide)) (Fs.of v3 (by decide)) u2 v2 (hA.bring ha hb c (by omega))
    · refine Or.inl ⟨-1, _, _, ?_, ?_, z2, rI⟩
      · simp only [fX10_sweep, bnd_s, pw_s, rd_0, rd_1, rd_2, rd_3, rd_4, rd_5, rd_6, wr_0, wr_1, wr_2, wr_3, wr_4, wr_5, zb_0, zb_1, Nat.reduceLT, Nat.reducePow, e1, e3, sm, rf_f hf h0, d1, if_neg n1, if_neg q1, if_neg q2, rd_k (n := 9) (show a < 9 by omega), H1, if_neg c, r1]
      · simp only [fX11_sweep, bnd_s, pw_s, rd_0, rd_1, rd_2, rd_3, rd_4, rd_5, rd_6, wr_0, wr_1, wr_2, wr_3, wr_4, wr_5, zb_0, zb_1, Nat.reduceLT, Nat.reducePow, E2, E4, if_neg n1, d2, e, rd_k (n := 9) (show a < 9 by omega), R2, if_neg c, r2]
  · have e : fX11_isIn (up2 hm 0 2 0) a3.toInt64 (1 : Int64) (999 : Int64) = some 0 := e _
    refine Or.inl ⟨-1, _, _, ?_, ?_, z2, rI⟩
    · by_cases c1 : a3 < 1
      · simp only [fX10_sweep, bnd_s, pw_s, rd_0, rd_1, rd_2, rd_3, rd_4, rd_5, rd_6, wr_0, wr_1, wr_2, wr_3, wr_4, wr_5, zb_0, zb_1, Nat.reduceLT, Nat.reducePow, e1, e3, sm, rf_f hf h0, d1, if_neg n1, if_pos c1, r1]
      · simp only [fX10_sweep, bnd_s, pw_s, rd_0, rd_1, rd_2, rd_3, rd_4, rd_5, rd_6, wr_0, wr_1, wr_2, wr_3, wr_4, wr_5, zb_0, zb_1, Nat.reduceLT, Nat.reducePow, e1, e3, sm, rf_f hf h0, d1, if_neg n1, if_neg c1, if_pos (show 999 < a3 from Int32.not_le.mp (fun q => c ⟨Int32.not_lt.mp c1, q⟩)), r1]
    · simp only [fX11_sweep, bnd_s, pw_s, rd_0, rd_1, rd_2, rd_3, rd_4, rd_5, rd_6, wr_0, wr_1, wr_2, wr_3, wr_4, wr_5, zb_0, zb_1, Nat.reduceLT, Nat.reducePow, E2, E4, if_neg n1, d2, e, if_true, r2]
theorem t_shake {hc hm : ST} (hI : Inv hc hm) (a1 a2 : Int32) : ∃ y, s_shake hc hm a1 a2 = some y ∧ Inv y.1 y.2 := by
  obtain ⟨f, M, A, h, h2⟩ := hI
  obtain ⟨hf, h0, hB, hF, hCF, hR, hR1, hA⟩ := id h
  have m1 := codeM (M := M) hR1
  have h9 := hB.1.2.1
  have hF1 := fm_up hF 2 0
  have n1 : ¬ (1 : Int32) = 0 := by decide
  unfold s_shake fL_shake
  apply s_ok
  have rm := refM (hm := up2 hm 0 2 0) (k := 1) (by decide)
  have rc := refC (hc := hc) (k := 1) (by decide)
  rcases room_c h a1 with ⟨a, ha, rfl, e1, e2⟩ | ⟨e1, e2⟩
  rotate_left
  · obtain ⟨q1, q2⟩ := failM hR1 1
    refine Or.inr ⟨1, 1, 0, hc, _, ?_, rfl, by decide, ?_, q2.2.2.2, Inv.ro h h2 (fun _ _ _ _ => rfl) q2⟩
    · simp only [fX10_shake, bnd_s, pw_s, rd_0, rd_1, rd_2, rd_3, rd_4, rd_5, rd_6, wr_0, wr_1, wr_2, wr_3, wr_4, wr_5, zb_0, zb_1, Nat.reduceLT, Nat.reducePow, e1, sm]
    · simp only [fX11_shake, fX11_shake_21, bnd_s, pw_s, rd_0, rd_1, rd_2, rd_3, rd_4, rd_5, rd_6, wr_0, wr_1, wr_2, wr_3, wr_4, wr_5, zb_0, zb_1, Nat.reduceLT, Nat.reducePow, e2 _ hF1, q1, if_true]
  have E2 := e2 _ hF1
  rcases room_c h a2 with ⟨b, hb, rfl, e3, e4⟩ | ⟨e3, e4⟩
  rotate_left
  · obtain ⟨q1, q2⟩ := failM hR1 1
    refine Or.inr ⟨1, 1, 0, hc, _, ?_, rfl, by decide, ?_, q2.2.2.2, Inv.ro h h2 (fun _ _ _ _ => rfl) q2⟩
    · simp only [fX10_shake, bnd_s, pw_s, rd_0, rd_1, rd_2, rd_3, rd_4, rd_5, rd_6, wr_0, wr_1, wr_2, wr_3, wr_4, wr_5, zb_0, zb_1, Nat.reduceLT, Nat.reducePow, e1, e3, sm]
    · simp only [fX11_shake, fX11_shake_21, bnd_s, pw_s, rd_0, rd_1, rd_2, rd_3, rd_4, rd_5, rd_6, wr_0, wr_1, wr_2, wr_3, wr_4, wr_5, zb_0, zb_1, Nat.reduceLT, Nat.reducePow, E2, if_neg n1, e4 _ hF1, q1, if_true]
  have E4 := e4 _ hF1
  obtain ⟨d, hd, d1, d2, -⟩ := door_c hB hCF hF1 (a := a) (b := b) (by omega) (by omega)
  have z2 : up2 (up2 hm 0 2 0) 17 1 (up2 hm 0 2 0 17 1 + 1) 0 2 = 0 := by rw [up2_n (by decide), up2_ss]
  have rI := Inv.ref h h2 (k := 1) (by decide)
  rcases hd with rfl | rfl
  · refine Or.inl ⟨-1, _, _, ?_, ?_, z2, rI⟩
    · simp only [fX10_shake, bnd_s, pw_s, rd_0, rd_1, rd_2, rd_3, rd_4, rd_5, rd_6, wr_0, wr_1, wr_2, wr_3, wr_4, wr_5, zb_0, zb_1, Nat.reduceLT, Nat.reducePow, e1, e3, sm, rf_f hf h0, d1, if_true]
      rw [show fX10_refuse hc 1 = _ from rc]; rfl
    · simp only [fX11_shake, bnd_s, pw_s, rd_0, rd_1, rd_2, rd_3, rd_4, rd_5, rd_6, wr_0, wr_1, wr_2, wr_3, wr_4, wr_5, zb_0, zb_1, Nat.reduceLT, Nat.reducePow, E2, E4, if_neg n1, d2, if_true]
      rw [show fX11_refuse (up2 hm 0 2 0) 1 = _ from rm]; rfl
  obtain ⟨x, hx, ex⟩ := hA.1 a ha
  have hv : aD A a / 2 = nI (x / 2) := by rw [ex]; exact pk_div (d := 2) (by omega) (by decide) (by decide)
  obtain ⟨hc1, hm1, p1, p2, p3⟩ := remB h h2
  have H1 : hc1 44 a = aD A a := (p3.1.2.1 a ha).1
  have R2 := (p3.2.1.2.1 a ha).1
  obtain ⟨u, u1, u2, u3⟩ := bringC h9 p3.1 ha hb (nI (x / 2))
  obtain ⟨v, v1, v2, v3⟩ := bringM h9 p3.2.1 ha hb (nI (x / 2))
  refine Or.inl ⟨nI (x / 2), u, v, ?_, ?_, codeK p3 v3 (by decide), ?_⟩
  · simp only [fX10_shake, bnd_s, pw_s, rd_0, rd_1, rd_2, rd_3, rd_4, rd_5, rd_6, wr_0, wr_1, wr_2, wr_3, wr_4, wr_5, zb_0, zb_1, Nat.reduceLT, Nat.reducePow, e1, e3, sm, rf_f hf h0, d1, if_neg n1, p1, rd_k (n := 9) (show a < 9 by omega), H1, hv, u1]
  · simp only [fX11_shake, bnd_s, pw_s, rd_0, rd_1, rd_2, rd_3, rd_4, rd_5, rd_6, wr_0, wr_1, wr_2, wr_3, wr_4, wr_5, zb_0, zb_1, Nat.reduceLT, Nat.reducePow, E2, E4, if_neg n1, d2, p2, rd_k (n := 9) (show a < 9 by omega), R2, hv, v1]
  · refine Inv.act h h2 p3 (fun i _ _ _ => u3 i (by simp only [List.mem_cons, List.not_mem_nil, or_false]; omega)) (v3.sub (by decide)) (Fs.of v3 (by decide)) u2 v2 (hA.bring ha hb ?_ (by omega))
    rw [ex]; exact nI_le (by omega) (by omega)
