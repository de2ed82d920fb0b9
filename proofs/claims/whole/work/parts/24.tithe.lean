/-! ===== the tithe ===== -/
theorem rule_ok {M : ST} (hB : FB M) (h : ¬ M 3 6 = 0) (vals : Nat → Int32) : rn M vals (nZ M) = some [ruleV M vals] := by
  have hZ := hB.2.1.2.2.1
  rcases hB.2.2.2.2.2.1 with h1 | h1
  · exfalso; apply h; rw [hZ, h1]; rfl
  · obtain ⟨v, hv⟩ := h1 vals
    unfold ruleV; rw [hv]
theorem titheC {f s : Nat} (hf : f = 2 ∨ f = 20) (hs : s = 43 ∨ s = 386) {M hc : ST} (hB : FB M) (hC : CF f M hc) {A : AS} {r : Nat} (hr : r < nR M) (hy : hc s 0 = aY A) (hd : hc (s + 1) r = aD A r) (hb : hc (s + 2) r = aB A r) :
    ∃ hc', fX1_titheOf hc f s (nI r) = some (tv M A r, hc') ∧ Fr [f + 13, f + 15] hc hc' := by
  have h9 := hB.1.2.1
  have hZ := hB.2.1.2.2.1
  have hz7 := hB.2.1.2.2.2
  obtain ⟨-, ⟨o, ho, eo⟩, -⟩ := hB.2.2.1 r hr
  have c6 : hc (f + 12) 1 = M 3 6 := hC.1.2.2.2.2.2.2
  unfold tv
  by_cases h0 : M 3 6 = 0
  · refine ⟨hc, ?_, Fr.rf⟩
    simp only [fX1_titheOf, fX5_isEmpty, fX5_isEmpty_12, bnd_s, pw_s, rd_0, rd_1, rd_2, rd_3, rd_4, rd_5, rd_6, wr_0, wr_1, wr_2, wr_3, wr_4, wr_5, zb_0, zb_1, Nat.reduceLT, Nat.reducePow, rd_k (n := 9) (show r < 9 by omega), c6, if_pos h0, hd]
    rfl
  · have u1 : ∀ (h : ST) k v, up2 h (f + 12 + 1) k v (f + 1) = h (f + 1) := fun _ _ _ => up2_n (by omega)
    have u2 : ∀ (h : ST) k v, up2 h (f + 12 + 1) k v (f + 2) = h (f + 2) := fun _ _ _ => up2_n (by omega)
    have u17 : ∀ (h : ST) k v, up2 h (f + 12 + 1) k v (f + 17) = h (f + 17) := fun _ _ _ => up2_n (by omega)
    have us : ∀ (h : ST) k v, up2 h (f + 12 + 1) k v s = h s := fun _ _ _ => up2_n (by omega)
    have us2 : ∀ (h : ST) k v, up2 h (f + 12 + 1) k v (s + 2) = h (s + 2) := fun _ _ _ => up2_n (by omega)
    have k1 : hc (f + 1) r = M 4 r := (hC.2.1 r hr).1
    have k2 : hc (f + 2) r = nI o := (hC.2.1 r hr).2.1.trans eo
    have k17 : hc (f + 17) o = nI (cntO M (M 5 r) (nR M)) := by rw [eo]; exact hC.2.2.2.2.2 o ho
    have hr26 := rule_ok hB h0 (valsA M A r)
    obtain ⟨h26, e26⟩ : ∃ h26, h26 = up2 (up2 (up2 (up2 (up2 (up2 hc (f + 12 + 1) 0 (aD A r)) (f + 12 + 1) 1 (M 4 r)) (f + 12 + 1) 2 (nI o)) (f + 12 + 1) 3 (aY A)) (f + 12 + 1) 4 (nI (cntO M (M 5 r) (nR M)))) (f + 12 + 1) 5 (aB A r) := ⟨_, rfl⟩
    have fr26 : Fr [f + 13, f + 15] hc h26 := by rw [e26]; exact (((((Fr.rf.up (by simp only [List.mem_cons, List.not_mem_nil, or_false, true_or, or_true])).up (by simp only [List.mem_cons, List.not_mem_nil, or_false, true_or, or_true])).up (by simp only [List.mem_cons, List.not_mem_nil, or_false, true_or, or_true])).up (by simp only [List.mem_cons, List.not_mem_nil, or_false, true_or, or_true])).up (by simp only [List.mem_cons, List.not_mem_nil, or_false, true_or, or_true])).up (by simp only [List.mem_cons, List.not_mem_nil, or_false, true_or, or_true])
    have hC26 : CF f M h26 := hC.kept (fun j hj => fr26 j (by simp only [CFcells, List.mem_cons, List.not_mem_nil, or_false] at hj ⊢; omega))
    obtain ⟨h28, e28, fr28⟩ := amountC hf hZ hz7 hC26 (vals := valsA M A r) (by
      intro k hk
      rw [e26]
      show up2 _ (f + 13) 5 _ (f + 13) k = _
      rcases (show k = 0 ∨ k = 1 ∨ k = 2 ∨ k = 3 ∨ k = 4 ∨ k = 5 by omega) with rfl | rfl | rfl | rfl | rfl | rfl
      · rw [up2_sn (by decide), up2_sn (by decide), up2_sn (by decide), up2_sn (by decide), up2_sn (by decide), up2_ss]; rfl
      · rw [up2_sn (by decide), up2_sn (by decide), up2_sn (by decide), up2_sn (by decide), up2_ss]; rfl
      · rw [up2_sn (by decide), up2_sn (by decide), up2_sn (by decide), up2_ss]; exact eo.symm
      · rw [up2_sn (by decide), up2_sn (by decide), up2_ss]; rfl
      · rw [up2_sn (by decide), up2_ss]; rfl
      · rw [up2_ss]; rfl) hr26
    refine ⟨h28, ?_, fr26.tr (fr28.sub (fun i hi => by simp only [List.mem_cons, List.not_mem_nil, or_false] at hi ⊢; omega))⟩
    rw [e26] at e28
    simp only [fX1_titheOf, fX5_isEmpty, fX5_isEmpty_12, bnd_s, pw_s, rd_0, rd_1, rd_2, rd_3, rd_4, rd_5, rd_6, wr_0, wr_1, wr_2, wr_3, wr_4, wr_5, zb_0, zb_1, Nat.reduceLT, Nat.reducePow, rd_k (n := 9) (show r < 9 by omega), c6, if_neg h0, if_true, hd, u1, u2, u17, us, us2, k1, k2, hy, hb, rd_k (n := 6) ho, k17, e28, clampT]
theorem cntM {M hm : ST} (hF : FM M hm) {r : Nat} (h9 : nR M ≤ 9) (b0 : M 3 0 = nI (nR M)) (hr : r < nR M) : lp FU (fX11_tithe_24 hm (nI r)) (0, 0) = some (nI (cntO M (M 5 r) (nR M))) := by
  have f3 : hm 3 = M 3 := hF 3 (by decide)
  have f5 : hm 5 = M 5 := hF 5 (by decide)
  refine lp_det (b := fX11_tithe_24 hm (nI r)) (fun i => (nI (cntO M (M 5 r) i), nI i)) (nR M) (by omega) (fun i hi => ?_) ?_
  · have q1 := nI_ge hi (by omega)
    by_cases c : M 5 i = M 5 r
    · simp only [fX11_tithe_24, fX11_tithe_55, bnd_s, pw_s, rd_0, rd_1, rd_2, rd_3, rd_4, rd_5, rd_6, wr_0, wr_1, wr_2, wr_3, wr_4, wr_5, zb_0, zb_1, Nat.reduceLT, Nat.reducePow, f3, f5, b0, if_neg q1, rd_k (n := 18) (show i < 18 by omega), rd_k (n := 18) (show r < 18 by omega), if_pos c, nI_1, cntO]
    · simp only [fX11_tithe_24, fX11_tithe_55, bnd_s, pw_s, rd_0, rd_1, rd_2, rd_3, rd_4, rd_5, rd_6, wr_0, wr_1, wr_2, wr_3, wr_4, wr_5, zb_0, zb_1, Nat.reduceLT, Nat.reducePow, f3, f5, b0, if_neg q1, rd_k (n := 18) (show i < 18 by omega), rd_k (n := 18) (show r < 18 by omega), if_neg c, nI_1, cntO, Int32.add_zero, Nat.add_zero]
  · simp only [fX11_tithe_24, bnd_s, pw_s, rd_0, rd_1, rd_2, rd_3, rd_4, rd_5, rd_6, wr_0, wr_1, wr_2, wr_3, wr_4, wr_5, zb_0, zb_1, Nat.reduceLT, Nat.reducePow, f3, b0, Int32.le_refl, if_true]
theorem titheM {M hm : ST} (hB : FB M) (hF : FM M hm) {A : AS} {r : Nat} (hr : r < nR M) (hy : hm 0 33 = aY A) (hd : hm 19 r = aD A r) (hb : hm 20 r = aB A r) :
    ∃ hm', fX11_tithe hm (nI r) = some (tv M A r, hm') ∧ Fr [23, 24] hm hm' := by
  have h9 := hB.1.2.1
  have hZ := hB.2.1.2.2.1
  have hz7 := hB.2.1.2.2.2
  have f3 : hm 3 = M 3 := hF 3 (by decide)
  have f4 : hm 4 = M 4 := hF 4 (by decide)
  have f5 : hm 5 = M 5 := hF 5 (by decide)
  unfold tv
  by_cases h0 : M 3 6 = 0
  · refine ⟨hm, ?_, Fr.rf⟩
    simp only [fX11_tithe, bnd_s, pw_s, rd_0, rd_1, rd_2, rd_3, rd_4, rd_5, rd_6, wr_0, wr_1, wr_2, wr_3, wr_4, wr_5, zb_0, zb_1, Nat.reduceLT, Nat.reducePow, f3, rd_k (n := 9) (show r < 9 by omega), if_pos h0, hd]
  · have u4 : ∀ (h : ST) k v, up2 h 23 k v 4 = h 4 := fun _ _ _ => up2_n (by decide)
    have u5 : ∀ (h : ST) k v, up2 h 23 k v 5 = h 5 := fun _ _ _ => up2_n (by decide)
    have u0 : ∀ (h : ST) k v, up2 h 23 k v 0 = h 0 := fun _ _ _ => up2_n (by decide)
    have u19 : ∀ (h : ST) k v, up2 h 23 k v 19 = h 19 := fun _ _ _ => up2_n (by decide)
    have u20 : ∀ (h : ST) k v, up2 h 23 k v 20 = h 20 := fun _ _ _ => up2_n (by decide)
    have hr26 := rule_ok hB h0 (valsA M A r)
    obtain ⟨h26, e26⟩ : ∃ h26, h26 = up2 (up2 (up2 (up2 (up2 (up2 hm 23 0 (aD A r)) 23 1 (M 4 r)) 23 2 (M 5 r)) 23 3 (aY A)) 23 4 (nI (cntO M (M 5 r) (nR M)))) 23 5 (aB A r) := ⟨_, rfl⟩
    have fr26 : Fr [23, 24] hm h26 := by rw [e26]; exact (((((Fr.rf.up (by simp only [List.mem_cons, List.not_mem_nil, or_false, true_or, or_true])).up (by simp only [List.mem_cons, List.not_mem_nil, or_false, true_or, or_true])).up (by simp only [List.mem_cons, List.not_mem_nil, or_false, true_or, or_true])).up (by simp only [List.mem_cons, List.not_mem_nil, or_false, true_or, or_true])).up (by simp only [List.mem_cons, List.not_mem_nil, or_false, true_or, or_true])).up (by simp only [List.mem_cons, List.not_mem_nil, or_false, true_or, or_true])
    have hF26 : FM M h26 := fun i hi => (fr26 i (by simp only [FMl, List.mem_cons, List.not_mem_nil, or_false] at hi ⊢; omega)).trans (hF i hi)
    obtain ⟨h28, e28, fr28⟩ := valueM hZ hz7 hF26 (vals := valsA M A r) (by
      intro k hk
      rw [e26]
      rcases (show k = 0 ∨ k = 1 ∨ k = 2 ∨ k = 3 ∨ k = 4 ∨ k = 5 by omega) with rfl | rfl | rfl | rfl | rfl | rfl
      · rw [up2_sn (by decide), up2_sn (by decide), up2_sn (by decide), up2_sn (by decide), up2_sn (by decide), up2_ss]; rfl
      · rw [up2_sn (by decide), up2_sn (by decide), up2_sn (by decide), up2_sn (by decide), up2_ss]; rfl
      · rw [up2_sn (by decide), up2_sn (by decide), up2_sn (by decide), up2_ss]; rfl
      · rw [up2_sn (by decide), up2_sn (by decide), up2_ss]; rfl
      · rw [up2_sn (by decide), up2_ss]; rfl
      · rw [up2_ss]; rfl) hr26
    refine ⟨h28, ?_, fr26.tr (fr28.sub (fun i hi => by simp only [List.mem_cons, List.not_mem_nil, or_false] at hi ⊢; omega))⟩
    rw [e26] at e28
    simp only [fX11_tithe, bnd_s, pw_s, rd_0, rd_1, rd_2, rd_3, rd_4, rd_5, rd_6, wr_0, wr_1, wr_2, wr_3, wr_4, wr_5, zb_0, zb_1, Nat.reduceLT, Nat.reducePow, f3, if_neg h0, cntM hF h9 hB.1.1 hr, rd_k (n := 9) (show r < 9 by omega), rd_k (n := 18) (show r < 18 by omega), hd, u4, u5, u0, u19, u20, f4, f5, hy, hb, e28, clampT]
theorem tv_cong {M : ST} {A E : AS} {r : Nat} (h1 : aD E r = aD A r) (h2 : aB E r = aB A r) (h3 : aY E = aY A) : tv M E r = tv M A r := by
  have e : valsA M E r = valsA M A r := by
    funext k
    unfold valsA
    rw [h1, h2, h3]
  unfold tv
  rw [h1, e]
theorem aChurch_0 (M : ST) (A : AS) : aChurch M A 0 = A := by
  obtain ⟨D, B, C, y, t, s⟩ := A
  simp [aChurch, sumT]
/-! the church's round -/
theorem churchC {f s : Nat} (hf : f = 2 ∨ f = 20) (hs : s = 43 ∨ s = 386) {M hc : ST} (hB : FB M) (hC : CF f M hc) {A : AS} (hR : RC s M A hc) :
    ∃ hc', fX1_tithe hc f s = some hc' ∧ RC s M (aChurch M A (nR M)) hc' ∧ Fr [s, s + 1, s + 2, f + 13, f + 15] hc hc' := by
  have b0 := hB.1.1
  have h9 := hB.1.2.1
  obtain ⟨y, h1, h2, h3⟩ := lp_cnt (b := fX1_tithe_2 f s) (s := (hc, 0)) (Q := fun y => RC s M (aChurch M A (nR M)) y ∧ Fr [s, s + 1, s + 2, f + 13, f + 15] hc y) (fun i q => q.2 = nI i ∧ RC s M (aChurch M A i) q.1 ∧ Fr [s, s + 1, s + 2, f + 13, f + 15] hc q.1) (nR M) (by omega) (by
    rintro i ⟨h, k⟩ hi ⟨e1, e2, e3⟩
    obtain rfl : k = nI i := e1
    dsimp only at e2 e3
    have hC' : CF f M h := hC.kept (fun j hj => e3 j (by simp only [CFcells, List.mem_cons, List.not_mem_nil, or_false] at hj ⊢; omega))
    have f0 : h f 0 = nI (nR M) := hC'.1.1.trans b0
    have q1 := nI_ge hi (by omega)
    obtain ⟨⟨g1, g2, g3⟩, g4, g5⟩ := e2
    obtain ⟨h2, t1, t2⟩ := titheC hf hs hB hC' (A := aChurch M A i) hi g1 (g4 i hi).1 (g4 i hi).2
    have et : tv M (aChurch M A i) i = tv M A i := tv_cong (show (if i < i then _ else _) = _ by rw [if_neg (Nat.lt_irrefl i)]) (show (if i < i then _ else _) = _ by rw [if_neg (Nat.lt_irrefl i)]) rfl
    rw [et] at t1
    have k0 : h2 s = h s := t2 s (by simp only [List.mem_cons, List.not_mem_nil, or_false]; omega)
    have k1 : h2 (s + 1) = h (s + 1) := t2 (s + 1) (by simp only [List.mem_cons, List.not_mem_nil, or_false]; omega)
    have k2 : h2 (s + 2) = h (s + 2) := t2 (s + 2) (by simp only [List.mem_cons, List.not_mem_nil, or_false]; omega)
    have k3 : h2 (s + 3) = h (s + 3) := t2 (s + 3) (by simp only [List.mem_cons, List.not_mem_nil, or_false]; omega)
    have d1 : h (s + 1) i = aD A i := by rw [(g4 i hi).1]; show (if i < i then _ else _) = _; rw [if_neg (Nat.lt_irrefl i)]
    refine Or.inl ⟨(up2 (up2 (up2 h2 (s + 1) i (aD A i - tv M A i)) s 1 (h2 s 1 + tv M A i)) (s + 2) i 0, nI i + 1), ?_, nI_1 i, ⟨⟨?_, ?_, ?_⟩, fun r hr => ⟨?_, ?_⟩, fun j hj => ?_⟩, ((((e3.tr (t2.sub (fun i hi => by simp only [List.mem_cons, List.not_mem_nil, or_false] at hi ⊢; omega))).up (by simp only [List.mem_cons, List.not_mem_nil, or_false, true_or, or_true])).up (by simp only [List.mem_cons, List.not_mem_nil, or_false, true_or, or_true])).up (by simp only [List.mem_cons, List.not_mem_nil, or_false, true_or, or_true]))⟩
    · have us : ∀ (h : ST) k v, up2 h (s + 1) k v s = h s := fun _ _ _ => up2_n (by omega)
      simp only [fX1_tithe_2, bnd_s, pw_s, rd_0, rd_1, rd_2, rd_3, rd_4, rd_5, rd_6, wr_0, wr_1, wr_2, wr_3, wr_4, wr_5, zb_0, zb_1, Nat.reduceLT, Nat.reducePow, f0, if_neg q1, t1, rd_k (n := 9) (show i < 9 by omega), wr_k (n := 9) (show i < 9 by omega), k1, d1, us]
    · show up2 _ (s + 2) i 0 s 0 = aY A
      rw [up2_n (by omega), up2_sn (by decide), up2_n (by omega), k0, g1]; rfl
    · show up2 _ (s + 2) i 0 s 1 = aT A + sumT M A (i + 1)
      rw [up2_n (by omega), up2_ss, k0, g2]
      show aT A + sumT M A i + tv M A i = aT A + (sumT M A i + tv M A i)
      rw [Int32.add_assoc]
    · show up2 _ (s + 2) i 0 s 2 = aS A
      rw [up2_n (by omega), up2_sn (by decide), up2_n (by omega), k0, g3]; rfl
    · show up2 _ (s + 2) i 0 (s + 1) r = if r < i + 1 then aD A r - tv M A r else aD A r
      rw [up2_n (by omega), up2_n (by omega), up2_s, k1]
      by_cases c : r = i
      · subst c; rw [upd_s, if_pos (by omega)]
      · rw [upd_n c, (g4 r hr).1]
        show (if r < i then _ else _) = _
        by_cases c2 : r < i
        · rw [if_pos c2, if_pos (by omega)]
        · rw [if_neg c2, if_neg (by omega)]
    · show up2 _ (s + 2) i 0 (s + 2) r = if r < i + 1 then 0 else aB A r
      rw [up2_s, up2_n (by omega), up2_n (by omega), k2]
      by_cases c : r = i
      · subst c; rw [upd_s, if_pos (by omega)]
      · rw [upd_n c, (g4 r hr).2]
        show (if r < i then _ else _) = _
        by_cases c2 : r < i
        · rw [if_pos c2, if_pos (by omega)]
        · rw [if_neg c2, if_neg (by omega)]
    · show up2 _ (s + 2) i 0 (s + 3) j = aC A j
      rw [up2_n (by omega), up2_n (by omega), up2_n (by omega), k3]; exact g5 j hj) (by
    rintro ⟨h, k⟩ ⟨e1, e2, e3⟩
    obtain rfl : k = nI (nR M) := e1
    dsimp only at e2 e3
    refine ⟨h, ?_, e2, e3⟩
    have f0 : h f 0 = nI (nR M) := by rw [e3 f (by simp only [List.mem_cons, List.not_mem_nil, or_false]; omega), hC.1.1, b0]
    simp only [fX1_tithe_2, f0, Int32.le_refl, if_true]) ⟨rfl, by rw [aChurch_0]; exact hR, Fr.rf⟩
  exact ⟨y, by unfold fX1_tithe; rw [h1, bnd_s], h2, h3⟩
theorem churchM {M hm : ST} (hB : FB M) (hF : FM M hm) {A : AS} (hR : RM1 M A hm) :
    ∃ hm', fX11_church hm = some hm' ∧ RM1 M (aChurch M A (nR M)) hm' ∧ Fr [0, 19, 20, 23, 24, 25] hm hm' ∧ Fs 0 [34] hm hm' := by
  have b0 := hB.1.1
  have h9 := hB.1.2.1
  obtain ⟨y, h1, h2, h3, h4⟩ := lp_cnt (b := fX11_church_2) (s := (hm, 0)) (Q := fun y => RM1 M A y ∧ (∀ r, r < nR M → y 25 r = tv M A r) ∧ Fr [23, 24, 25] hm y) (fun i q => q.2 = nI i ∧ RM1 M A q.1 ∧ (∀ r, r < i → q.1 25 r = tv M A r) ∧ Fr [23, 24, 25] hm q.1) (nR M) (by omega) (by
    rintro i ⟨h, k⟩ hi ⟨e1, e2, e3, e4⟩
    obtain rfl : k = nI i := e1
    dsimp only at e2 e3 e4
    have hF' : FM M h := fun j hj => (e4 j (by simp only [FMl, List.mem_cons, List.not_mem_nil, or_false] at hj ⊢; omega)).trans (hF j hj)
    have f3 : h 3 = M 3 := hF' 3 (by decide)
    have q1 := nI_ge hi (by omega)
    obtain ⟨h2, t1, t2⟩ := titheM hB hF' (A := A) hi e2.1.1 (e2.2.1 i hi).1 (e2.2.1 i hi).2
    have k0 : up2 h2 25 i (tv M A i) 0 = h 0 := (up2_n (by decide)).trans (t2 0 (by decide))
    have k19 : up2 h2 25 i (tv M A i) 19 = h 19 := (up2_n (by decide)).trans (t2 19 (by decide))
    have k20 : up2 h2 25 i (tv M A i) 20 = h 20 := (up2_n (by decide)).trans (t2 20 (by decide))
    have k21 : up2 h2 25 i (tv M A i) 21 = h 21 := (up2_n (by decide)).trans (t2 21 (by decide))
    refine Or.inl ⟨(up2 h2 25 i (tv M A i), nI i + 1), ?_, nI_1 i, ?_, fun r hr => ?_, (e4.tr (t2.sub (by decide))).up (by decide)⟩
    · simp only [fX11_church_2, bnd_s, pw_s, rd_0, rd_1, rd_2, rd_3, rd_4, rd_5, rd_6, wr_0, wr_1, wr_2, wr_3, wr_4, wr_5, zb_0, zb_1, Nat.reduceLT, Nat.reducePow, f3, b0, if_neg q1, t1, wr_k (n := 9) (show i < 9 by omega)]
    · show RM1 M A (up2 h2 25 i (tv M A i))
      unfold RM1
      rw [k0, k19, k20, k21]
      exact e2
    · show up2 h2 25 i (tv M A i) 25 r = _
      rw [up2_s]
      by_cases c : r = i
      · subst c; rw [upd_s]
      · rw [upd_n c, t2 25 (by decide)]; exact e3 r (by omega)) (by
    rintro ⟨h, k⟩ ⟨e1, e2, e3, e4⟩
    obtain rfl : k = nI (nR M) := e1
    dsimp only at e2 e3 e4
    refine ⟨h, ?_, e2, e3, e4⟩
    have f3 : h 3 = M 3 := (e4 3 (by decide)).trans (hF 3 (by decide))
    simp only [fX11_church_2, bnd_s, pw_s, rd_0, rd_1, rd_2, rd_3, rd_4, rd_5, rd_6, wr_0, wr_1, wr_2, wr_3, wr_4, wr_5, zb_0, zb_1, Nat.reduceLT, Nat.reducePow, f3, b0, Int32.le_refl, if_true]) ⟨rfl, hR, fun r hr => absurd hr (Nat.not_lt_zero r), Fr.rf⟩
  have hF1 : FM M y := fun j hj => (h4 j (by simp only [FMl, List.mem_cons, List.not_mem_nil, or_false] at hj ⊢; omega)).trans (hF j hj)
  obtain ⟨z, z1, z2, z3, z4⟩ := lp_cnt (b := fX11_church_31) (s := (y, 0)) (Q := fun z => RM1 M (aChurch M A (nR M)) z ∧ Fr [0, 19, 20] y z ∧ Fs 0 [34] y z) (fun i q => q.2 = nI i ∧ RM1 M (aChurch M A i) q.1 ∧ Fr [0, 19, 20] y q.1 ∧ Fs 0 [34] y q.1) (nR M) (by omega) (by
    rintro i ⟨h, k⟩ hi ⟨e1, e2, e3, e4⟩
    obtain rfl : k = nI i := e1
    dsimp only at e2 e3 e4
    have f3 : h 3 = M 3 := (e3 3 (by decide)).trans (hF1 3 (by decide))
    have q1 := nI_ge hi (by omega)
    obtain ⟨⟨g1, g2, g3⟩, g4, g5⟩ := e2
    have d1 : h 19 i = aD A i := by rw [(g4 i hi).1]; show (if i < i then _ else _) = _; rw [if_neg (Nat.lt_irrefl i)]
    have t1 : h 25 i = tv M A i := by rw [e3 25 (by decide)]; exact h3 i hi
    refine Or.inl ⟨(up2 (up2 (up2 h 19 i (aD A i - tv M A i)) 0 34 (h 0 34 + tv M A i)) 20 i 0, nI i + 1), ?_, nI_1 i, ⟨⟨?_, ?_, ?_⟩, fun r hr => ⟨?_, ?_⟩, fun j hj => ?_⟩, ((e3.up (by decide)).up (by decide)).up (by decide), ((e4.un (by decide)).up (by decide)).un (by decide)⟩
    · have u25 : ∀ (h : ST) k v, up2 h 19 k v 25 = h 25 := fun _ _ _ => up2_n (by decide)
      have u0 : ∀ (h : ST) k v, up2 h 19 k v 0 = h 0 := fun _ _ _ => up2_n (by decide)
      simp only [fX11_church_31, bnd_s, pw_s, rd_0, rd_1, rd_2, rd_3, rd_4, rd_5, rd_6, wr_0, wr_1, wr_2, wr_3, wr_4, wr_5, zb_0, zb_1, Nat.reduceLT, Nat.reducePow, f3, b0, if_neg q1, rd_k (n := 9) (show i < 9 by omega), wr_k (n := 9) (show i < 9 by omega), d1, t1, u25, u0]
    · dsimp only
      show up2 _ 20 i 0 0 33 = aY A
      rw [up2_n (by decide), up2_sn (by decide), up2_n (by decide), g1]; rfl
    · dsimp only
      show up2 _ 20 i 0 0 34 = aT A + sumT M A (i + 1)
      rw [up2_n (by decide), up2_ss, g2]
      show aT A + sumT M A i + tv M A i = aT A + (sumT M A i + tv M A i)
      rw [Int32.add_assoc]
    · dsimp only
      show up2 _ 20 i 0 0 35 = aS A
      rw [up2_n (by decide), up2_sn (by decide), up2_n (by decide), g3]; rfl
    · dsimp only
      show up2 _ 20 i 0 19 r = if r < i + 1 then aD A r - tv M A r else aD A r
      rw [up2_n (by decide), up2_n (by decide), up2_s]
      by_cases c : r = i
      · subst c; rw [upd_s, if_pos (by omega)]
      · rw [upd_n c, (g4 r hr).1]
        show (if r < i then _ else _) = _
        by_cases c2 : r < i
        · rw [if_pos c2, if_pos (by omega)]
        · rw [if_neg c2, if_neg (by omega)]
    · dsimp only
      show up2 _ 20 i 0 20 r = if r < i + 1 then 0 else aB A r
      rw [up2_s, up2_n (by decide), up2_n (by decide)]
      by_cases c : r = i
      · subst c; rw [upd_s, if_pos (by omega)]
      · rw [upd_n c, (g4 r hr).2]
        show (if r < i then _ else _) = _
        by_cases c2 : r < i
        · rw [if_pos c2, if_pos (by omega)]
        · rw [if_neg c2, if_neg (by omega)]
    · dsimp only
      show up2 _ 20 i 0 21 j = aC A j
      rw [up2_n (by decide), up2_n (by decide), up2_n (by decide)]; exact g5 j hj) (by
    rintro ⟨h, k⟩ ⟨e1, e2, e3, e4⟩
    obtain rfl : k = nI (nR M) := e1
    dsimp only at e2 e3 e4
    refine ⟨h, ?_, e2, e3, e4⟩
    have f3 : h 3 = M 3 := (e3 3 (by decide)).trans (hF1 3 (by decide))
    simp only [fX11_church_31, bnd_s, pw_s, rd_0, rd_1, rd_2, rd_3, rd_4, rd_5, rd_6, wr_0, wr_1, wr_2, wr_3, wr_4, wr_5, zb_0, zb_1, Nat.reduceLT, Nat.reducePow, f3, b0, Int32.le_refl, if_true]) ⟨rfl, by rw [aChurch_0]; exact h2, Fr.rf, Fs.rf⟩
  exact ⟨z, by unfold fX11_church; rw [h1, bnd_s, z1, bnd_s], z2, (h4.sub (by decide)).tr (z3.sub (by decide)), (Fs.of h4 (by decide)).tr z4⟩
