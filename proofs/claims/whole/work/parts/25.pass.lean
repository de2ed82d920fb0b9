/-! ===== a day in all; days; copies ===== -/
theorem nI_sub {a b : Nat} (h : b ≤ a) : nI a - nI b = nI (a - b) := by
  have e : nI a = nI (a - b) + nI b := by rw [nI_add]; congr 1; omega
  rw [e]
  exact Int32.add_sub_cancel _ _
theorem rem_k {a d : Nat} (ha : a < 2 ^ 31) (h0 : 0 < d) (hd : d < 2 ^ 31) : nI a - nI a / nI d * nI d = nI (a % d) := by
  rw [pk_div ha h0 hd, nI_mul, nI_sub (Nat.div_mul_le_self a d)]
  congr 1
  have := Nat.div_add_mod a d
  rw [Nat.mul_comm] at this
  omega
def okW (M : ST) (w : Int32) : Prop := w = 5 ∨ ∃ k, k < nW M ∧ w = nI k
def okE (e : Int32) : Prop := ∃ k, 1 ≤ k ∧ k ≤ 30 ∧ e = nI k
theorem okE_ne {e : Int32} (h : okE e) : ¬ e = 0 ∧ ¬ e ≤ 0 := by
  obtain ⟨k, h1, h2, rfl⟩ := h
  exact ⟨nI_ne0 (by omega) (by omega), nI_nle (by omega) (by omega)⟩
theorem windM {M hm : ST} (hB : FB M) (hF : FM M hm) {D : Nat → Int32} (hD : ∀ r, r < nR M → hm 19 r = D r) {w : Int32} (hw : okW M w) :
    ∃ hm', fX11_blows hm w = some hm' ∧ (∀ r, r < nR M → hm' 19 r = aWind M w D r) ∧ Fr [19] hm hm' := by
  rcases hw with rfl | ⟨k, hk, rfl⟩
  · exact ⟨hm, blowsM5 hm, fun r hr => by unfold aWind; rw [if_pos rfl]; exact hD r hr, Fr.rf⟩
  · have hW := hB.1.2.2.2.2.2.1
    obtain ⟨y, h1, h2, h3⟩ := blowsM hB hF hD hk
    refine ⟨y, h1, fun r hr => ?_, h3⟩
    unfold aWind
    rw [if_neg (by rw [show (5 : Int32) = nI 5 from rfl, nI_eq (by omega) (by omega)]; omega), nI_clamp (by omega)]
    exact h2 r hr
theorem aPass_y {M : ST} {A : AS} {w e : Int32} (c : (aY A + 1) - (aY A + 1) / e * e = 0) : aPass M A w e = setY (aChurch M (setD A (aWind M w (aSettle M (nR M) (aD A)))) (nR M)) (aY A + 1) := by
  unfold aPass aTithed
  generalize aWind M w (aSettle M (nR M) (aD A)) = X
  have c' : (aY (setD A X) + 1) - (aY (setD A X) + 1) / e * e = 0 := c
  simp only [if_pos c']; rfl
theorem aPass_n {M : ST} {A : AS} {w e : Int32} (c : ¬ (aY A + 1) - (aY A + 1) / e * e = 0) : aPass M A w e = setY (setD A (aWind M w (aSettle M (nR M) (aD A)))) (aY A + 1) := by
  unfold aPass aTithed
  generalize aWind M w (aSettle M (nR M) (aD A)) = X
  have c' : ¬ (aY (setD A X) + 1) - (aY (setD A X) + 1) / e * e = 0 := c
  simp only [if_neg c']; rfl
theorem passM {M hm : ST} (hB : FB M) (hF : FM M hm) {A : AS} (hR : RM1 M A hm) {w e : Int32} (hw : okW M w) (he : okE e) :
    ∃ hm', fX11_passes hm w e = some hm' ∧ RM1 M (aPass M A w e) hm' ∧ Fr [0, 19, 20, 23, 24, 25] hm hm' ∧ Fs 0 [33, 34] hm hm' := by
  obtain ⟨y1, a1, a2, a3⟩ := settleM hB hF (D := aD A) (fun r hr => (hR.2.1 r hr).1)
  have hF1 : FM M y1 := fun j hj => (a3 j (by simp only [FMl, List.mem_cons, List.not_mem_nil, or_false] at hj ⊢; omega)).trans (hF j hj)
  obtain ⟨y2, b1, b2, b3⟩ := windM hB hF1 a2 hw
  have hF2 : FM M y2 := fun j hj => (b3 j (by simp only [FMl, List.mem_cons, List.not_mem_nil, or_false] at hj ⊢; omega)).trans (hF1 j hj)
  have fr2 : Fr [19] hm y2 := a3.tr b3
  have hR2 : RM1 M (setD A (aWind M w (aSettle M (nR M) (aD A)))) y2 := by
    unfold RM1
    rw [fr2 0 (by decide), fr2 20 (by decide), fr2 21 (by decide)]
    exact ⟨hR.1, fun r hr => ⟨b2 r hr, (hR.2.1 r hr).2⟩, hR.2.2⟩
  have hy2 : y2 0 33 = aY A := hR2.1.1
  obtain ⟨e1, e2⟩ := okE_ne he
  unfold fX11_passes fX11_passes_24
  rw [a1, bnd_s, b1, bnd_s, grd_p e1, hy2]
  by_cases c : (aY A + 1) - (aY A + 1) / e * e = 0
  · rw [if_pos c]
    obtain ⟨y3, c1, c2, c3, c4⟩ := churchM hB hF2 hR2
    rw [c1, bnd_s, pw_s, bnd_s]
    refine ⟨_, rfl, ?_, (((fr2.sub (by decide)).tr c3).up (by decide)), (((Fs.of fr2 (by decide)).tr c4).sub (by decide)).up (by decide)⟩
    rw [aPass_y c]
    refine ⟨⟨?_, ?_, ?_⟩, fun r hr => ⟨?_, ?_⟩, fun i hi => ?_⟩
    · rw [up2_ss, c2.1.1]; rfl
    · rw [up2_sn (by decide), c2.1.2.1]; rfl
    · rw [up2_sn (by decide), c2.1.2.2]; rfl
    · rw [up2_n (by decide)]; exact (c2.2.1 r hr).1
    · rw [up2_n (by decide)]; exact (c2.2.1 r hr).2
    · rw [up2_n (by decide)]; exact c2.2.2 i hi
  · rw [if_neg c, pw_s, bnd_s]
    refine ⟨_, rfl, ?_, (fr2.sub (by decide)).up (by decide), (Fs.of fr2 (by decide)).up (by decide)⟩
    rw [aPass_n c]
    refine ⟨⟨?_, ?_, ?_⟩, fun r hr => ⟨?_, ?_⟩, fun i hi => ?_⟩
    · rw [up2_ss]; rfl
    · rw [up2_sn (by decide), hR2.1.2.1]; rfl
    · rw [up2_sn (by decide), hR2.1.2.2]; rfl
    · rw [up2_n (by decide)]; exact (hR2.2.1 r hr).1
    · rw [up2_n (by decide)]; exact (hR2.2.1 r hr).2
    · rw [up2_n (by decide)]; exact hR2.2.2 i hi
theorem passC {f s : Nat} (hf : f = 2 ∨ f = 20) (hs : s = 43 ∨ s = 386) {M hc : ST} (hB : FB M) (hC : CF f M hc) {A : AS} (hR : RC s M A hc) {w e : Int32} (hw : okW M w) (he : okE e) :
    ∃ hc', fX1_pass hc f s w e = some hc' ∧ RC s M (aPass M A w e) hc' ∧ Fr [s, s + 1, s + 2, f + 13, f + 15] hc hc' := by
  obtain ⟨y1, a1, a2, a3⟩ := settleC hf hs hB hC (D := aD A) (fun r hr => (hR.2.1 r hr).1) w e
  have hC1 : CF f M y1 := hC.kept (fun j hj => a3 j (by simp only [CFcells, List.mem_cons, List.not_mem_nil, or_false] at hj ⊢; omega))
  have hW := hB.1.2.2.2.2.2.1
  have bW := hB.1.2.2.2.2.1
  obtain ⟨e1, e2⟩ := okE_ne he
  have hwind : ∃ y2, (∀ k : ST → Option ST, (if w < 0 then k y1 else if y1 f 8 ≤ w then k y1 else bnd (fX1_carry y1 f s w) k) = k y2) ∧ (∀ r, r < nR M → y2 (s + 1) r = aWind M w (aSettle M (nR M) (aD A)) r) ∧ Fr [s + 1] y1 y2 := by
    have f8 : y1 f 8 = nI (nW M) := hC1.1.2.2.1.trans bW
    rcases hw with rfl | ⟨k, hk, rfl⟩
    · refine ⟨y1, fun k => ?_, fun r hr => by unfold aWind; rw [if_pos rfl]; exact a2 r hr, Fr.rf⟩
      rw [if_neg (by decide), f8, if_pos (show nI (nW M) ≤ (5 : Int32) from nI_le (b := 5) hW (by decide))]
    · obtain ⟨y, h1, h2, h3⟩ := carryC hf hs hB hC1 a2 hk
      refine ⟨y, fun q => ?_, fun r hr => ?_, h3⟩
      · rw [if_neg (nI_pos (by omega)), f8, if_neg (nI_ge hk (by omega)), h1, bnd_s]
      · unfold aWind
        rw [if_neg (by rw [show (5 : Int32) = nI 5 from rfl, nI_eq (by omega) (by omega)]; omega), nI_clamp (by omega)]
        exact h2 r hr
  obtain ⟨y2, b1, b2, b3⟩ := hwind
  have fr2 : Fr [s + 1] hc y2 := a3.tr b3
  have hC2 : CF f M y2 := hC.kept (fun j hj => fr2 j (by simp only [CFcells, List.mem_cons, List.not_mem_nil, or_false] at hj ⊢; omega))
  have hR2 : RC s M (setD A (aWind M w (aSettle M (nR M) (aD A)))) y2 := by
    unfold RC
    rw [fr2 s (by simp only [List.mem_cons, List.not_mem_nil, or_false]; omega), fr2 (s + 2) (by simp only [List.mem_cons, List.not_mem_nil, or_false]; omega), fr2 (s + 3) (by simp only [List.mem_cons, List.not_mem_nil, or_false]; omega)]
    exact ⟨hR.1, fun r hr => ⟨b2 r hr, (hR.2.1 r hr).2⟩, hR.2.2⟩
  have hy2 : y2 s 0 = aY A := hR2.1.1
  have ef : fX1_pass hc f s w e = fX1_pass_48 y2 f s e := by
    unfold fX1_pass
    rw [a1, bnd_s]
    exact b1 (fun y => fX1_pass_48 y f s e)
  rw [ef]
  unfold fX1_pass_48 fX1_pass_68
  rw [if_neg e2, grd_p e1, hy2]
  have m1 : ∀ i, i ∈ [s + 1] → i ∈ [s, s + 1, s + 2, f + 13, f + 15] := fun i hi => by simp only [List.mem_cons, List.not_mem_nil, or_false] at hi ⊢; omega
  by_cases c : (aY A + 1) - (aY A + 1) / e * e = 0
  · rw [if_pos c]
    obtain ⟨y3, c1, c2, c3⟩ := churchC hf hs hB hC2 hR2
    rw [c1, bnd_s, pw_s, bnd_s]
    refine ⟨_, rfl, ?_, (((fr2.sub m1).tr c3).up (by simp only [List.mem_cons, List.not_mem_nil, or_false, true_or, or_true]))⟩
    rw [aPass_y c]
    refine ⟨⟨?_, ?_, ?_⟩, fun r hr => ⟨?_, ?_⟩, fun i hi => ?_⟩
    · rw [up2_ss, c2.1.1]; rfl
    · rw [up2_sn (by decide), c2.1.2.1]; rfl
    · rw [up2_sn (by decide), c2.1.2.2]; rfl
    · rw [up2_n (by omega)]; exact (c2.2.1 r hr).1
    · rw [up2_n (by omega)]; exact (c2.2.1 r hr).2
    · rw [up2_n (by omega)]; exact c2.2.2 i hi
  · rw [if_neg c, pw_s, bnd_s]
    refine ⟨_, rfl, ?_, (fr2.sub m1).up (by simp only [List.mem_cons, List.not_mem_nil, or_false, true_or, or_true])⟩
    rw [aPass_n c]
    refine ⟨⟨?_, ?_, ?_⟩, fun r hr => ⟨?_, ?_⟩, fun i hi => ?_⟩
    · rw [up2_ss]; rfl
    · rw [up2_sn (by decide), hR2.1.2.1]; rfl
    · rw [up2_sn (by decide), hR2.1.2.2]; rfl
    · rw [up2_n (by omega)]; exact (hR2.2.1 r hr).1
    · rw [up2_n (by omega)]; exact (hR2.2.1 r hr).2
    · rw [up2_n (by omega)]; exact hR2.2.2 i hi
/-! the calendar -/
theorem wof_k {M : ST} {A : AS} (bC : M 3 3 = nI (nC M)) (hC : nC M ≤ 10) {d : Nat} (hd : d < 2 ^ 31) : aWindOf M A (nI d) = if nC M = 0 then 5 else aC A (d % nC M) := by
  unfold aWindOf
  by_cases c : nC M = 0
  · rw [if_pos c, bC, c, if_pos (show nI 0 = 0 from rfl)]
  · have hl := Nat.mod_lt d (show 0 < nC M by omega)
    rw [if_neg c, bC, if_neg (nI_ne0 (by omega) (by omega)), rem_k hd (by omega) (by omega), nI_clamp (by omega)]
theorem f_windM {M hm : ST} (hB : FB M) (hF : FM M hm) {A : AS} (hR : RM1 M A hm) {d : Nat} (hd : d < 2 ^ 31) : fX11_windOf hm (nI d) = some (aWindOf M A (nI d)) := by
  have bC := hB.1.2.2.2.2.2.2.1
  have hC := hB.1.2.2.2.2.2.2.2
  have f3 : hm 3 = M 3 := hF 3 (by decide)
  rw [wof_k bC hC hd]
  by_cases c : nC M = 0
  · have : nI (nC M) = 0 := by rw [c]; rfl
    simp only [fX11_windOf, fX11_windOf_26, bnd_s, pw_s, rd_0, rd_1, rd_2, rd_3, rd_4, rd_5, rd_6, wr_0, wr_1, wr_2, wr_3, wr_4, wr_5, zb_0, zb_1, Nat.reduceLT, Nat.reducePow, f3, bC, if_pos this, if_pos c]
  · have hl := Nat.mod_lt d (show 0 < nC M by omega)
    have h0 : ¬ nI (nC M) = 0 := nI_ne0 (by omega) (by omega)
    simp only [fX11_windOf, fX11_windOf_26, bnd_s, pw_s, rd_0, rd_1, rd_2, rd_3, rd_4, rd_5, rd_6, wr_0, wr_1, wr_2, wr_3, wr_4, wr_5, zb_0, zb_1, Nat.reduceLT, Nat.reducePow, f3, bC, if_neg h0, if_neg c, grd_p h0, rem_k hd (show 0 < nC M by omega) (show nC M < 2 ^ 31 by omega), rd_k (n := 10) (show d % nC M < 10 by omega), hR.2.2 _ hl]
theorem f_windC {f s : Nat} {M hc : ST} (hB : FB M) (hF : CF f M hc) {A : AS} (hR : RC s M A hc) {d : Nat} (hd : d < 2 ^ 31) : fX1_windOf hc f s (nI d) = some (aWindOf M A (nI d)) := by
  have bC := hB.1.2.2.2.2.2.2.1
  have hC := hB.1.2.2.2.2.2.2.2
  have f13 : hc f 13 = nI (nC M) := hF.1.2.2.2.1.trans bC
  rw [wof_k bC hC hd]
  by_cases c : nC M = 0
  · have : nI (nC M) ≤ 0 := by rw [c]; decide
    simp only [fX1_windOf, fX1_windOf_25, fX1_windOf_26, f13, if_pos this, if_pos c]
  · have hl := Nat.mod_lt d (show 0 < nC M by omega)
    have h0 : ¬ nI (nC M) = 0 := nI_ne0 (by omega) (by omega)
    have h1 : ¬ nI (nC M) ≤ 0 := nI_nle (by omega) (by omega)
    simp only [fX1_windOf, fX1_windOf_26, bnd_s, pw_s, rd_0, rd_1, rd_2, rd_3, rd_4, rd_5, rd_6, wr_0, wr_1, wr_2, wr_3, wr_4, wr_5, zb_0, zb_1, Nat.reduceLT, Nat.reducePow, f13, if_neg h1, if_neg (nI_pos hd), if_neg c, grd_p h0, rem_k hd (show 0 < nC M by omega) (show nC M < 2 ^ 31 by omega), rd_k (n := 10) (show d % nC M < 10 by omega), hR.2.2 _ hl]
