/-! ===== a day: settling and winds ===== -/
theorem settleC {f s : Nat} (hf : f = 2 ∨ f = 20) (hs : s = 43 ∨ s = 386) {M hc : ST} (hB : FB M) (hC : CF f M hc) {D : Nat → Int32} (hD : ∀ r, r < nR M → hc (s + 1) r = D r) (w e : Int32) :
    ∃ hc', lp FU (fX1_pass_3 f s w e) (hc, 0) = some hc' ∧ (∀ r, r < nR M → hc' (s + 1) r = aSettle M (nR M) D r) ∧ Fr [s + 1] hc hc' := by
  have b0 := hB.1.1
  have h9 := hB.1.2.1
  obtain ⟨y, h1, h2, h3⟩ := lp_cnt (b := fX1_pass_3 f s w e) (s := (hc, 0)) (Q := fun y => (∀ r, r < nR M → y (s + 1) r = aSettle M (nR M) D r) ∧ Fr [s + 1] hc y) (fun i q => q.2 = nI i ∧ (∀ r, r < nR M → q.1 (s + 1) r = aSettle M i D r) ∧ Fr [s + 1] hc q.1) (nR M) (by omega) (by
    rintro i ⟨h, k⟩ hi ⟨e1, e2, e3⟩
    obtain rfl : k = nI i := e1
    dsimp only at e2 e3
    refine Or.inl ⟨(up2 h (s + 1) i (cap (h (s + 1) i + comes M i)), nI i + 1), ?_, nI_1 i, fun r hr => ?_, e3.up (by simp only [List.mem_cons, List.not_mem_nil, or_false, true_or, or_true])⟩
    · have hC' : CF f M h := hC.kept (fun j hj => e3 j (by simp only [CFcells, List.mem_cons, List.not_mem_nil, or_false] at hj ⊢; omega))
      have f0 : h f 0 = nI (nR M) := hC'.1.1.trans b0
      have q1 := nI_ge hi (by omega)
      simp only [fX1_pass_3, bnd_s, pw_s, rd_0, rd_1, rd_2, rd_3, rd_4, rd_5, rd_6, wr_0, wr_1, wr_2, wr_3, wr_4, wr_5, zb_0, zb_1, Nat.reduceLT, Nat.reducePow, f0, if_neg q1, f_comesTo hC' hi h9, f_lay (show i < 9 by omega)]
    · show up2 h (s + 1) i _ (s + 1) r = layD (aSettle M i D) i (comes M i) r
      unfold layD
      rw [up2_s]
      by_cases hri : r = i
      · subst hri
        rw [upd_s, upd_s, e2 r hr]
      · rw [upd_n hri, upd_n hri]; exact e2 r hr) (by
    rintro ⟨h, k⟩ ⟨e1, e2, e3⟩
    obtain rfl : k = nI (nR M) := e1
    dsimp only at e2 e3
    refine ⟨h, ?_, e2, e3⟩
    have f0 : h f 0 = nI (nR M) := by rw [e3 f (by simp only [List.mem_cons, List.not_mem_nil, or_false]; omega), hC.1.1, b0]
    simp only [fX1_pass_3, f0, Int32.le_refl, if_true]) ⟨rfl, hD, Fr.rf⟩
  exact ⟨y, h1, h2, h3⟩
theorem nI_mul (a b : Nat) : nI a * nI b = nI (a * b) := (Int32.ofNat_mul a b).symm
theorem f_arrives {f : Nat} {M hc : ST} (hC : CF f M hc) {r : Nat} (hr : r < nR M) (h9 : nR M ≤ 9) (v : Int32) : fX2_arrives hc f (nI r) v = some (if M 4 r = 1 then v / 2 else v) := by
  unfold fX2_arrives fX2_arrives_17
  rw [rd_k (by omega), bnd_s, (hC.2.1 r hr).1]
  by_cases h : M 4 r = 1
  · rw [if_pos h, if_pos h]
  · rw [if_neg h, if_neg h]
/-- one blow, on rows that agree on the rooms -/
theorem aBlow_cong {M : ST} {n k : Nat} {D E : Nat → Int32} {a b : Nat} (ha : M 12 k = nI a) (hb : M 13 k = nI b) (ha9 : a < 9) (hb9 : b < 9) (haR : a < n) (hbR : b < n) (h : ∀ r, r < n → E r = D r) : ∀ r, r < n → layD (upd E a (E a - E a * M 14 k / 10)) b (if M 4 b = 1 then E a * M 14 k / 10 / 2 else E a * M 14 k / 10) r = aBlow M k D r := by
  intro r hr
  unfold aBlow layD
  rw [ha, hb, nI_clamp (by omega), nI_clamp (by omega), h a haR]
  have e9 : ∀ q, q < n → upd E a (D a - D a * M 14 k / 10) q = upd D a (D a - D a * M 14 k / 10) q := by
    intro q hq
    by_cases h1 : q = a
    · subst h1; rw [upd_s, upd_s]
    · rw [upd_n h1, upd_n h1]; exact h q hq
  by_cases h1 : r = b
  · subst h1; rw [upd_s, upd_s, e9 r hr]
  · rw [upd_n h1, upd_n h1]; exact e9 r hr
theorem carryC {f s : Nat} (hf : f = 2 ∨ f = 20) (hs : s = 43 ∨ s = 386) {M hc : ST} (hB : FB M) (hC : CF f M hc) {D : Nat → Int32} (hD : ∀ r, r < nR M → hc (s + 1) r = D r) {w : Nat} (hw : w < nW M) :
    ∃ hc', fX1_carry hc f s (nI w) = some hc' ∧ (∀ r, r < nR M → hc' (s + 1) r = aCarry M w (M 11 w).toNatClampNeg D r) ∧ Fr [s + 1] hc hc' := by
  have b0 := hB.1.1
  have h9 := hB.1.2.1
  have hW := hB.1.2.2.2.2.2.1
  obtain ⟨kk, hk8, hk, hblow⟩ := hB.2.2.2.2.1 w hw
  rw [hk, nI_clamp (by omega)]
  obtain ⟨y, h1, h2, h3⟩ := lp_cnt (b := fX1_carry_2 f s (nI w)) (s := (hc, 0)) (Q := fun y => (∀ r, r < nR M → y (s + 1) r = aCarry M w kk D r) ∧ Fr [s + 1] hc y) (fun i q => q.2 = nI i ∧ (∀ r, r < nR M → q.1 (s + 1) r = aCarry M w i D r) ∧ Fr [s + 1] hc q.1) kk (by omega) (by
    rintro i ⟨h, k⟩ hi ⟨e1, e2, e3⟩
    obtain rfl : k = nI i := e1
    dsimp only at e2 e3
    obtain ⟨a, b, t, ha, hb, ht1, ht9, m12, m13, m14⟩ := hblow i hi
    have hC' : CF f M h := hC.kept (fun j hj => e3 j (by simp only [CFcells, List.mem_cons, List.not_mem_nil, or_false] at hj ⊢; omega))
    obtain ⟨g7, g8⟩ := hC'.2.2.2.1 w hw
    rw [hk] at g7
    obtain ⟨g8, g9, g10⟩ := g8 i (by rw [hk, nI_clamp (by omega)]; exact hi)
    refine Or.inl ⟨(up2 (up2 h (s + 1) a (h (s + 1) a - h (s + 1) a * M 14 (8 * w + i) / 10)) (s + 1) b (cap (upd (h (s + 1)) a (h (s + 1) a - h (s + 1) a * M 14 (8 * w + i) / 10) b + if M 4 b = 1 then h (s + 1) a * M 14 (8 * w + i) / 10 / 2 else h (s + 1) a * M 14 (8 * w + i) / 10)), nI i + 1), ?_, nI_1 i, fun r hr => ?_, (e3.up (by simp only [List.mem_cons, List.not_mem_nil, or_false, true_or, or_true])).up (by simp only [List.mem_cons, List.not_mem_nil, or_false, true_or, or_true])⟩
    · have q1 := nI_ge hi (by omega)
      have e8 : nI w * 8 + nI i = nI (8 * w + i) := by rw [show (8 : Int32) = nI 8 from rfl, nI_mul, nI_add, Nat.mul_comm]
      have u9 : ∀ v : Int32, up2 h (s + 1) a v (f + 9) = h (f + 9) := fun v => up2_n (by omega)
      have hC2 : ∀ v : Int32, CF f M (up2 h (s + 1) a v) := fun v => hC'.kept (fun j hj => up2_n (by simp only [CFcells, List.mem_cons, List.not_mem_nil, or_false] at hj; omega))
      simp only [fX1_carry_2, bnd_s, pw_s, rd_0, rd_1, rd_2, rd_3, rd_4, rd_5, rd_6, wr_0, wr_1, wr_2, wr_3, wr_4, wr_5, zb_0, zb_1, Nat.reduceLT, Nat.reducePow, rd_k (n := 5) (show w < 5 by omega), g7, if_neg q1, e8, rd_k (n := 40) (show 8 * w + i < 40 by omega), g8, g9, g10, m12, m13, rd_k (n := 9) (show a < 9 by omega), wr_k (n := 9) (show a < 9 by omega), u9, f_arrives (hC2 _) hb h9, f_lay (show b < 9 by omega), up2_s]
    · show up2 (up2 h (s + 1) a _) (s + 1) b _ (s + 1) r = aBlow M (8 * w + i) (aCarry M w i D) r
      rw [up2_s, up2_s]
      exact aBlow_cong m12 m13 (by omega) (by omega) ha hb e2 r hr) (by
    rintro ⟨h, k⟩ ⟨e1, e2, e3⟩
    obtain rfl : k = nI kk := e1
    dsimp only at e2 e3
    refine ⟨h, ?_, e2, e3⟩
    have f7 : h (f + 7) w = nI kk := by rw [e3 (f + 7) (by simp only [List.mem_cons, List.not_mem_nil, or_false]; omega), (hC.2.2.2.1 w hw).1, hk]
    simp only [fX1_carry_2, bnd_s, pw_s, rd_0, rd_1, rd_2, rd_3, rd_4, rd_5, rd_6, wr_0, wr_1, wr_2, wr_3, wr_4, wr_5, zb_0, zb_1, Nat.reduceLT, Nat.reducePow, rd_k (n := 5) (show w < 5 by omega), f7, Int32.le_refl, if_true]) ⟨rfl, hD, Fr.rf⟩
  exact ⟨y, by unfold fX1_carry; rw [h1, bnd_s], h2, h3⟩
theorem blowsM {M hm : ST} (hB : FB M) (hF : FM M hm) {D : Nat → Int32} (hD : ∀ r, r < nR M → hm 19 r = D r) {w : Nat} (hw : w < nW M) :
    ∃ hm', fX11_blows hm (nI w) = some hm' ∧ (∀ r, r < nR M → hm' 19 r = aCarry M w (M 11 w).toNatClampNeg D r) ∧ Fr [19] hm hm' := by
  have b0 := hB.1.1
  have h9 := hB.1.2.1
  have hW := hB.1.2.2.2.2.2.1
  obtain ⟨kk, hk8, hk, hblow⟩ := hB.2.2.2.2.1 w hw
  rw [hk, nI_clamp (by omega)]
  have w5 : ¬ nI w = 5 := by rw [show (5 : Int32) = nI 5 from rfl, nI_eq (by omega) (by omega)]; omega
  have e80 : 8 * nI w = nI (8 * w) := by rw [show (8 : Int32) = nI 8 from rfl, nI_mul]
  obtain ⟨y, h1, h2, h3⟩ := lp_cnt (b := fX11_blows_5 (nI w)) (s := (hm, 8 * nI w)) (Q := fun y => (∀ r, r < nR M → y 19 r = aCarry M w kk D r) ∧ Fr [19] hm y) (fun i q => q.2 = nI (8 * w + i) ∧ (∀ r, r < nR M → q.1 19 r = aCarry M w i D r) ∧ Fr [19] hm q.1) kk (by omega) (by
    rintro i ⟨h, k⟩ hi ⟨e1, e2, e3⟩
    obtain rfl : k = nI (8 * w + i) := e1
    dsimp only at e2 e3
    obtain ⟨a, b, t, ha, hb, ht1, ht9, m12, m13, m14⟩ := hblow i hi
    have g4 : h 4 = M 4 := (e3 4 (by decide)).trans (hF 4 (by decide))
    have g11 : h 11 w = nI kk := by rw [(e3 11 (by decide)).trans (hF 11 (by decide))]; exact hk
    have g12 : h 12 (8 * w + i) = nI a := by rw [(e3 12 (by decide)).trans (hF 12 (by decide))]; exact m12
    have g13 : h 13 (8 * w + i) = nI b := by rw [(e3 13 (by decide)).trans (hF 13 (by decide))]; exact m13
    have g14 : h 14 = M 14 := (e3 14 (by decide)).trans (hF 14 (by decide))
    refine Or.inl ⟨(up2 (up2 h 19 a (h 19 a - h 19 a * M 14 (8 * w + i) / 10)) 19 b (cap (upd (h 19) a (h 19 a - h 19 a * M 14 (8 * w + i) / 10) b + if M 4 b = 1 then h 19 a * M 14 (8 * w + i) / 10 / 2 else h 19 a * M 14 (8 * w + i) / 10)), nI (8 * w + i) + 1), ?_, nI_1 _, fun r hr => ?_, (e3.up (by simp only [List.mem_cons, List.not_mem_nil, or_false, true_or, or_true])).up (by simp only [List.mem_cons, List.not_mem_nil, or_false, true_or, or_true])⟩
    · have q1 : ¬ nI (8 * w + kk) ≤ nI (8 * w + i) := nI_ge (by omega) (by omega)
      have u13 : ∀ v : Int32, up2 h 19 a v 13 = h 13 := fun v => up2_n (by omega)
      have u4 : ∀ v : Int32, up2 h 19 a v 4 = h 4 := fun v => up2_n (by omega)
      by_cases hch : M 4 b = 1
      · simp only [fX11_blows_5, fX11_blows_91, bnd_s, pw_s, rd_0, rd_1, rd_2, rd_3, rd_4, rd_5, rd_6, wr_0, wr_1, wr_2, wr_3, wr_4, wr_5, zb_0, zb_1, Nat.reduceLT, Nat.reducePow, if_neg w5, rd_k (n := 10) (show w < 10 by omega), g11, e80, nI_add, if_neg q1, rd_k (n := 80) (show 8 * w + i < 80 by omega), g12, rd_k (n := 9) (show a < 9 by omega), g14, wr_k (n := 9) (show a < 9 by omega), u13, u4, g13, g4, rd_k (n := 18) (show b < 18 by omega), if_pos hch, f_lays (show b < 9 by omega), up2_s]
      · simp only [fX11_blows_5, fX11_blows_91, bnd_s, pw_s, rd_0, rd_1, rd_2, rd_3, rd_4, rd_5, rd_6, wr_0, wr_1, wr_2, wr_3, wr_4, wr_5, zb_0, zb_1, Nat.reduceLT, Nat.reducePow, if_neg w5, rd_k (n := 10) (show w < 10 by omega), g11, e80, nI_add, if_neg q1, rd_k (n := 80) (show 8 * w + i < 80 by omega), g12, rd_k (n := 9) (show a < 9 by omega), g14, wr_k (n := 9) (show a < 9 by omega), u13, u4, g13, g4, rd_k (n := 18) (show b < 18 by omega), if_neg hch, f_lays (show b < 9 by omega), up2_s]
    · show up2 (up2 h 19 a _) 19 b _ 19 r = aBlow M (8 * w + i) (aCarry M w i D) r
      rw [up2_s, up2_s]
      exact aBlow_cong m12 m13 (by omega) (by omega) ha hb e2 r hr) (by
    rintro ⟨h, k⟩ ⟨e1, e2, e3⟩
    obtain rfl : k = nI (8 * w + kk) := e1
    dsimp only at e2 e3
    refine ⟨h, ?_, e2, e3⟩
    have g11 : h 11 w = nI kk := by rw [(e3 11 (by decide)).trans (hF 11 (by decide))]; exact hk
    simp only [fX11_blows_5, bnd_s, pw_s, rd_0, rd_1, rd_2, rd_3, rd_4, rd_5, rd_6, wr_0, wr_1, wr_2, wr_3, wr_4, wr_5, zb_0, zb_1, Nat.reduceLT, Nat.reducePow, if_neg w5, rd_k (n := 10) (show w < 10 by omega), g11, e80, nI_add, Int32.le_refl, if_true]) ⟨by rw [e80]; rfl, hD, Fr.rf⟩
  exact ⟨y, by unfold fX11_blows fX11_blows_100; rw [h1, bnd_s], h2, h3⟩
theorem blowsM5 (hm : ST) : fX11_blows hm 5 = some hm := by
  unfold fX11_blows
  have : lp FU (fX11_blows_5 5) (hm, 8 * 5) = some hm := lp_r (n := 999999999) (by unfold fX11_blows_5; rw [if_pos rfl])
  rw [this, bnd_s]; rfl
