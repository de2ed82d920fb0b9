/-! ===== what stays within bounds ===== -/
def DB (n : Nat) (D : Nat → Int32) : Prop := ∀ r, r < n → ∃ v, v ≤ 9999 ∧ D r = nI v
theorem cap_k {a : Nat} (h : a < 2 ^ 31) : cap (nI a) = nI (min 9999 a) := by
  unfold cap
  by_cases c : a < 9999
  · rw [if_pos (show nI a < 9999 from nI_lt (b := 9999) c (by decide)), Nat.min_eq_right (by omega)]
  · rw [if_neg (show ¬ nI a < 9999 from nI_nlt (b := 9999) (by omega) h), Nat.min_eq_left (by omega)]; rfl
theorem DB.lay {n r : Nat} {D : Nat → Int32} (h : DB n D) (hr : r < n) {v : Nat} (hv : v ≤ 100000) : DB n (layD D r (nI v)) := by
  intro q hq
  unfold layD
  by_cases c : q = r
  · subst c
    obtain ⟨x, hx, e⟩ := h q hq
    rw [upd_s, e, nI_add, cap_k (by omega)]
    exact ⟨_, Nat.min_le_left _ _, rfl⟩
  · rw [upd_n c]; exact h q hq
theorem comes_k {M : ST} (hB : FB M) {r : Nat} (hr : r < nR M) : ∃ v, v ≤ 198 ∧ comes M r = nI v := by
  obtain ⟨-, -, ⟨v, hv, e⟩⟩ := hB.2.2.1 r hr
  unfold comes
  by_cases c : M 4 r = 2
  · rw [if_pos c, e]; exact ⟨2 * v, by omega, nI_mul 2 v⟩
  · rw [if_neg c]; exact ⟨v, by omega, e⟩
theorem DB.settle {M : ST} (hB : FB M) {D : Nat → Int32} (h : DB (nR M) D) : ∀ i, i ≤ nR M → DB (nR M) (aSettle M i D)
  | 0, _ => h
  | i + 1, hi => by
    obtain ⟨v, hv, e⟩ := comes_k hB (show i < nR M by omega)
    show DB (nR M) (layD (aSettle M i D) i (comes M i))
    rw [e]
    exact (DB.settle hB h i (by omega)).lay (by omega) (by omega)
abbrev updD (f : Nat → Int32) (k : Nat) (v : Int32) : Nat → Int32 := upd f k v
theorem DB.up1 {n r : Nat} {D : Nat → Int32} (h : DB n D) {v : Nat} (hv : v ≤ 9999) : DB n (upd D r (nI v)) := by
  intro q hq
  by_cases c : q = r
  · subst c; exact ⟨v, hv, upd_s _ _ _⟩
  · rw [upd_n c]; exact h q hq
theorem DB.blow {M : ST} (hB : FB M) {D : Nat → Int32} (h : DB (nR M) D) {w j : Nat} (hw : w < nW M) (hj : j < (M 11 w).toNatClampNeg) : DB (nR M) (aBlow M (8 * w + j) D) := by
  have h9 := hB.1.2.1
  obtain ⟨kk, hk8, hk, hblow⟩ := hB.2.2.2.2.1 w hw
  rw [hk, nI_clamp (by omega)] at hj
  obtain ⟨a, b, t, ha, hb, ht1, ht9, m12, m13, m14⟩ := hblow j hj
  obtain ⟨x, hx, e⟩ := h a ha
  unfold aBlow
  have xt : x * t / 10 ≤ x := by
    have : x * t ≤ x * 9 := Nat.mul_le_mul_left x ht9
    omega
  have xt2 : x * t ≤ 9999 * 9 := Nat.mul_le_mul hx ht9
  have em : D a * M 14 (8 * w + j) / 10 = nI (x * t / 10) := by rw [e, m14, nI_mul, show (10 : Int32) = nI 10 from rfl, pk_div (by omega) (by decide) (by decide)]
  simp only [m12, m13, nI_clamp (show a < 2 ^ 31 by omega), nI_clamp (show b < 2 ^ 31 by omega)]
  rw [em, e, nI_sub xt]
  have hu : DB (nR M) (updD D a (nI (x - x * t / 10))) := h.up1 (by omega)
  by_cases c : M 4 b = 1
  · rw [if_pos c, show (2 : Int32) = nI 2 from rfl, pk_div (by omega) (by decide) (by decide)]
    exact hu.lay hb (by omega)
  · rw [if_neg c]; exact hu.lay hb (by omega)
theorem DB.carry {M : ST} (hB : FB M) {D : Nat → Int32} (h : DB (nR M) D) {w : Nat} (hw : w < nW M) : ∀ i, i ≤ (M 11 w).toNatClampNeg → DB (nR M) (aCarry M w i D)
  | 0, _ => h
  | i + 1, hi => (DB.carry hB h hw i (by omega)).blow hB hw (by omega)
theorem DB.wind {M : ST} (hB : FB M) {D : Nat → Int32} (h : DB (nR M) D) {w : Int32} (hw : okW M w) : DB (nR M) (aWind M w D) := by
  unfold aWind
  rcases hw with rfl | ⟨k, hk, rfl⟩
  · rw [if_pos rfl]; exact h
  · have hW := hB.1.2.2.2.2.2.1
    rw [if_neg (by rw [show (5 : Int32) = nI 5 from rfl, nI_eq (by omega) (by omega)]; omega), nI_clamp (by omega)]
    exact h.carry hB hk _ (Nat.le_refl _)
theorem tv_k {M : ST} {A : AS} {r x : Nat} (hx : x ≤ 9999) (e : aD A r = nI x) : ∃ t, t ≤ x ∧ tv M A r = nI t := by
  unfold tv
  by_cases c : M 3 6 = 0
  · rw [if_pos c, e, show (10 : Int32) = nI 10 from rfl, pk_div (by omega) (by decide) (by decide)]
    exact ⟨x / 10, by omega, rfl⟩
  · rw [if_neg c, e]
    generalize ruleV M (valsA M A r) = v
    unfold clampT
    by_cases c1 : v < nI x
    · rw [if_pos c1]
      by_cases c2 : 0 < v
      · rw [if_pos c2]
        obtain ⟨j, hj, rfl⟩ := nI_of (x := v) (fun q => absurd (Int32.lt_trans c2 q) (Int32.lt_irrefl))
        exact ⟨j, by rw [nI_ltI hj (by omega)] at c1; omega, rfl⟩
      · rw [if_neg c2]; exact ⟨0, by omega, rfl⟩
    · rw [if_neg c1]
      by_cases c2 : 0 < nI x
      · rw [if_pos c2]; exact ⟨x, Nat.le_refl _, rfl⟩
      · rw [if_neg c2]; exact ⟨0, by omega, rfl⟩
theorem sumT_k {M : ST} {A : AS} (h : DB (nR M) (aD A)) : ∀ i, i ≤ nR M → ∃ t, t ≤ 9999 * i ∧ sumT M A i = nI t
  | 0, _ => ⟨0, by omega, rfl⟩
  | i + 1, hi => by
    obtain ⟨t, ht, e⟩ := sumT_k h i (by omega)
    obtain ⟨x, hx, e2⟩ := h i (by omega)
    obtain ⟨u, hu, e3⟩ := tv_k (M := M) hx e2
    exact ⟨t + u, by omega, by show sumT M A i + tv M A i = _; rw [e, e3, nI_add]⟩
/-- a state's bounds: y its day, at most K -/
def AB (M : ST) (K : Nat) (A : AS) : Prop := DB (nR M) (aD A) ∧ (∀ i, i < nC M → okW M (aC A i)) ∧ ∃ y t, y ≤ K ∧ t ≤ 89991 * y ∧ aY A = nI y ∧ aT A = nI t
theorem AB.pass {M : ST} (hB : FB M) {K : Nat} {A : AS} (h : AB M K A) {w e : Int32} (hw : okW M w) : AB M (K + 1) (aPass M A w e) := by
  have h9 := hB.1.2.1
  obtain ⟨h1, h2, y, t, hy, ht, ey, et⟩ := h
  have hd : DB (nR M) (aWind M w (aSettle M (nR M) (aD A))) := (h1.settle hB _ (Nat.le_refl _)).wind hB hw
  by_cases c : (aY A + 1) - (aY A + 1) / e * e = 0
  · rw [aPass_y c]
    obtain ⟨u, hu, eu⟩ := sumT_k (A := setD A (aWind M w (aSettle M (nR M) (aD A)))) hd (nR M) (Nat.le_refl _)
    refine ⟨fun r hr => ?_, h2, y + 1, t + u, by omega, by omega, by show aY A + 1 = _; rw [ey, nI_1], by show aT A + sumT M _ (nR M) = _; rw [et, eu, nI_add]⟩
    obtain ⟨x, hx, ex⟩ := hd r hr
    obtain ⟨q, hq, eq⟩ := tv_k (M := M) (A := setD A (aWind M w (aSettle M (nR M) (aD A)))) hx ex
    refine ⟨x - q, by omega, ?_⟩
    show (if r < nR M then _ - tv M _ r else _) = _
    rw [if_pos hr, eq]
    show aWind M w (aSettle M (nR M) (aD A)) r - nI q = _
    rw [ex, nI_sub hq]
  · rw [aPass_n c]
    exact ⟨hd, h2, y + 1, t, by omega, by omega, by show aY A + 1 = _; rw [ey, nI_1], et⟩
theorem AB.okD {M : ST} (hB : FB M) {K : Nat} {A : AS} (h : AB M K A) {d : Nat} (hd : d < 2 ^ 31) : okW M (aWindOf M A (nI d)) := by
  have hC := hB.1.2.2.2.2.2.2.2
  rw [wof_k hB.1.2.2.2.2.2.2.1 hC hd]
  by_cases c : nC M = 0
  · rw [if_pos c]; exact Or.inl rfl
  · rw [if_neg c]; exact h.2.1 _ (Nat.mod_lt d (by omega))
theorem okE4 {M : ST} (hB : FB M) : okE (M 3 4) := hB.2.1.1
theorem AB.day {M : ST} (hB : FB M) {K : Nat} (hK : K < 2000000) {A : AS} (h : AB M K A) : AB M (K + 1) (aDay M A) := by
  obtain ⟨h1, h2, y, t, hy, ht, ey, et⟩ := id h
  unfold aDay
  rw [ey]
  exact h.pass hB (h.okD hB (by omega))
theorem AB.days {M : ST} (hB : FB M) {K : Nat} {A : AS} (h : AB M K A) : ∀ n, K + n < 2000000 → AB M (K + n) (aDays M n A)
  | 0, _ => h
  | n + 1, hn => (h.days hB n (by omega)).day hB (by omega)
theorem dayM {M hm : ST} (hB : FB M) (hF : FM M hm) {K : Nat} (hK : K < 2000000) {A : AS} (hA : AB M K A) (hR : RM1 M A hm) : ∃ hm', fX11_aDay hm = some hm' ∧ RM1 M (aDay M A) hm' ∧ Fr [0, 19, 20, 23, 24, 25] hm hm' ∧ Fs 0 [33, 34] hm hm' := by
  obtain ⟨h1, h2, y, t, hy, ht, ey, et⟩ := id hA
  have ey' : hm 0 33 = nI y := hR.1.1.trans ey
  have hw := hA.okD hB (show y < 2 ^ 31 by omega)
  obtain ⟨z, z1, z2, z3, z4⟩ := passM hB hF hR hw (okE4 hB)
  refine ⟨z, ?_, ?_, z3, z4⟩
  · have f3 : hm 3 = M 3 := hF 3 (by decide)
    simp only [fX11_aDay, bnd_s, pw_s, rd_0, rd_1, rd_2, rd_3, rd_4, rd_5, rd_6, wr_0, wr_1, wr_2, wr_3, wr_4, wr_5, zb_0, zb_1, Nat.reduceLT, Nat.reducePow, ey', f_windM hB hF hR (show y < 2 ^ 31 by omega), f3, z1]
  · unfold aDay; rw [ey]; exact z2
theorem dayC {f s : Nat} (hf : f = 2 ∨ f = 20) (hs : s = 43 ∨ s = 386) {M hc : ST} (hB : FB M) (hC : CF f M hc) {K : Nat} (hK : K < 2000000) {A : AS} (hA : AB M K A) (hR : RC s M A hc) : ∃ hc', fX1_windOf hc f s (hc s 0) = some (aWindOf M A (aY A)) ∧ fX1_pass hc f s (aWindOf M A (aY A)) (hc f 15) = some hc' ∧ RC s M (aDay M A) hc' ∧ Fr [s, s + 1, s + 2, f + 13, f + 15] hc hc' := by
  obtain ⟨h1, h2, y, t, hy, ht, ey, et⟩ := id hA
  have ey' : hc s 0 = nI y := hR.1.1.trans ey
  have hw := hA.okD hB (show y < 2 ^ 31 by omega)
  have e15 : hc f 15 = M 3 4 := hC.1.2.2.2.2.1
  rw [← ey] at hw
  obtain ⟨z, z1, z2, z3⟩ := passC hf hs hB hC hR hw (okE4 hB)
  refine ⟨z, ?_, by rw [e15]; exact z1, z2, z3⟩
  rw [ey', ey]; exact f_windC hB hC hR (by omega)
theorem goOnM {M hm : ST} (hB : FB M) (hF : FM M hm) {K : Nat} {A : AS} (hA : AB M K A) (hR : RM1 M A hm) {n : Nat} (hK : K + n < 2000000) (hn : n < 100000) : ∃ hm', fX11_goOn hm (nI n) = some hm' ∧ RM1 M (aDays M n A) hm' ∧ Fr [0, 19, 20, 23, 24, 25] hm hm' ∧ Fs 0 [33, 34] hm hm' := by
  obtain ⟨y, h1, h2, h3, h4⟩ := lp_cnt (b := fX11_goOn_2 (nI n)) (s := (hm, 0)) (Q := fun y => RM1 M (aDays M n A) y ∧ Fr [0, 19, 20, 23, 24, 25] hm y ∧ Fs 0 [33, 34] hm y) (fun i q => q.2 = nI i ∧ RM1 M (aDays M i A) q.1 ∧ Fr [0, 19, 20, 23, 24, 25] hm q.1 ∧ Fs 0 [33, 34] hm q.1) n (by omega) (by
    rintro i ⟨h, k⟩ hi ⟨e1, e2, e3, e4⟩
    obtain rfl : k = nI i := e1
    dsimp only at e2 e3 e4
    have hF' : FM M h := fun j hj => (e3 j (by simp only [FMl, List.mem_cons, List.not_mem_nil, or_false] at hj ⊢; omega)).trans (hF j hj)
    obtain ⟨z, z1, z2, z3, z4⟩ := dayM hB hF' (show K + i < 2000000 by omega) (hA.days hB i (by omega)) e2
    refine Or.inl ⟨(z, nI i + 1), ?_, nI_1 i, z2, e3.tr z3, e4.tr z4⟩
    simp only [fX11_goOn_2, bnd_s, pw_s, rd_0, rd_1, rd_2, rd_3, rd_4, rd_5, rd_6, wr_0, wr_1, wr_2, wr_3, wr_4, wr_5, zb_0, zb_1, Nat.reduceLT, Nat.reducePow, if_neg (nI_ge hi (show n < 2 ^ 31 by omega)), z1]) (by
    rintro ⟨h, k⟩ ⟨e1, e2, e3, e4⟩
    obtain rfl : k = nI n := e1
    exact ⟨h, by simp only [fX11_goOn_2, Int32.le_refl, if_true], e2, e3, e4⟩) ⟨rfl, hR, Fr.rf, Fs.rf⟩
  exact ⟨y, by unfold fX11_goOn; rw [h1, bnd_s], h2, h3, h4⟩
theorem manyC {f s : Nat} (hf : f = 2 ∨ f = 20) (hs : s = 43 ∨ s = 386) {M hc : ST} (hB : FB M) (hC : CF f M hc) {K : Nat} {A : AS} (hA : AB M K A) (hR : RC s M A hc) {n : Nat} (hK : K + n < 2000000) (hn : n < 100000) : ∃ hc', fX1_passMany hc f s (nI n) = some hc' ∧ RC s M (aDays M n A) hc' ∧ Fr [s, s + 1, s + 2, f + 13, f + 15] hc hc' := by
  obtain ⟨y, h1, h2, h3⟩ := lp_cnt (b := fX1_passMany_2 f s (nI n)) (s := (hc, 0)) (Q := fun y => RC s M (aDays M n A) y ∧ Fr [s, s + 1, s + 2, f + 13, f + 15] hc y) (fun i q => q.2 = nI i ∧ RC s M (aDays M i A) q.1 ∧ Fr [s, s + 1, s + 2, f + 13, f + 15] hc q.1) n (by omega) (by
    rintro i ⟨h, k⟩ hi ⟨e1, e2, e3⟩
    obtain rfl : k = nI i := e1
    dsimp only at e2 e3
    have hC' : CF f M h := hC.kept (fun j hj => e3 j (by simp only [CFcells, List.mem_cons, List.not_mem_nil, or_false] at hj ⊢; omega))
    obtain ⟨z, z0, z1, z2, z3⟩ := dayC hf hs hB hC' (show K + i < 2000000 by omega) (hA.days hB i (by omega)) e2
    refine Or.inl ⟨(z, nI i + 1), ?_, nI_1 i, z2, e3.tr z3⟩
    simp only [fX1_passMany_2, bnd_s, pw_s, rd_0, rd_1, rd_2, rd_3, rd_4, rd_5, rd_6, wr_0, wr_1, wr_2, wr_3, wr_4, wr_5, zb_0, zb_1, Nat.reduceLT, Nat.reducePow, if_neg (nI_ge hi (show n < 2 ^ 31 by omega)), z0, z1]) (by
    rintro ⟨h, k⟩ ⟨e1, e2, e3⟩
    obtain rfl : k = nI n := e1
    exact ⟨h, by simp only [fX1_passMany_2, Int32.le_refl, if_true], e2, e3⟩) ⟨rfl, hR, Fr.rf⟩
  exact ⟨y, by unfold fX1_passMany; rw [h1, bnd_s], h2, h3⟩
