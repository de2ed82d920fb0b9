/-! ===== the rule's value ===== -/
theorem f_reckon (h : ST) (x a b : Int32) : fX11_reckon h x a b = some (rk x a b) := by
  unfold fX11_reckon rk fX11_reckon_103 fX11_reckon_102 fX11_reckon_89 fX11_reckon_78 fX11_reckon_67 fX11_reckon_117 fX11_reckon_112 fX11_reckon_103 fX11_reckon_117
  by_cases c1 : x = -26
  · rw [if_pos c1, if_pos c1]
    split
    · rfl
    · split <;> rfl
  rw [if_neg c1, if_neg c1]
  by_cases c2 : x = -25
  · rw [if_pos c2, if_pos c2]; split <;> rfl
  rw [if_neg c2, if_neg c2]
  by_cases c3 : x = -24
  · rw [if_pos c3, if_pos c3]; split <;> rfl
  rw [if_neg c3, if_neg c3]
  by_cases c4 : x = -23
  · rw [if_pos c4, if_pos c4]
    by_cases c : b = 0
    · rw [if_pos c, if_pos c]
    · rw [if_neg c, if_neg c, grd_p c]
  rw [if_neg c4, if_neg c4]
  by_cases c5 : x = -22
  · rw [if_pos c5, if_pos c5]
  rw [if_neg c5, if_neg c5]
  by_cases c6 : x = -21
  · rw [if_pos c6, if_pos c6]
  rw [if_neg c6, if_neg c6]
  by_cases c7 : x = -20
  · rw [if_pos c7, if_pos c7]
  rw [if_neg c7, if_neg c7]
  split
  · split <;> rfl
  · rfl
def jn (x a b : Int32) : Int32 :=
  if x = -14 then (if a = 0 then 0 else if b = 0 then 0 else 1) else
  if x = -12 then (if a = b then 1 else 0) else
  if x = -11 then (if b ≤ a then 0 else 1) else
  if x = -10 then (if b = 0 then 0 else a / b) else
  if x = -9 then a * b else
  if x = -8 then a - b else
  if x = -7 then a + b else
  (if a = 0 then (if b = 0 then 0 else 1) else 1)
theorem f_join (h : ST) (x a b : Int32) (hx : x ≠ -13) : fX5_join h x a b = some (jn x a b) := by
  unfold fX5_join jn fX5_join_107 fX5_join_106 fX5_join_93 fX5_join_82 fX5_join_71 fX5_join_121 fX5_join_116 fX5_join_107 fX5_join_121
  by_cases c1 : x = -14
  · rw [if_pos c1, if_pos c1]
    split
    · rfl
    · split <;> rfl
  rw [if_neg c1, if_neg c1, if_neg hx]
  by_cases c2 : x = -12
  · rw [if_pos c2, if_pos c2]; split <;> rfl
  rw [if_neg c2, if_neg c2]
  by_cases c3 : x = -11
  · rw [if_pos c3, if_pos c3]; split <;> rfl
  rw [if_neg c3, if_neg c3]
  by_cases c4 : x = -10
  · rw [if_pos c4, if_pos c4]
    by_cases c : b = 0
    · rw [if_pos c, if_pos c]
    · rw [if_neg c, if_neg c, grd_p c]
  rw [if_neg c4, if_neg c4]
  by_cases c5 : x = -9
  · rw [if_pos c5, if_pos c5]
  rw [if_neg c5, if_neg c5]
  by_cases c6 : x = -8
  · rw [if_pos c6, if_pos c6]
  rw [if_neg c6, if_neg c6]
  by_cases c7 : x = -7
  · rw [if_pos c7, if_pos c7]
  rw [if_neg c7, if_neg c7]
  split
  · split <;> rfl
  · rfl
theorem cmap_other {x : Int32} (h : ∀ k : Int32, k ∈ [-28, -26, -27, -20, -21, -22, -23, -24, -25] → x ≠ k) : cmap x = x := by
  unfold cmap
  rw [if_neg (h _ (by decide)), if_neg (h _ (by decide)), if_neg (h _ (by decide)), if_neg (h _ (by decide)), if_neg (h _ (by decide)), if_neg (h _ (by decide)), if_neg (h _ (by decide)), if_neg (h _ (by decide)), if_neg (h _ (by decide))]
theorem cmap_pos {x : Int32} (h : ¬ x ≤ -20) : cmap x = x := by
  refine cmap_other (fun k hk e => h ?_)
  subst e
  simp only [List.mem_cons, List.not_mem_nil, or_false] at hk
  rcases hk with rfl | rfl | rfl | rfl | rfl | rfl | rfl | rfl | rfl <;> decide
theorem cmap_neg {x : Int32} (h : x ≤ -20) : cmap x < -6 ∧ (cmap x = -13 ↔ x = -28) ∧ ∀ a b, x ≠ -28 → jn (cmap x) a b = rk x a b := by
  by_cases c0 : x = -28
  · subst c0; exact ⟨by decide, ⟨fun _ => rfl, fun _ => by decide⟩, fun _ _ h => absurd rfl h⟩
  by_cases c1 : x = -26
  · subst c1; exact ⟨by decide, ⟨fun h => absurd h (by decide), fun h => absurd h (by decide)⟩, fun _ _ _ => rfl⟩
  by_cases c2 : x = -27
  · subst c2; exact ⟨by decide, ⟨fun h => absurd h (by decide), fun h => absurd h (by decide)⟩, fun _ _ _ => rfl⟩
  by_cases c3 : x = -20
  · subst c3; exact ⟨by decide, ⟨fun h => absurd h (by decide), fun h => absurd h (by decide)⟩, fun _ _ _ => rfl⟩
  by_cases c4 : x = -21
  · subst c4; exact ⟨by decide, ⟨fun h => absurd h (by decide), fun h => absurd h (by decide)⟩, fun _ _ _ => rfl⟩
  by_cases c5 : x = -22
  · subst c5; exact ⟨by decide, ⟨fun h => absurd h (by decide), fun h => absurd h (by decide)⟩, fun _ _ _ => rfl⟩
  by_cases c6 : x = -23
  · subst c6; exact ⟨by decide, ⟨fun h => absurd h (by decide), fun h => absurd h (by decide)⟩, fun _ _ _ => rfl⟩
  by_cases c7 : x = -24
  · subst c7; exact ⟨by decide, ⟨fun h => absurd h (by decide), fun h => absurd h (by decide)⟩, fun _ _ _ => rfl⟩
  by_cases c8 : x = -25
  · subst c8; exact ⟨by decide, ⟨fun h => absurd h (by decide), fun h => absurd h (by decide)⟩, fun _ _ _ => rfl⟩
  have e : cmap x = x := cmap_other (fun k hk => by
    simp only [List.mem_cons, List.not_mem_nil, or_false] at hk
    rcases hk with rfl | rfl | rfl | rfl | rfl | rfl | rfl | rfl | rfl <;> assumption)
  have hlt : x.toInt ≤ -20 := by rw [Int32.le_iff_toInt_le] at h; exact h
  have hne : ∀ k : Int32, -20 < k.toInt → x ≠ k := fun k hk q => by subst q; omega
  refine ⟨by rw [e, Int32.lt_iff_toInt_lt]; show x.toInt < -6; omega, ⟨fun q => ?_, fun q => absurd q c0⟩, fun a b _ => ?_⟩
  · rw [e] at q; exact absurd q (hne _ (by decide))
  · rw [e]
    unfold jn rk
    rw [if_neg (hne _ (by decide)), if_neg (hne _ (by decide)), if_neg (hne _ (by decide)), if_neg (hne _ (by decide)), if_neg (hne _ (by decide)), if_neg (hne _ (by decide)), if_neg (hne _ (by decide)), if_neg c1, if_neg c8, if_neg c7, if_neg c6, if_neg c5, if_neg c4, if_neg c3]
/-- a row that holds a stack -/
def SKr (stk : Nat → Int32) : List Int32 → Prop
  | [] => True
  | a :: t => stk t.length = a ∧ SKr stk t
theorem SKr.up {stk : Nat → Int32} {k : Nat} {v : Int32} : ∀ {st : List Int32}, SKr stk st → st.length ≤ k → SKr (upd stk k v) st
  | [], _, _ => trivial
  | a :: t, h, hk => by
    simp only [List.length_cons] at hk
    exact ⟨by rw [upd_n (by omega)]; exact h.1, SKr.up h.2 (by omega)⟩
theorem rn_pre {M : ST} {vals : Nat → Int32} {z : Nat} {x : List Int32} (h : rn M vals z = some x) : ∀ d i, i + d = z → ∃ st, rn M vals i = some st := by
  intro d
  induction d generalizing z x with
  | zero => intro i hi; exact ⟨x, by rw [show i = z by omega]; exact h⟩
  | succ d ih =>
    intro i hi
    obtain ⟨y, rfl⟩ : ∃ y, z = y + 1 := ⟨z - 1, by omega⟩
    have h9 : (match rn M vals y with | none => none | some st => stepR vals (M 16 y) st) = some x := h
    cases e : rn M vals y with
    | none => rw [e] at h9; cases h9
    | some st => exact ih e i (by omega)
theorem stepR_len {vals : Nat → Int32} {x : Int32} {st st' : List Int32} (h : stepR vals x st = some st') (hl : st.length ≤ 40) : st'.length ≤ 40 := by
  unfold stepR at h
  by_cases c1 : x ≤ -20
  · rw [if_pos c1] at h
    by_cases c2 : x = -28
    · rw [if_pos c2] at h
      cases st with
      | nil => cases h
      | cons a t => cases h; simpa using hl
    · rw [if_neg c2] at h
      match st, h with
      | b :: a :: t, h => cases h; simp at hl ⊢; omega
  · rw [if_neg c1] at h
    by_cases c2 : st.length < 40
    · rw [if_pos c2] at h
      by_cases c3 : x < 0
      · rw [if_pos c3] at h
        by_cases c4 : -6 ≤ x
        · rw [if_pos c4] at h; cases h; simp; omega
        · rw [if_neg c4] at h; cases h
      · rw [if_neg c3] at h; cases h; simp; omega
    · rw [if_neg c2] at h; cases h
theorem rn_len {M : ST} {vals : Nat → Int32} : ∀ {z : Nat} {x : List Int32}, rn M vals z = some x → x.length ≤ 40
  | 0, x, h => by cases h; simp
  | z + 1, x, h => by
    have h9 : (match rn M vals z with | none => none | some st => stepR vals (M 16 z) st) = some x := h
    cases e : rn M vals z with
    | none => rw [e] at h9; cases h9
    | some st => rw [e] at h9; exact stepR_len h9 (rn_len e)
theorem nI_m1 (n : Nat) : nI (n + 1) + (-1) = nI n := by
  have := nI_pred n
  rw [Int32.sub_eq_add_neg] at this
  exact this
theorem val_in {x : Int32} (h1 : x < 0) (h2 : -6 ≤ x) : ∃ k, k < 6 ∧ -1 - x = nI k := by
  refine ⟨(-1 - x.toInt).toNat, ?_, ?_⟩
  · rw [Int32.lt_iff_toInt_lt] at h1; rw [Int32.le_iff_toInt_le] at h2
    have h1 : x.toInt < 0 := h1
    have h2 : -6 ≤ x.toInt := h2
    omega
  · rw [Int32.lt_iff_toInt_lt] at h1; rw [Int32.le_iff_toInt_le] at h2
    have h1 : x.toInt < 0 := h1
    have h2 : -6 ≤ x.toInt := h2
    apply Int32.toInt_inj.mp
    rw [Int32.toInt_sub, nI_toInt (by omega)]
    show Int.bmod (-1 - x.toInt) (2 ^ 32) = _
    rw [Int.bmod_eq_of_le (by omega) (by omega)]
    omega
/-- the reference's reckoning -/
theorem valueM {M hm : ST} (hZ : M 3 6 = nI (nZ M)) (hz7 : nZ M ≤ 700) (hF : FM M hm) {vals : Nat → Int32} (hv : ∀ k, k < 6 → hm 23 k = vals k) {v : Int32} (hr : rn M vals (nZ M) = some [v]) :
    ∃ hm', fX11_valueNow hm = some (v, hm') ∧ Fr [24] hm hm' := by
  obtain ⟨y, h1, h2, h3⟩ := lp_cnt (b := fX11_valueNow_4) (s := (hm, 0, 0)) (Q := fun y => Fr [24] hm y ∧ y 24 0 = v) (fun i q => q.2.2 = nI i ∧ ∃ st, rn M vals i = some st ∧ q.2.1 = nI st.length ∧ SKr (q.1 24) st ∧ Fr [24] hm q.1) (nZ M) (by omega) (by
    rintro i ⟨h, n, k⟩ hi ⟨e1, st, e2, e3, e4, e5⟩
    obtain rfl : k = nI i := e1
    obtain rfl : n = nI st.length := e3
    dsimp only at e4 e5
    have f3 : h 3 = M 3 := (e5 3 (by decide)).trans (hF 3 (by decide))
    have f16 : h 16 = M 16 := (e5 16 (by decide)).trans (hF 16 (by decide))
    have f23 : ∀ k, k < 6 → h 23 k = vals k := fun k hk => by rw [e5 23 (by decide)]; exact hv k hk
    have q1 := nI_ge hi (by omega)
    have hl := rn_len e2
    obtain ⟨st', e9⟩ := rn_pre hr (nZ M - (i + 1)) (i + 1) (by omega)
    have e8 : stepR vals (M 16 i) st = some st' := by
      have h9 : (match rn M vals i with | none => none | some st => stepR vals (M 16 i) st) = some st' := e9
      rw [e2] at h9; exact h9
    refine Or.inl ?_
    generalize hx : M 16 i = x at e8
    unfold stepR at e8
    by_cases c1 : x ≤ -20
    · rw [if_pos c1] at e8
      by_cases c2 : x = -28
      · rw [if_pos c2] at e8
        cases st with
        | nil => cases e8
        | cons a t =>
          cases e8
          obtain ⟨g1, g2⟩ := e4
          simp only [List.length_cons] at hl
          refine ⟨(up2 h 24 t.length (if a = 0 then 1 else 0), nI (t.length + 1), nI i + 1), ?_, nI_1 i, (if a = 0 then 1 else 0) :: t, e9, rfl, ⟨up2_ss h 24 _ _, ?_⟩, e5.up (by decide)⟩
          · by_cases c3 : a = 0
            · simp only [fX11_valueNow_4, fX11_valueNow_85, fX11_valueNow_118, bnd_s, pw_s, rd_0, rd_1, rd_2, rd_3, rd_4, rd_5, rd_6, wr_0, wr_1, wr_2, wr_3, wr_4, wr_5, zb_0, zb_1, Nat.reduceLT, Nat.reducePow, f3, hZ, if_neg q1, f16, rd_k (n := 1400) (show i < 1400 by omega), hx, if_pos c1, if_pos c2, List.length_cons, nI_pred, rd_k (n := 64) (show t.length < 64 by omega), wr_k (n := 64) (show t.length < 64 by omega), g1, if_pos c3]
            · simp only [fX11_valueNow_4, fX11_valueNow_85, fX11_valueNow_118, bnd_s, pw_s, rd_0, rd_1, rd_2, rd_3, rd_4, rd_5, rd_6, wr_0, wr_1, wr_2, wr_3, wr_4, wr_5, zb_0, zb_1, Nat.reduceLT, Nat.reducePow, f3, hZ, if_neg q1, f16, rd_k (n := 1400) (show i < 1400 by omega), hx, if_pos c1, if_pos c2, List.length_cons, nI_pred, rd_k (n := 64) (show t.length < 64 by omega), wr_k (n := 64) (show t.length < 64 by omega), g1, if_neg c3]
          · show SKr (up2 h 24 t.length _ 24) t
            rw [up2_s]; exact g2.up (Nat.le_refl _)
      · rw [if_neg c2] at e8
        match st, e8, e2, e4, hl with
        | b :: a :: t, e8, e2, e4, hl =>
          cases e8
          obtain ⟨g1, g2, g3⟩ := e4
          simp only [List.length_cons] at hl g1
          refine ⟨(up2 h 24 t.length (rk x a b), nI (t.length + 1), nI i + 1), ?_, nI_1 i, rk x a b :: t, e9, rfl, ⟨up2_ss h 24 _ _, ?_⟩, e5.up (by decide)⟩
          · simp only [fX11_valueNow_4, fX11_valueNow_118, bnd_s, pw_s, rd_0, rd_1, rd_2, rd_3, rd_4, rd_5, rd_6, wr_0, wr_1, wr_2, wr_3, wr_4, wr_5, zb_0, zb_1, Nat.reduceLT, Nat.reducePow, f3, hZ, if_neg q1, f16, rd_k (n := 1400) (show i < 1400 by omega), hx, if_pos c1, if_neg c2, List.length_cons, nI_m1, nI_pred, rd_k (n := 64) (show t.length < 64 by omega), rd_k (n := 64) (show t.length + 1 < 64 by omega), wr_k (n := 64) (show t.length < 64 by omega), g1, g2, f_reckon]
          · show SKr (up2 h 24 t.length _ 24) t
            rw [up2_s]; exact g3.up (Nat.le_refl _)
    · rw [if_neg c1] at e8
      by_cases c2 : st.length < 40
      · rw [if_pos c2] at e8
        by_cases c3 : x < 0
        · rw [if_pos c3] at e8
          by_cases c4 : -6 ≤ x
          · rw [if_pos c4] at e8
            obtain ⟨k, hk, ek⟩ := val_in c3 c4
            rw [ek, nI_clamp (by omega)] at e8
            cases e8
            refine ⟨(up2 h 24 st.length (vals k), nI st.length + 1, nI i + 1), ?_, nI_1 i, vals k :: st, e9, by rw [nI_1]; rfl, ⟨up2_ss h 24 _ _, ?_⟩, e5.up (by decide)⟩
            · simp only [fX11_valueNow_4, fX11_valueNow_49, fX11_valueNow_118, bnd_s, pw_s, rd_0, rd_1, rd_2, rd_3, rd_4, rd_5, rd_6, wr_0, wr_1, wr_2, wr_3, wr_4, wr_5, zb_0, zb_1, Nat.reduceLT, Nat.reducePow, f3, hZ, if_neg q1, f16, rd_k (n := 1400) (show i < 1400 by omega), hx, if_neg c1, if_pos c3, ek, rd_k (n := 6) hk, f23 k hk, wr_k (n := 64) (show st.length < 64 by omega)]
            · show SKr (up2 h 24 st.length _ 24) st
              rw [up2_s]; exact e4.up (Nat.le_refl _)
          · rw [if_neg c4] at e8; cases e8
        · rw [if_neg c3] at e8
          cases e8
          refine ⟨(up2 h 24 st.length x, nI st.length + 1, nI i + 1), ?_, nI_1 i, x :: st, e9, by rw [nI_1]; rfl, ⟨up2_ss h 24 _ _, ?_⟩, e5.up (by decide)⟩
          · simp only [fX11_valueNow_4, fX11_valueNow_49, fX11_valueNow_118, bnd_s, pw_s, rd_0, rd_1, rd_2, rd_3, rd_4, rd_5, rd_6, wr_0, wr_1, wr_2, wr_3, wr_4, wr_5, zb_0, zb_1, Nat.reduceLT, Nat.reducePow, f3, hZ, if_neg q1, f16, rd_k (n := 1400) (show i < 1400 by omega), hx, if_neg c1, if_neg c3, wr_k (n := 64) (show st.length < 64 by omega)]
          · show SKr (up2 h 24 st.length _ 24) st
            rw [up2_s]; exact e4.up (Nat.le_refl _)
      · rw [if_neg c2] at e8; cases e8) (by
    rintro ⟨h, n, k⟩ ⟨e1, st, e2, e3, e4, e5⟩
    obtain rfl : k = nI (nZ M) := e1
    dsimp only at e4 e5
    rw [hr] at e2; cases e2
    refine ⟨h, ?_, e5, e4.1⟩
    have f3 : h 3 = M 3 := (e5 3 (by decide)).trans (hF 3 (by decide))
    simp only [fX11_valueNow_4, bnd_s, pw_s, rd_0, rd_1, rd_2, rd_3, rd_4, rd_5, rd_6, wr_0, wr_1, wr_2, wr_3, wr_4, wr_5, zb_0, zb_1, Nat.reduceLT, Nat.reducePow, f3, hZ, Int32.le_refl, if_true]) ⟨rfl, [], rfl, rfl, trivial, Fr.rf⟩
  refine ⟨y, ?_, h2⟩
  unfold fX11_valueNow
  rw [h1]
  simp only [bnd_s, pw_s, rd_0, rd_1, rd_2, rd_3, rd_4, rd_5, rd_6, wr_0, wr_1, wr_2, wr_3, wr_4, wr_5, zb_0, zb_1, Nat.reduceLT, Nat.reducePow, h3]
/-- the class's -/
theorem amountC {f : Nat} (hf : f = 2 ∨ f = 20) {M hc : ST} (hZ : M 3 6 = nI (nZ M)) (hz7 : nZ M ≤ 700) (hC : CF f M hc) {vals : Nat → Int32} (hv : ∀ k, k < 6 → hc (f + 13) k = vals k) {v : Int32} (hr : rn M vals (nZ M) = some [v]) :
    ∃ hc', fX5_amount hc (f + 12) = some (v, hc') ∧ Fr [f + 15] hc hc' := by
  obtain ⟨y, h1, z, h0, h2, h3⟩ := lp_cnt (b := fX5_amount_4 (f + 12)) (s := (hc, 0, 0)) (Q := fun y => ∃ z, y = .inr (.inr (.inr z)) ∧ Fr [f + 15] hc z ∧ z (f + 15) 0 = v) (fun i q => q.2.2 = nI i ∧ ∃ st, rn M vals i = some st ∧ q.2.1 = nI st.length ∧ SKr (q.1 (f + 15)) st ∧ Fr [f + 15] hc q.1) (nZ M) (by omega) (by
    rintro i ⟨h, n, k⟩ hi ⟨e1, st, e2, e3, e4, e5⟩
    obtain rfl : k = nI i := e1
    obtain rfl : n = nI st.length := e3
    dsimp only at e4 e5
    have hC' : CF f M h := hC.kept (fun j hj => e5 j (by simp only [CFcells, List.mem_cons, List.not_mem_nil, or_false] at hj ⊢; omega))
    have f3 : h (f + 12) 1 = nI (nZ M) := hC'.1.2.2.2.2.2.2.trans hZ
    have f16 : h (f + 12 + 2) i = cmap (M 16 i) := hC'.2.2.2.2.1 i hi
    have f23 : ∀ k, k < 6 → h (f + 12 + 1) k = vals k := fun k hk => by rw [show f + 12 + 1 = f + 13 by omega, e5 (f + 13) (by simp only [List.mem_cons, List.not_mem_nil, or_false]; omega)]; exact hv k hk
    have q1 := nI_ge hi (by omega)
    have hl := rn_len e2
    obtain ⟨st', e9⟩ := rn_pre hr (nZ M - (i + 1)) (i + 1) (by omega)
    have e8 : stepR vals (M 16 i) st = some st' := by
      have h9 : (match rn M vals i with | none => none | some st => stepR vals (M 16 i) st) = some st' := e9
      rw [e2] at h9; exact h9
    refine Or.inl ?_
    generalize hx : M 16 i = x at e8 f16
    unfold stepR at e8
    by_cases c1 : x ≤ -20
    · rw [if_pos c1] at e8
      obtain ⟨n1, n2, n3⟩ := cmap_neg c1
      by_cases c2 : x = -28
      · rw [if_pos c2] at e8
        cases st with
        | nil => cases e8
        | cons a t =>
          cases e8
          obtain ⟨g1, g2⟩ := e4
          simp only [List.length_cons] at hl
          have p1 : (1 : Int32) ≤ nI (t.length + 1) := nI_le (a := 1) (by omega) (by omega)
          refine ⟨(up2 h (f + 15) t.length (if a = 0 then 1 else 0), nI (t.length + 1), nI i + 1), ?_, nI_1 i, (if a = 0 then 1 else 0) :: t, e9, rfl, ⟨up2_ss _ _ _ _, ?_⟩, e5.up (by simp only [List.mem_cons, List.not_mem_nil, or_false, true_or, or_true])⟩
          · by_cases c3 : a = 0
            · simp only [fX5_amount_4, fX5_amount_97, fX5_amount_137, bnd_s, pw_s, rd_0, rd_1, rd_2, rd_3, rd_4, rd_5, rd_6, wr_0, wr_1, wr_2, wr_3, wr_4, wr_5, zb_0, zb_1, Nat.reduceLT, Nat.reducePow, f3, if_neg q1, rd_k (n := 700) (show i < 700 by omega), f16, if_pos n1, if_pos (n2.mpr c2), if_pos p1, List.length_cons, nI_pred, rd_k (n := 40) (show t.length < 40 by omega), wr_k (n := 40) (show t.length < 40 by omega), g1, if_pos c3]
            · simp only [fX5_amount_4, fX5_amount_97, fX5_amount_137, bnd_s, pw_s, rd_0, rd_1, rd_2, rd_3, rd_4, rd_5, rd_6, wr_0, wr_1, wr_2, wr_3, wr_4, wr_5, zb_0, zb_1, Nat.reduceLT, Nat.reducePow, f3, if_neg q1, rd_k (n := 700) (show i < 700 by omega), f16, if_pos n1, if_pos (n2.mpr c2), if_pos p1, List.length_cons, nI_pred, rd_k (n := 40) (show t.length < 40 by omega), wr_k (n := 40) (show t.length < 40 by omega), g1, if_neg c3]
          · show SKr (up2 h (f + 15) t.length _ (f + 15)) t
            rw [up2_s]; exact g2.up (Nat.le_refl _)
      · rw [if_neg c2] at e8
        match st, e8, e2, e4, hl with
        | b :: a :: t, e8, e2, e4, hl =>
          cases e8
          obtain ⟨g1, g2, g3⟩ := e4
          simp only [List.length_cons] at hl g1
          have p1 : (2 : Int32) ≤ nI (t.length + 1 + 1) := nI_le (a := 2) (by omega) (by omega)
          refine ⟨(up2 h (f + 15) t.length (rk x a b), nI (t.length + 1), nI i + 1), ?_, nI_1 i, rk x a b :: t, e9, rfl, ⟨up2_ss _ _ _ _, ?_⟩, e5.up (by simp only [List.mem_cons, List.not_mem_nil, or_false, true_or, or_true])⟩
          · simp only [fX5_amount_4, fX5_amount_137, bnd_s, pw_s, rd_0, rd_1, rd_2, rd_3, rd_4, rd_5, rd_6, wr_0, wr_1, wr_2, wr_3, wr_4, wr_5, zb_0, zb_1, Nat.reduceLT, Nat.reducePow, f3, if_neg q1, rd_k (n := 700) (show i < 700 by omega), f16, if_pos n1, if_neg (fun q => c2 (n2.mp q)), if_pos p1, List.length_cons, nI_m1, nI_pred, rd_k (n := 40) (show t.length < 40 by omega), rd_k (n := 40) (show t.length + 1 < 40 by omega), wr_k (n := 40) (show t.length < 40 by omega), g1, g2, f_join h (cmap x) a b (fun q => c2 (n2.mp q)), n3 a b c2]
          · show SKr (up2 h (f + 15) t.length _ (f + 15)) t
            rw [up2_s]; exact g3.up (Nat.le_refl _)
    · rw [if_neg c1] at e8
      rw [cmap_pos c1] at f16
      by_cases c2 : st.length < 40
      · rw [if_pos c2] at e8
        have p1 : nI st.length < 40 := nI_lt (b := 40) c2 (by omega)
        by_cases c3 : x < 0
        · rw [if_pos c3] at e8
          by_cases c4 : -6 ≤ x
          · rw [if_pos c4] at e8
            have p2 : ¬ x < -6 := Int32.not_lt.mpr c4
            obtain ⟨k, hk, ek⟩ := val_in c3 c4
            rw [ek, nI_clamp (by omega)] at e8
            cases e8
            refine ⟨(up2 h (f + 15) st.length (vals k), nI st.length + 1, nI i + 1), ?_, nI_1 i, vals k :: st, e9, by rw [nI_1]; rfl, ⟨up2_ss _ _ _ _, ?_⟩, e5.up (by simp only [List.mem_cons, List.not_mem_nil, or_false, true_or, or_true])⟩
            · simp only [fX5_amount_4, fX5_amount_54, fX5_amount_137, bnd_s, pw_s, rd_0, rd_1, rd_2, rd_3, rd_4, rd_5, rd_6, wr_0, wr_1, wr_2, wr_3, wr_4, wr_5, zb_0, zb_1, Nat.reduceLT, Nat.reducePow, f3, if_neg q1, rd_k (n := 700) (show i < 700 by omega), f16, if_neg p2, if_pos p1, if_pos c3, ek, rd_k (n := 6) hk, f23 k hk, wr_k (n := 40) c2]
            · show SKr (up2 h (f + 15) st.length _ (f + 15)) st
              rw [up2_s]; exact e4.up (Nat.le_refl _)
          · rw [if_neg c4] at e8; cases e8
        · rw [if_neg c3] at e8
          cases e8
          have p2 : ¬ x < -6 := fun q => c3 (Int32.lt_trans q (by decide))
          refine ⟨(up2 h (f + 15) st.length x, nI st.length + 1, nI i + 1), ?_, nI_1 i, x :: st, e9, by rw [nI_1]; rfl, ⟨up2_ss _ _ _ _, ?_⟩, e5.up (by simp only [List.mem_cons, List.not_mem_nil, or_false, true_or, or_true])⟩
          · simp only [fX5_amount_4, fX5_amount_54, fX5_amount_137, bnd_s, pw_s, rd_0, rd_1, rd_2, rd_3, rd_4, rd_5, rd_6, wr_0, wr_1, wr_2, wr_3, wr_4, wr_5, zb_0, zb_1, Nat.reduceLT, Nat.reducePow, f3, if_neg q1, rd_k (n := 700) (show i < 700 by omega), f16, if_neg p2, if_pos p1, if_neg c3, wr_k (n := 40) c2]
          · show SKr (up2 h (f + 15) st.length _ (f + 15)) st
            rw [up2_s]; exact e4.up (Nat.le_refl _)
      · rw [if_neg c2] at e8; cases e8) (by
    rintro ⟨h, n, k⟩ ⟨e1, st, e2, e3, e4, e5⟩
    obtain rfl : k = nI (nZ M) := e1
    dsimp only at e4 e5
    rw [hr] at e2; cases e2
    refine ⟨.inr (.inr (.inr h)), ?_, h, rfl, e5, e4.1⟩
    have f3 : h (f + 12) 1 = nI (nZ M) := by rw [e5 (f + 12) (by simp only [List.mem_cons, List.not_mem_nil, or_false]; omega), hC.1.2.2.2.2.2.2, hZ]
    simp only [fX5_amount_4, f3, Int32.le_refl, if_true]) ⟨rfl, [], rfl, rfl, trivial, Fr.rf⟩
  refine ⟨z, ?_, h2⟩
  unfold fX5_amount
  rw [h1, h0]
  have h3 : z (f + 12 + 3) 0 = v := h3
  simp only [bnd_s, pw_s, rd_0, rd_1, rd_2, rd_3, rd_4, rd_5, rd_6, wr_0, wr_1, wr_2, wr_3, wr_4, wr_5, zb_0, zb_1, Nat.reduceLT, Nat.reducePow, sm, h3]
