/-! ===== what is told and what stands, apart from where it lies ===== -/
/-- dust, brought, calendar, day, taken, stolen -/
abbrev AS : Type := (Nat → Int32) × (Nat → Int32) × (Nat → Int32) × Int32 × Int32 × Int32
abbrev aD (A : AS) : Nat → Int32 := A.1
abbrev aB (A : AS) : Nat → Int32 := A.2.1
abbrev aC (A : AS) : Nat → Int32 := A.2.2.1
abbrev aY (A : AS) : Int32 := A.2.2.2.1
abbrev aT (A : AS) : Int32 := A.2.2.2.2.1
abbrev aS (A : AS) : Int32 := A.2.2.2.2.2
def nR (M : ST) : Nat := (M 3 0).toNatClampNeg
def nDo (M : ST) : Nat := (M 3 1).toNatClampNeg
def nW (M : ST) : Nat := (M 3 2).toNatClampNeg
def nC (M : ST) : Nat := (M 3 3).toNatClampNeg
def nZ (M : ST) : Nat := (M 3 6).toNatClampNeg
def cap (x : Int32) : Int32 := if x < 9999 then x else 9999
def comes (M : ST) (r : Nat) : Int32 := if M 4 r = 2 then 2 * M 7 r else M 7 r
def layD (D : Nat → Int32) (r : Nat) (v : Int32) : Nat → Int32 := upd D r (cap (D r + v))
def aSettle (M : ST) : Nat → (Nat → Int32) → Nat → Int32
  | 0, D => D
  | n + 1, D => layD (aSettle M n D) n (comes M n)
def aBlow (M : ST) (k : Nat) (D : Nat → Int32) : Nat → Int32 :=
  let a := (M 12 k).toNatClampNeg
  let b := (M 13 k).toNatClampNeg
  let much := D a * M 14 k / 10
  layD (upd D a (D a - much)) b (if M 4 b = 1 then much / 2 else much)
def aCarry (M : ST) (w : Nat) : Nat → (Nat → Int32) → Nat → Int32
  | 0, D => D
  | i + 1, D => aBlow M (8 * w + i) (aCarry M w i D)
def aWind (M : ST) (w : Int32) (D : Nat → Int32) : Nat → Int32 := if w = 5 then D else aCarry M w.toNatClampNeg (M 11 w.toNatClampNeg).toNatClampNeg D
/-- the rule: operators as the reference numbers them -/
def rk (x a b : Int32) : Int32 :=
  if x = -26 then (if a = 0 then 0 else if b = 0 then 0 else 1) else
  if x = -25 then (if a = b then 1 else 0) else
  if x = -24 then (if b ≤ a then 0 else 1) else
  if x = -23 then (if b = 0 then 0 else a / b) else
  if x = -22 then a * b else
  if x = -21 then a - b else
  if x = -20 then a + b else
  (if a = 0 then (if b = 0 then 0 else 1) else 1)
def stepR (vals : Nat → Int32) (x : Int32) (st : List Int32) : Option (List Int32) :=
  if x ≤ -20 then
    (if x = -28 then (match st with
      | [] => none
      | a :: t => some ((if a = 0 then 1 else 0) :: t))
    else (match st with
      | b :: a :: t => some (rk x a b :: t)
      | _ => none))
  else if st.length < 40 then
    (if x < 0 then (if -6 ≤ x then some (vals (-1 - x).toNatClampNeg :: st) else none) else some (x :: st))
  else none
def rn (M : ST) (vals : Nat → Int32) : Nat → Option (List Int32)
  | 0 => some []
  | i + 1 => match rn M vals i with
    | none => none
    | some st => stepR vals (M 16 i) st
def ruleV (M : ST) (vals : Nat → Int32) : Int32 := match rn M vals (nZ M) with
  | some (v :: _) => v
  | _ => 0
/-- how many rooms of the first n an owner has -/
def cntO (M : ST) (o : Int32) : Nat → Nat
  | 0 => 0
  | n + 1 => cntO M o n + if M 5 n = o then 1 else 0
def valsA (M : ST) (A : AS) (r : Nat) (k : Nat) : Int32 := match k with
  | 0 => aD A r
  | 1 => M 4 r
  | 2 => M 5 r
  | 3 => aY A
  | 4 => nI (cntO M (M 5 r) (nR M))
  | _ => aB A r
def clampT (d v : Int32) : Int32 := if 0 < (if v < d then v else d) then (if v < d then v else d) else 0
def tv (M : ST) (A : AS) (r : Nat) : Int32 := if M 3 6 = 0 then aD A r / 10 else clampT (aD A r) (ruleV M (valsA M A r))
def sumT (M : ST) (A : AS) : Nat → Int32
  | 0 => 0
  | n + 1 => sumT M A n + tv M A n
/-- after i rooms of the church's round -/
def aChurch (M : ST) (A : AS) (i : Nat) : AS := (fun r => if r < i then aD A r - tv M A r else aD A r, fun r => if r < i then 0 else aB A r, aC A, aY A, aT A + sumT M A i, aS A)
def aTithed (M : ST) (A : AS) (e : Int32) : AS := if (aY A + 1) - (aY A + 1) / e * e = 0 then aChurch M A (nR M) else A
def setD (A : AS) (D : Nat → Int32) : AS := (D, A.2)
def setY (A : AS) (y : Int32) : AS := (aD A, aB A, aC A, y, aT A, aS A)
def aPass (M : ST) (A : AS) (w e : Int32) : AS :=
  let A1 := setD A (aWind M w (aSettle M (nR M) (aD A)))
  let A2 := aTithed M A1 e
  setY A2 (aY A2 + 1)
def aWindOf (M : ST) (A : AS) (d : Int32) : Int32 := if M 3 3 = 0 then 5 else aC A (d - d / M 3 3 * M 3 3).toNatClampNeg
def aDay (M : ST) (A : AS) : AS := aPass M A (aWindOf M A (aY A)) (M 3 4)
def aDays (M : ST) : Nat → AS → AS
  | 0, A => A
  | n + 1, A => aDay M (aDays M n A)
/-- the reference's words -/
def CS (M : ST) : Prop := (∀ i, i < 3 → M 1 i = nI (1 + i)) ∧ ∀ i, i < 6 → M 2 i = nI (12 + i)
/-- what a told parish keeps to -/
def FB (M : ST) : Prop :=
  (M 3 0 = nI (nR M) ∧ nR M ≤ 9 ∧ M 3 1 = nI (nDo M) ∧ nDo M ≤ 14 ∧ M 3 2 = nI (nW M) ∧ nW M ≤ 5 ∧ M 3 3 = nI (nC M) ∧ nC M ≤ 10) ∧
  ((∃ e, 1 ≤ e ∧ e ≤ 30 ∧ M 3 4 = nI e) ∧ (∃ q, q ≤ 999 ∧ M 3 5 = nI q) ∧ M 3 6 = nI (nZ M) ∧ nZ M ≤ 700) ∧
  (∀ r, r < nR M → (M 4 r = 0 ∨ M 4 r = 1 ∨ M 4 r = 2) ∧ (∃ o, o < 6 ∧ M 5 r = nI o) ∧ (∃ v, v ≤ 99 ∧ M 7 r = nI v)) ∧
  (∀ i, i < nDo M → ∃ a b t, a < nR M ∧ b < nR M ∧ a ≠ b ∧ 1 ≤ t ∧ t ≤ 9 ∧ M 8 i = nI a ∧ M 9 i = nI b ∧ M 10 i = nI t) ∧
  (∀ w, w < nW M → ∃ k, k ≤ 8 ∧ M 11 w = nI k ∧ ∀ j, j < k → ∃ a b t, a < nR M ∧ b < nR M ∧ 1 ≤ t ∧ t ≤ 9 ∧ M 12 (8 * w + j) = nI a ∧ M 13 (8 * w + j) = nI b ∧ M 14 (8 * w + j) = nI t) ∧
  ((nZ M = 0 ∨ ∀ vals, ∃ v, rn M vals (nZ M) = some [v]) ∧ CS M)
/-- the class's number of an operator or a value -/
def cmap (x : Int32) : Int32 := if x = -28 then -13 else if x = -26 then -14 else if x = -27 then -15 else if x = -20 then -7 else if x = -21 then -8 else if x = -22 then -9 else if x = -23 then -10 else if x = -24 then -11 else if x = -25 then -12 else x
/-- the class's Facts at the cell f are what M tells -/
def CF (f : Nat) (M hc : ST) : Prop :=
  (hc f 0 = M 3 0 ∧ hc f 5 = M 3 1 ∧ hc f 8 = M 3 2 ∧ hc f 13 = M 3 3 ∧ hc f 15 = M 3 4 ∧ hc f 16 = M 3 5 ∧ hc (f + 12) 1 = M 3 6) ∧
  (∀ r, r < nR M → hc (f + 1) r = M 4 r ∧ hc (f + 2) r = M 5 r ∧ hc (f + 4) r = M 7 r) ∧
  (∀ i, i < nDo M → hc (f + 5) i = M 8 i ∧ hc (f + 6) i = M 9 i) ∧
  (∀ w, w < nW M → hc (f + 7) w = M 11 w ∧ ∀ j, j < (M 11 w).toNatClampNeg → hc (f + 8) (8 * w + j) = M 12 (8 * w + j) ∧ hc (f + 9) (8 * w + j) = M 13 (8 * w + j) ∧ hc (f + 10) (8 * w + j) = M 14 (8 * w + j)) ∧
  (∀ i, i < nZ M → hc (f + 14) i = cmap (M 16 i)) ∧
  (∀ o, o < 6 → hc (f + 17) o = nI (cntO M (nI o) (nR M)))
def CFcells (f : Nat) : List Nat := [f, f + 1, f + 2, f + 4, f + 5, f + 6, f + 7, f + 8, f + 9, f + 10, f + 12, f + 14, f + 17]
theorem CF.kept {f : Nat} {M hc hc' : ST} (h : CF f M hc) (e : ∀ i, i ∈ CFcells f → hc' i = hc i) : CF f M hc' := by
  unfold CF at h ⊢
  rw [e f (by simp [CFcells]), e (f + 1) (by simp [CFcells]), e (f + 2) (by simp [CFcells]), e (f + 4) (by simp [CFcells]), e (f + 5) (by simp [CFcells]), e (f + 6) (by simp [CFcells]), e (f + 7) (by simp [CFcells]), e (f + 8) (by simp [CFcells]), e (f + 9) (by simp [CFcells]), e (f + 10) (by simp [CFcells]), e (f + 12) (by simp [CFcells]), e (f + 14) (by simp [CFcells]), e (f + 17) (by simp [CFcells])]
  exact h
/-- the reference's own rows -/
def FMl : List Nat := [1, 2, 3, 4, 5, 7, 8, 9, 10, 11, 12, 13, 14, 16]
def FM (M hm : ST) : Prop := ∀ i, i ∈ FMl → hm i = M i
/-- a State of the class at the cell s; the reference's present one -/
def RC (s : Nat) (M : ST) (A : AS) (hc : ST) : Prop := (hc s 0 = aY A ∧ hc s 1 = aT A ∧ hc s 2 = aS A) ∧ (∀ r, r < nR M → hc (s + 1) r = aD A r ∧ hc (s + 2) r = aB A r) ∧ ∀ i, i < nC M → hc (s + 3) i = aC A i
def RM1 (M : ST) (A : AS) (hm : ST) : Prop := (hm 0 33 = aY A ∧ hm 0 34 = aT A ∧ hm 0 35 = aS A) ∧ (∀ r, r < nR M → hm 19 r = aD A r ∧ hm 20 r = aB A r) ∧ ∀ i, i < nC M → hm 21 i = aC A i
theorem RC.kept {s : Nat} {M hc hc' : ST} {A : AS} (h : RC s M A hc) (e0 : hc' s = hc s) (e1 : hc' (s + 1) = hc (s + 1)) (e2 : hc' (s + 2) = hc (s + 2)) (e3 : hc' (s + 3) = hc (s + 3)) : RC s M A hc' := by
  unfold RC; rw [e0, e1, e2, e3]; exact h
theorem cap_def (x : Int32) : (if x < 9999 then x else 9999) = cap x := rfl
theorem nI_lit (n : Nat) : (OfNat.ofNat n : Int32) = nI n := rfl
/-! settling -/
theorem comesM {M hm : ST} (hF : FM M hm) {r : Nat} : comes hm r = comes M r := by unfold comes; rw [hF 4 (by decide), hF 7 (by decide)]
theorem f_comesTo {f : Nat} {M hc : ST} (hC : CF f M hc) {r : Nat} (hr : r < nR M) (h9 : nR M ≤ 9) : fX2_comesTo hc f (nI r) = some (comes M r) := by
  unfold fX2_comesTo fX2_comesTo_27 comes
  rw [rd_k (by omega), bnd_s, rd_k (by omega), bnd_s, (hC.2.1 r hr).1, (hC.2.1 r hr).2.2]
  by_cases h : M 4 r = 2
  · rw [if_pos h, if_pos h]
  · rw [if_neg h, if_neg h]; rfl
theorem f_lay {hc : ST} {o r : Nat} {v : Int32} (hr : r < 9) : fX8_lay hc o (nI r) v = some (up2 hc (o + 1) r (cap (hc (o + 1) r + v))) := by
  unfold fX8_lay
  rw [rd_k hr, bnd_s, wr_k hr, bnd_s]; rfl
theorem f_lays {hm : ST} {r : Nat} {v : Int32} (hr : r < 9) : fX11_lays hm (nI r) v = some (up2 hm 19 r (cap (hm 19 r + v))) := by
  unfold fX11_lays
  rw [rd_k hr, bnd_s, wr_k hr, bnd_s]; rfl
theorem settleM {M hm : ST} (hB : FB M) (hF : FM M hm) {D : Nat → Int32} (hD : ∀ r, r < nR M → hm 19 r = D r) :
    ∃ hm', fX11_settle hm = some hm' ∧ (∀ r, r < nR M → hm' 19 r = aSettle M (nR M) D r) ∧ Fr [19] hm hm' := by
  obtain ⟨⟨b0, b1, -⟩, -⟩ := hB
  have h9 := b1
  unfold fX11_settle
  obtain ⟨y, h1, h2, h3⟩ := lp_cnt (b := fX11_settle_2) (s := (hm, 0)) (Q := fun y => (∀ r, r < nR M → y 19 r = aSettle M (nR M) D r) ∧ Fr [19] hm y) (fun i q => q.2 = nI i ∧ (∀ r, r < nR M → q.1 19 r = aSettle M i D r) ∧ Fr [19] hm q.1) (nR M) (by omega) (by
    rintro i ⟨h, k⟩ hi ⟨e1, e2, e3⟩
    obtain rfl : k = nI i := e1
    dsimp only at e2 e3
    refine Or.inl ⟨(up2 h 19 i (cap (h 19 i + comes M i)), nI i + 1), ?_, nI_1 i, fun r hr => ?_, e3.up (by decide)⟩
    · have f3 : h 3 = M 3 := (e3 3 (by decide)).trans (hF 3 (by decide))
      have f4 : h 4 = M 4 := (e3 4 (by decide)).trans (hF 4 (by decide))
      have f7 : h 7 = M 7 := (e3 7 (by decide)).trans (hF 7 (by decide))
      have q1 := nI_ge hi (by omega)
      unfold comes
      by_cases hk : M 4 i = 2
      · simp only [fX11_settle_2, fX11_settle_41, bnd_s, f3, f4, f7, b0, rd_k (n := 18) (show i < 18 by omega), bnd_s, pw_s, rd_0, rd_1, rd_2, rd_3, rd_4, rd_5, rd_6, wr_0, wr_1, wr_2, wr_3, wr_4, wr_5, zb_0, zb_1, Nat.reduceLT, Nat.reducePow, if_neg q1, if_pos hk, f_lays (show i < 9 by omega)]
      · simp only [fX11_settle_2, fX11_settle_41, bnd_s, f3, f4, f7, b0, rd_k (n := 18) (show i < 18 by omega), bnd_s, pw_s, rd_0, rd_1, rd_2, rd_3, rd_4, rd_5, rd_6, wr_0, wr_1, wr_2, wr_3, wr_4, wr_5, zb_0, zb_1, Nat.reduceLT, Nat.reducePow, if_neg q1, if_neg hk, f_lays (show i < 9 by omega)]
    · show up2 h 19 i _ 19 r = layD (aSettle M i D) i (comes M i) r
      unfold layD
      rw [up2_s]
      by_cases hri : r = i
      · subst hri
        rw [upd_s, upd_s, e2 r hr]
      · rw [upd_n hri, upd_n hri]; exact e2 r hr) (by
    rintro ⟨h, k⟩ ⟨e1, e2, e3⟩
    obtain rfl : k = nI (nR M) := e1
    dsimp only at e2 e3
    refine ⟨h, ?_, e2, e3⟩
    have f3 : h 3 = M 3 := (e3 3 (by decide)).trans (hF 3 (by decide))
    simp only [fX11_settle_2, bnd_s, f3, b0, bnd_s, pw_s, rd_0, rd_1, rd_2, rd_3, rd_4, rd_5, rd_6, wr_0, wr_1, wr_2, wr_3, wr_4, wr_5, zb_0, zb_1, Nat.reduceLT, Nat.reducePow, Int32.le_refl, if_true]) ⟨rfl, hD, Fr.rf⟩
  exact ⟨y, by rw [h1, bnd_s], h2, h3⟩
