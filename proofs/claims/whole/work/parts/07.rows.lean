/-! ===== rows of V: an instruction each ===== -/
/-- reading and writing a row of n places -/
def rd (n : Nat) (f : Nat → Int32) (i : Int32) : Option Int32 := if ¬ (i < 0 ∨ n ≤ i.toNatClampNeg) then some (f i.toNatClampNeg) else none
def wr (n : Nat) (h : ST) (o : Nat) (i x : Int32) : Option ST := if ¬ (i < 0 ∨ n ≤ i.toNatClampNeg) then some (up2 h o i.toNatClampNeg x) else none
def pw (h : ST) (o k : Nat) (x : Int32) : Option ST := some (up2 h o k x)
/-- a reference that changes: the cell's number, if it is of the kind -/
def rf (KD : Nat → Nat × Nat) (n ci : Nat) (v : Int32) : Option Nat := if v.toNatClampNeg < n ∧ KD v.toNatClampNeg = (ci, 0) then some v.toNatClampNeg else none
theorem rf_in {KD : Nat → Nat × Nat} {n ci f : Nat} {v : Int32} (h : rf KD n ci v = some f) : f < n ∧ KD f = (ci, 0) ∧ v.toNatClampNeg = f := by
  unfold rf at h
  by_cases hc : v.toNatClampNeg < n ∧ KD v.toNatClampNeg = (ci, 0)
  · rw [if_pos hc] at h; cases h; exact ⟨hc.1, hc.2, rfl⟩
  · rw [if_neg hc] at h; cases h
/-- a truth value -/
def zb (v : Int32) : Option Int32 := if v = 0 ∨ v = 1 then some v else none
theorem zb_in {v x : Int32} (h : zb v = some x) : x = v ∧ narrow .boolean (.int v) = .int v := by
  unfold zb at h
  by_cases hc : v = 0 ∨ v = 1
  · rw [if_pos hc] at h; cases h
    rcases hc with rfl | rfl <;> exact ⟨rfl, rfl⟩
  · rw [if_neg hc] at h; cases h
def bnd {α β : Type} (x : Option α) (f : α → Option β) : Option β := match x with
  | none => none
  | some a => f a
theorem bnd_some {α β : Type} {x : Option α} {f : α → Option β} {y : β} (h : bnd x f = some y) : ∃ a, x = some a ∧ f a = some y := by
  cases x with
  | none => cases h
  | some a => exact ⟨a, rfl, h⟩
theorem ite_t {α : Type} {c : Prop} [Decidable c] {a b r : α} (h : (if c then a else b) = r) (hc : c) : a = r := by rw [if_pos hc] at h; exact h
theorem ite_f {α : Type} {c : Prop} [Decidable c] {a b r : α} (h : (if c then a else b) = r) (hc : ¬ c) : b = r := by rw [if_neg hc] at h; exact h
theorem grd_t {α : Type} {c : Prop} [Decidable c] {a r : α} (h : (if c then some a else none) = some r) : c ∧ some a = some r := by
  by_cases hc : c
  · rw [if_pos hc] at h; exact ⟨hc, h⟩
  · rw [if_neg hc] at h; cases h
/-- a guard -/
def grd {α : Type} (c : Prop) [Decidable c] (x : Option α) : Option α := if c then x else none
theorem grd_some {α : Type} {c : Prop} [Decidable c] {x : Option α} {y : α} (h : grd c x = some y) : c ∧ x = some y := by
  unfold grd at h
  by_cases hc : c
  · rw [if_pos hc] at h; exact ⟨hc, h⟩
  · rw [if_neg hc] at h; cases h
theorem rd_in {n : Nat} {f : Nat → Int32} {i x : Int32} (h : rd n f i = some x) : vp_in i n ∧ x = f i.toNatClampNeg := by
  unfold rd at h
  by_cases hc : ¬ (i < 0 ∨ n ≤ i.toNatClampNeg)
  · rw [if_pos hc] at h; exact ⟨hc, (Option.some.inj h).symm⟩
  · rw [if_neg hc] at h; cases h
theorem wr_in {n : Nat} {h h' : ST} {o : Nat} {i x : Int32} (e : wr n h o i x = some h') : vp_in i n ∧ h' = up2 h o i.toNatClampNeg x := by
  unfold wr at e
  by_cases hc : ¬ (i < 0 ∨ n ≤ i.toNatClampNeg)
  · rw [if_pos hc] at e; exact ⟨hc, (Option.some.inj e).symm⟩
  · rw [if_neg hc] at e; cases e
/-- loops -/
def lp {σ ρ : Type} : Nat → (σ → Option (σ ⊕ ρ)) → σ → Option ρ
  | 0, _, _ => none
  | n + 1, b, s => match b s with
    | none => none
    | some (.inl s') => lp n b s'
    | some (.inr r) => some r
theorem lp_ind {σ ρ : Type} {b : σ → Option (σ ⊕ ρ)} {P : σ → Prop} {x : ρ} (step : ∀ s y, b s = some y → (∀ s', y = .inl s' → P s') → (∀ x', y = .inr x' → x' = x) → P s) : ∀ n s, lp n b s = some x → P s
  | 0, s, h => by cases h
  | n + 1, s, h => by
    have h0 : (match b s with | none => none | some (.inl s') => lp n b s' | some (.inr r) => some r) = some x := h
    cases hb : b s with
    | none => rw [hb] at h0; cases h0
    | some y =>
      rw [hb] at h0
      refine step s y hb (fun s' e => ?_) (fun x' e => ?_)
      · subst e; exact lp_ind step n s' h0
      · subst e; exact Option.some.inj h0
def FU : Nat := 1000000000
section VQ
variable {p : Program} {l : Launch} {e : Env} {D1 K1 : Nat} {s : State} {m : MethodId} {args : Array Value} {below : List Frame} {meth : Method} {c : Code} {Q : State → Prop} {KD : Nat → Nat × Nat} {n : Nat} {g : GE} {B nL k : Nat} {h : ST} {pc : Nat} {lv : List (Nat × Value)} {st : List Value} {cc : ByteArray} {own : String}
theorem v_ifl (F : Fx p s m args meth c cc nL own n g B) {idx ci f o : Nat} {v : Value} (fl : FLK own idx ci f) (hdg : decode cc pc = .ok (.getfield idx, 3)) (ho : o < n) (hk0 : KD o = (ci, 0)) (hv : fval g true (FT ci f) o (h o f) = v)
    (kk : V p l e D1 K1 s m args below meth c Q KD n g B nL k h (pc + 3) lv (v :: st)) : V p l e D1 K1 s m args below meth c Q KD n g B nL k h pc lv (.ref (gA g o) :: st) := by
  intro ls H locs hl hw hs
  have hk : (KD o).1 = ci := by rw [hk0]
  obtain ⟨q, hq, hf, hnf, hci, hlk, hly⟩ := fl
  obtain ⟨cell, q1, q2, q3, q4⟩ := (hw.1 o ho).1 (by rw [hk]; exact hci)
  rw [hk] at q2 q4
  obtain ⟨hS, hfc, kC, hkC, hkind⟩ := F.2.2.2.2.2.1.1 ci q hq
  obtain ⟨cf, kf, fi, fd, hi, hsl⟩ := hS f hf
  refine W.getf F.1 F.2.1 F.2.2.2.1 (F.w hlk) hi (u_facts hfc hkC (u_lays F.2.2.2.2.1 hly hf) hi).1 q1 (by rw [q3]; exact fun h => by cases h) (v := v) ?_ rfl rfl hdg (kk ls H locs hl hw hs)
  rw [hsl, q4 f (by rw [hnf]; exact hf)]
  exact congrArg some hv
theorem v_pfl (F : Fx p s m args meth c cc nL own n g B) {idx ci f o : Nat} {v : Value} {ty : FieldType} {x : Int32} (fl : FLK own idx ci f) (pl : PLK ci f ty) (hdg : decode cc pc = .ok (.putfield idx, 3)) (ho : o < n) (hk0 : KD o = (ci, 0)) (hv : fval g true (FT ci f) o x = v) (hn : narrow ty v = v) (hfit : fits ty v = true) {h' : ST} (hr : pw h o f x = some h')
    (kk : V p l e D1 K1 s m args below meth c Q KD n g B nL k h' (pc + 3) lv st) : V p l e D1 K1 s m args below meth c Q KD n g B nL k h pc lv (v :: .ref (gA g o) :: st) := by
  intro ls H locs hl hw hs
  have hk : (KD o).1 = ci := by rw [hk0]
  obtain ⟨q, hq, hf, hnf, hci, hlk, hly⟩ := fl
  obtain ⟨q', tf, hq', hfin, htf, hty, hnm⟩ := pl
  cases hr
  cases Option.some.inj (hq.symm.trans hq')
  obtain ⟨cell, q1, q2, q3, q4⟩ := (hw.1 o ho).1 (by rw [hk]; exact hci)
  rw [hk] at q2 q4
  have hKK := F.2.2.2.2.2.1.1 ci q hq
  obtain ⟨hS, hfc, kC, hkC, hkind⟩ := hKK
  have hap : ∀ x y, x < q.2.2 → y < q.2.2 → x ≠ y → (gI g ci) x ≠ (gI g ci) y := by
    intro x y hx hy hne
    obtain ⟨_, _, _, fa, hia, ea⟩ := hS x hx
    obtain ⟨_, _, _, fb, hib, eb⟩ := hS y hy
    rw [← ea, ← eb]
    refine u_apart (u_lays F.2.2.2.2.1 hly hx) (u_lays F.2.2.2.2.1 hly hy) hia hib ?_
    rw [(State.fieldFound?_type hia (hty x hx)).1, (State.fieldFound?_type hib (hty y hy)).1]
    exact hnm x hx y hy hne
  obtain ⟨cf, kf, fi, fd, hi, hsl⟩ := hS f hf
  have hlay := F.w (hly _ (u_in_lay hf))
  unfold u_lay at hlay
  rw [if_neg (by rw [hfin]; decide)] at hlay
  have hst := (u_facts hfc hkC (u_lays F.2.2.2.2.1 hly hf) hi).1
  have h6 := u_store hfc hkC hkind hlay hi (by rw [← htf]; exact hty f hf) hn hfit
  refine W.putK F.1 F.2.1 (f := fd) ⟨F.2.2.2.1, F.w hlk, ⟨_, _, _, hi⟩, hst⟩ (by rw [q2]; exact h6) q1 q3 (by rw [hsl]; exact k2_hasslot (q4 f (by rw [hnf]; exact hf))) rfl rfl hdg fun H' e1 e2 e3 => ?_
  rw [hsl] at e1 ⊢
  refine kk ls H' _ hl (hw.put ho (fun i hi => up2_n hi) e3 ⟨fun _ => ?_, fun h9 => absurd h9 (by rw [hk]; omega)⟩) (hs.put ho e2 e3)
  rw [hk, hnf]
  rw [hnf] at q4
  refine t_OB.to (V := updV (fun k => fval g (zT o k) (FT ci k) o (h o k)) f v) ⟨_, e1, q2, q3, t_set q4 hap hf v⟩ (fun j _ => ?_)
  rw [up2_s]
  by_cases hj : j = f
  · subst hj
    simp only [updV, upd, if_pos]
    exact hv.symm
  · simp only [updV, upd, if_neg hj]
theorem v_iald (F : Fx p s m args meth c cc nL own n g B) {o len : Nat} {i x : Int32} (hdg : decode cc pc = .ok (.iaload, 1)) (ho : o < n) (hk : KD o = (20, len)) (hr : rd len (h o) i = some x)
    (kk : V p l e D1 K1 s m args below meth c Q KD n g B nL k h (pc + 1) lv (.int x :: st)) : V p l e D1 K1 s m args below meth c Q KD n g B nL k h pc lv (.int i :: .ref (gA g o) :: st) := by
  intro ls H locs hl hw hs
  obtain ⟨hin, rfl⟩ := rd_in hr
  have hlt : i.toNatClampNeg < len := Nat.not_le.mp fun q => hin (Or.inr q)
  have hc := (hw.1 o ho).2 (by rw [hk]; show 20 ≤ 20; decide)
  rw [hk] at hc
  exact W.iald (v := .int (h o i.toNatClampNeg)) F.1 F.2.1 hc ((F.2.2.2.2.2.1.2.1 20 (by decide) (by decide)).1 len _) (fun q => by cases q) (by show ¬ (i < 0 ∨ (arrV _ _ _).slots.size ≤ _); rw [arrV_size]; exact hin) (by show (arrV _ _ _).slots[_]? = _; rw [arrV_read _ _ hlt]; rfl) rfl rfl hdg (kk ls H locs hl hw hs)
theorem v_iast (F : Fx p s m args meth c cc nL own n g B) {o len : Nat} {i x : Int32} {h' : ST} (hdg : decode cc pc = .ok (.iastore, 1)) (ho : o < n) (hk : KD o = (20, len)) (hr : wr len h o i x = some h')
    (kk : V p l e D1 K1 s m args below meth c Q KD n g B nL k h' (pc + 1) lv st) : V p l e D1 K1 s m args below meth c Q KD n g B nL k h pc lv (.int x :: .int i :: .ref (gA g o) :: st) := by
  intro ls H locs hl hw hs
  obtain ⟨hin, rfl⟩ := wr_in hr
  have hc := (hw.1 o ho).2 (by rw [hk]; show 20 ≤ 20; decide)
  rw [hk] at hc
  refine W.iast F.1 F.2.1 hc ((F.2.2.2.2.2.1.2.1 20 (by decide) (by decide)).1 len _) (fun q => by cases q) (by show ¬ (i < 0 ∨ (arrV _ _ _).slots.size ≤ _); rw [arrV_size]; exact hin) rfl rfl hdg fun H1 e1 z oq => ?_
  refine kk ls H1 _ hl (hw.put ho (fun j hj => up2_n hj) oq ⟨fun h9 => absurd h9 (by rw [hk]; show ¬ 20 < 20; decide), fun _ => ?_⟩) (hs.put ho z oq)
  rw [hk, e1, arrV_store, up2_s]
  congr 2
  funext j
  by_cases hj : j = i.toNatClampNeg
  · subst hj; simp [updV, upd, aval]
  · simp only [updV, upd, if_neg hj]
theorem v_bald (F : Fx p s m args meth c cc nL own n g B) {o len : Nat} {i x : Int32} (hdg : decode cc pc = .ok (.baload, 1)) (ho : o < n) (hk : KD o = (21, len)) (hr : rd len (h o) i = some x)
    (kk : V p l e D1 K1 s m args below meth c Q KD n g B nL k h (pc + 1) lv (.int x :: st)) : V p l e D1 K1 s m args below meth c Q KD n g B nL k h pc lv (.int i :: .ref (gA g o) :: st) := by
  intro ls H locs hl hw hs
  obtain ⟨hin, rfl⟩ := rd_in hr
  have hlt : i.toNatClampNeg < len := Nat.not_le.mp fun q => hin (Or.inr q)
  have hc := (hw.1 o ho).2 (by rw [hk]; show 20 ≤ 21; decide)
  rw [hk] at hc
  exact W.bald (v := .int (h o i.toNatClampNeg)) F.1 F.2.1 hc ((F.2.2.2.2.2.1.2.1 21 (by decide) (by decide)).1 len _) (fun q => by cases q) (by show ¬ (i < 0 ∨ (arrV _ _ _).slots.size ≤ _); rw [arrV_size]; exact hin) (by show (arrV _ _ _).slots[_]? = _; rw [arrV_read _ _ hlt]; rfl) rfl rfl hdg (kk ls H locs hl hw hs)
theorem v_bast (F : Fx p s m args meth c cc nL own n g B) {o len : Nat} {i x : Int32} {h' : ST} (hdg : decode cc pc = .ok (.bastore, 1)) (ho : o < n) (hk : KD o = (21, len)) (hr : wr len h o i x.toInt8.toInt32 = some h')
    (kk : V p l e D1 K1 s m args below meth c Q KD n g B nL k h' (pc + 1) lv st) : V p l e D1 K1 s m args below meth c Q KD n g B nL k h pc lv (.int x :: .int i :: .ref (gA g o) :: st) := by
  intro ls H locs hl hw hs
  obtain ⟨hin, rfl⟩ := wr_in hr
  have hc := (hw.1 o ho).2 (by rw [hk]; show 20 ≤ 21; decide)
  rw [hk] at hc
  refine W.bast F.1 F.2.1 hc ((F.2.2.2.2.2.1.2.1 21 (by decide) (by decide)).1 len _) (fun q => by cases q) (by show ¬ (i < 0 ∨ (arrV _ _ _).slots.size ≤ _); rw [arrV_size]; exact hin) rfl rfl hdg fun H1 e1 z oq => ?_
  refine kk ls H1 _ hl (hw.put ho (fun j hj => up2_n hj) oq ⟨fun h9 => absurd h9 (by rw [hk]; show ¬ 21 < 20; decide), fun _ => ?_⟩) (hs.put ho z oq)
  rw [hk, e1, arrV_store, up2_s]
  congr 2
  funext j
  by_cases hj : j = i.toNatClampNeg
  · subst hj; simp only [updV, upd, aval, if_pos]; rfl
  · simp only [updV, upd, if_neg hj]
theorem v_aald (F : Fx p s m args meth c cc nL own n g B) {o len kd : Nat} {i : Int32} {v : Value} (hdg : decode cc pc = .ok (.aaload, 1)) (ho : o < n) (hk : KD o = (kd, len)) (h23 : 23 ≤ kd) (h25 : kd < 25) (hin : vp_in i len) (hv : aval g true kd o i.toNatClampNeg (h o i.toNatClampNeg) = v)
    (kk : V p l e D1 K1 s m args below meth c Q KD n g B nL k h (pc + 1) lv (v :: st)) : V p l e D1 K1 s m args below meth c Q KD n g B nL k h pc lv (.int i :: .ref (gA g o) :: st) := by
  intro ls H locs hl hw hs
  have hlt : i.toNatClampNeg < len := Nat.not_le.mp fun q => hin (Or.inr q)
  have hc := (hw.1 o ho).2 (by rw [hk]; show 20 ≤ kd; omega)
  rw [hk] at hc
  have hty : (tyA kd).isReference = true := by
    rcases (show kd = 23 ∨ kd = 24 by omega) with rfl | rfl <;> rfl
  exact W.aald (v := v) F.1 F.2.1 hc ((F.2.2.2.2.2.1.2.1 kd (by omega) h25).1 len _) hty (fun q => by cases q) (by show ¬ (i < 0 ∨ (arrV _ _ _).slots.size ≤ _); rw [arrV_size]; exact hin) (by show (arrV _ _ _).slots[_]? = _; rw [arrV_read _ _ hlt]; exact congrArg some hv) rfl rfl hdg (kk ls H locs hl hw hs)
theorem v_alen (F : Fx p s m args meth c cc nL own n g B) {o len kd : Nat} {v : Int32} (hdg : decode cc pc = .ok (.arraylength, 1)) (ho : o < n) (hk : KD o = (kd, len)) (h20 : 20 ≤ kd) (h25 : kd < 25) (hv : Int32.ofNat len = v)
    (kk : V p l e D1 K1 s m args below meth c Q KD n g B nL k h (pc + 1) lv (.int v :: st)) : V p l e D1 K1 s m args below meth c Q KD n g B nL k h pc lv (.ref (gA g o) :: st) := by
  intro ls H locs hl hw hs
  have hc := (hw.1 o ho).2 (by rw [hk]; exact h20)
  rw [hk] at hc
  exact W.alen (n := v) F.1 F.2.1 hc ((F.2.2.2.2.2.1.2.1 kd (by omega) h25).1 len _) (by rw [arrV_size]; exact hv) rfl rfl hdg (kk ls H locs hl hw hs)
theorem v_mmax (F : Fx p s m args meth c cc nL own n g B) {idx : Nat} {x y : Int32} (hlk : Cond.methodLink own idx Lib.Math.max.name ∈ TBG) (hw1 : Cond.static Lib.Math.max.name ∈ TBG ∧ Cond.initialized "java/lang/Math" ∈ TBG ∧ Cond.code Lib.Math.max.name Lib.Math.max.code 2 (some .int) ∈ TBG) (hdg : decode cc pc = .ok (.invokestatic idx, 3)) (hD : 1 ≤ D1) (hW : (st.map fun v => v.category).sum ≤ 8) (hkk : k ≤ K1)
    (kk : V p l e D1 K1 s m args below meth c Q KD n g B nL k h (pc + 3) lv (.int (if x < y then y else x) :: st)) : V p l e D1 K1 s m args below meth c Q KD n g B nL k h pc lv (.int y :: .int x :: st) := by
  intro ls H locs hl hw hs
  exact va_mmax F.1 F.2.1 (by rw [hl.1]; exact F.2.2.1) F.2.2.2.1 (F.w hlk) (F.w hw1.1) (F.w hw1.2.1) (F.w hw1.2.2) hD (by show _ + 13 ≤ 200 * D1; omega) hkk (by show 6 * k ≤ 6 * K1; omega) hdg (kk ls H locs hl hw hs)
theorem v_mmin (F : Fx p s m args meth c cc nL own n g B) {idx : Nat} {x y : Int32} (hlk : Cond.methodLink own idx Lib.Math.min.name ∈ TBG) (hw1 : Cond.static Lib.Math.min.name ∈ TBG ∧ Cond.initialized "java/lang/Math" ∈ TBG ∧ Cond.code Lib.Math.min.name Lib.Math.min.code 2 (some .int) ∈ TBG) (hdg : decode cc pc = .ok (.invokestatic idx, 3)) (hD : 1 ≤ D1) (hW : (st.map fun v => v.category).sum ≤ 8) (hkk : k ≤ K1)
    (kk : V p l e D1 K1 s m args below meth c Q KD n g B nL k h (pc + 3) lv (.int (if y < x then y else x) :: st)) : V p l e D1 K1 s m args below meth c Q KD n g B nL k h pc lv (.int y :: .int x :: st) := by
  intro ls H locs hl hw hs
  exact va_mmin F.1 F.2.1 (by rw [hl.1]; exact F.2.2.1) F.2.2.2.1 (F.w hlk) (F.w hw1.1) (F.w hw1.2.1) (F.w hw1.2.2) hD (by show _ + 13 ≤ 200 * D1; omega) hkk (by show 6 * k ≤ 6 * K1; omega) hdg (kk ls H locs hl hw hs)
theorem v_iconst (F : Fx p s m args meth c cc nL own n g B) {a : Int} {v : Int32} (hdg : decode cc pc = .ok (.iconst a, 1)) (hv : Int32.ofInt a = v)
    (kk : V p l e D1 K1 s m args below meth c Q KD n g B nL k h (pc + 1) lv (.int v :: st)) : V p l e D1 K1 s m args below meth c Q KD n g B nL k h pc lv st := fun ls H locs hl hw hs => lv_iconst F.1 F.2.1 hdg hv (kk ls H locs hl hw hs)
theorem v_bipush (F : Fx p s m args meth c cc nL own n g B) {a : Int} {v : Int32} (hdg : decode cc pc = .ok (.bipush a, 2)) (hv : (Int8.ofInt a).toInt32 = v)
    (kk : V p l e D1 K1 s m args below meth c Q KD n g B nL k h (pc + 2) lv (.int v :: st)) : V p l e D1 K1 s m args below meth c Q KD n g B nL k h pc lv st := fun ls H locs hl hw hs => lv_bipush F.1 F.2.1 hdg hv (kk ls H locs hl hw hs)
theorem v_sipush (F : Fx p s m args meth c cc nL own n g B) {a : Int} {v : Int32} (hdg : decode cc pc = .ok (.sipush a, 3)) (hv : (Int16.ofInt a).toInt32 = v)
    (kk : V p l e D1 K1 s m args below meth c Q KD n g B nL k h (pc + 3) lv (.int v :: st)) : V p l e D1 K1 s m args below meth c Q KD n g B nL k h pc lv st := fun ls H locs hl hw hs => lv_sipush F.1 F.2.1 hdg hv (kk ls H locs hl hw hs)
theorem v_lconst (F : Fx p s m args meth c cc nL own n g B) {a : Fin 2} {v : Int64} (hdg : decode cc pc = .ok (.lconst a, 1)) (hv : Int64.ofNat (a : Nat) = v)
    (kk : V p l e D1 K1 s m args below meth c Q KD n g B nL k h (pc + 1) lv (.long v :: st)) : V p l e D1 K1 s m args below meth c Q KD n g B nL k h pc lv st := fun ls H locs hl hw hs => lv_lconst F.1 F.2.1 hdg hv (kk ls H locs hl hw hs)
theorem v_iload_n (F : Fx p s m args meth c cc nL own n g B) {a : Fin 4} {i j : Nat} {x : Int32} (hdg : decode cc pc = .ok (.iload_n a, 1)) (hi : (a : Nat) = i) (hj : lv[j]? = some (i, .int x))
    (kk : V p l e D1 K1 s m args below meth c Q KD n g B nL k h (pc + 1) lv (.int x :: st)) : V p l e D1 K1 s m args below meth c Q KD n g B nL k h pc lv st := fun ls H locs hl hw hs => lv_iload_n F.1 F.2.1 hdg hi (lv_at hl j hj) (kk ls H locs hl hw hs)
theorem v_iload (F : Fx p s m args meth c cc nL own n g B) {i j : Nat} {x : Int32} (hdg : decode cc pc = .ok (.iload i, 2)) (hj : lv[j]? = some (i, .int x))
    (kk : V p l e D1 K1 s m args below meth c Q KD n g B nL k h (pc + 2) lv (.int x :: st)) : V p l e D1 K1 s m args below meth c Q KD n g B nL k h pc lv st := fun ls H locs hl hw hs => lv_iload F.1 F.2.1 hdg (lv_at hl j hj) (kk ls H locs hl hw hs)
theorem v_aload_n (F : Fx p s m args meth c cc nL own n g B) {a : Fin 4} {i j : Nat} {x : Nat} (hdg : decode cc pc = .ok (.aload_n a, 1)) (hi : (a : Nat) = i) (hj : lv[j]? = some (i, .ref x))
    (kk : V p l e D1 K1 s m args below meth c Q KD n g B nL k h (pc + 1) lv (.ref x :: st)) : V p l e D1 K1 s m args below meth c Q KD n g B nL k h pc lv st := fun ls H locs hl hw hs => lv_aload_n F.1 F.2.1 hdg hi (lv_at hl j hj) (kk ls H locs hl hw hs)
theorem v_aload (F : Fx p s m args meth c cc nL own n g B) {i j : Nat} {x : Nat} (hdg : decode cc pc = .ok (.aload i, 2)) (hj : lv[j]? = some (i, .ref x))
    (kk : V p l e D1 K1 s m args below meth c Q KD n g B nL k h (pc + 2) lv (.ref x :: st)) : V p l e D1 K1 s m args below meth c Q KD n g B nL k h pc lv st := fun ls H locs hl hw hs => lv_aload F.1 F.2.1 hdg (lv_at hl j hj) (kk ls H locs hl hw hs)
theorem v_lload_n (F : Fx p s m args meth c cc nL own n g B) {a : Fin 4} {i j : Nat} {x : Int64} (hdg : decode cc pc = .ok (.lload_n a, 1)) (hi : (a : Nat) = i) (hj : lv[j]? = some (i, .long x))
    (kk : V p l e D1 K1 s m args below meth c Q KD n g B nL k h (pc + 1) lv (.long x :: st)) : V p l e D1 K1 s m args below meth c Q KD n g B nL k h pc lv st := fun ls H locs hl hw hs => lv_lload_n F.1 F.2.1 hdg hi (lv_at hl j hj) (kk ls H locs hl hw hs)
theorem v_lload (F : Fx p s m args meth c cc nL own n g B) {i j : Nat} {x : Int64} (hdg : decode cc pc = .ok (.lload i, 2)) (hj : lv[j]? = some (i, .long x))
    (kk : V p l e D1 K1 s m args below meth c Q KD n g B nL k h (pc + 2) lv (.long x :: st)) : V p l e D1 K1 s m args below meth c Q KD n g B nL k h pc lv st := fun ls H locs hl hw hs => lv_lload F.1 F.2.1 hdg (lv_at hl j hj) (kk ls H locs hl hw hs)
theorem v_istore_n (F : Fx p s m args meth c cc nL own n g B) {a : Fin 4} {i : Nat} {x : Int32} {lv' : List (Nat × Value)} (hdg : decode cc pc = .ok (.istore_n a, 1)) (hi : (a : Nat) = i) (hn : i < nL) (he : lset lv i (.int x) = lv')
    (kk : V p l e D1 K1 s m args below meth c Q KD n g B nL k h (pc + 1) lv' st) : V p l e D1 K1 s m args below meth c Q KD n g B nL k h pc lv (.int x :: st) := fun ls H locs hl hw hs => lv_istore_n F.1 F.2.1 hdg hi hl hn rfl (fun ls' hl' => kk ls' H locs (he ▸ lset_has hl') hw hs)
theorem v_istore (F : Fx p s m args meth c cc nL own n g B) {i : Nat} {x : Int32} {lv' : List (Nat × Value)} (hdg : decode cc pc = .ok (.istore i, 2)) (hn : i < nL) (he : lset lv i (.int x) = lv')
    (kk : V p l e D1 K1 s m args below meth c Q KD n g B nL k h (pc + 2) lv' st) : V p l e D1 K1 s m args below meth c Q KD n g B nL k h pc lv (.int x :: st) := fun ls H locs hl hw hs => lv_istore F.1 F.2.1 hdg hl hn rfl (fun ls' hl' => kk ls' H locs (he ▸ lset_has hl') hw hs)
theorem v_astore_n (F : Fx p s m args meth c cc nL own n g B) {a : Fin 4} {i : Nat} {x : Nat} {lv' : List (Nat × Value)} (hdg : decode cc pc = .ok (.astore_n a, 1)) (hi : (a : Nat) = i) (hn : i < nL) (he : lset lv i (.ref x) = lv')
    (kk : V p l e D1 K1 s m args below meth c Q KD n g B nL k h (pc + 1) lv' st) : V p l e D1 K1 s m args below meth c Q KD n g B nL k h pc lv (.ref x :: st) := fun ls H locs hl hw hs => lv_astore_n F.1 F.2.1 hdg hi hl hn rfl (fun ls' hl' => kk ls' H locs (he ▸ lset_has hl') hw hs)
theorem v_astore (F : Fx p s m args meth c cc nL own n g B) {i : Nat} {x : Nat} {lv' : List (Nat × Value)} (hdg : decode cc pc = .ok (.astore i, 2)) (hn : i < nL) (he : lset lv i (.ref x) = lv')
    (kk : V p l e D1 K1 s m args below meth c Q KD n g B nL k h (pc + 2) lv' st) : V p l e D1 K1 s m args below meth c Q KD n g B nL k h pc lv (.ref x :: st) := fun ls H locs hl hw hs => lv_astore F.1 F.2.1 hdg hl hn rfl (fun ls' hl' => kk ls' H locs (he ▸ lset_has hl') hw hs)
theorem v_iinc (F : Fx p s m args meth c cc nL own n g B) {i j : Nat} {a : Int} {x v : Int32} {lv' : List (Nat × Value)} (hdg : decode cc pc = .ok (.iinc i a, 3)) (hj : lv[j]? = some (i, .int x)) (hv : x + Int32.ofInt a = v) (hn : i < nL) (he : lset lv i (.int v) = lv')
    (kk : V p l e D1 K1 s m args below meth c Q KD n g B nL k h (pc + 3) lv' st) : V p l e D1 K1 s m args below meth c Q KD n g B nL k h pc lv st := fun ls H locs hl hw hs => lv_iinc F.1 F.2.1 hdg hl hj hv hn rfl (fun ls' hl' => kk ls' H locs (he ▸ lset_has hl') hw hs)
theorem v_iadd (F : Fx p s m args meth c cc nL own n g B) {x y : Int32} (hdg : decode cc pc = .ok (.iadd, 1))
    (kk : V p l e D1 K1 s m args below meth c Q KD n g B nL k h (pc + 1) lv (.int (x + y) :: st)) : V p l e D1 K1 s m args below meth c Q KD n g B nL k h pc lv (.int y :: .int x :: st) := fun ls H locs hl hw hs => lv_iadd F.1 F.2.1 hdg (kk ls H locs hl hw hs)
theorem v_isub (F : Fx p s m args meth c cc nL own n g B) {x y : Int32} (hdg : decode cc pc = .ok (.isub, 1))
    (kk : V p l e D1 K1 s m args below meth c Q KD n g B nL k h (pc + 1) lv (.int (x - y) :: st)) : V p l e D1 K1 s m args below meth c Q KD n g B nL k h pc lv (.int y :: .int x :: st) := fun ls H locs hl hw hs => lv_isub F.1 F.2.1 hdg (kk ls H locs hl hw hs)
theorem v_imul (F : Fx p s m args meth c cc nL own n g B) {x y : Int32} (hdg : decode cc pc = .ok (.imul, 1))
    (kk : V p l e D1 K1 s m args below meth c Q KD n g B nL k h (pc + 1) lv (.int (x * y) :: st)) : V p l e D1 K1 s m args below meth c Q KD n g B nL k h pc lv (.int y :: .int x :: st) := fun ls H locs hl hw hs => lv_imul F.1 F.2.1 hdg (kk ls H locs hl hw hs)
theorem v_iand (F : Fx p s m args meth c cc nL own n g B) {x y : Int32} (hdg : decode cc pc = .ok (.iand, 1))
    (kk : V p l e D1 K1 s m args below meth c Q KD n g B nL k h (pc + 1) lv (.int (x &&& y) :: st)) : V p l e D1 K1 s m args below meth c Q KD n g B nL k h pc lv (.int y :: .int x :: st) := fun ls H locs hl hw hs => lv_iand F.1 F.2.1 hdg (kk ls H locs hl hw hs)
theorem v_ior (F : Fx p s m args meth c cc nL own n g B) {x y : Int32} (hdg : decode cc pc = .ok (.ior, 1))
    (kk : V p l e D1 K1 s m args below meth c Q KD n g B nL k h (pc + 1) lv (.int (x ||| y) :: st)) : V p l e D1 K1 s m args below meth c Q KD n g B nL k h pc lv (.int y :: .int x :: st) := fun ls H locs hl hw hs => lv_ior F.1 F.2.1 hdg (kk ls H locs hl hw hs)
theorem v_ixor (F : Fx p s m args meth c cc nL own n g B) {x y : Int32} (hdg : decode cc pc = .ok (.ixor, 1))
    (kk : V p l e D1 K1 s m args below meth c Q KD n g B nL k h (pc + 1) lv (.int (x ^^^ y) :: st)) : V p l e D1 K1 s m args below meth c Q KD n g B nL k h pc lv (.int y :: .int x :: st) := fun ls H locs hl hw hs => lv_ixor F.1 F.2.1 hdg (kk ls H locs hl hw hs)
theorem v_idiv (F : Fx p s m args meth c cc nL own n g B) {x y : Int32} (hdg : decode cc pc = .ok (.idiv, 1)) (hne : ¬ y = 0)
    (kk : V p l e D1 K1 s m args below meth c Q KD n g B nL k h (pc + 1) lv (.int (x / y) :: st)) : V p l e D1 K1 s m args below meth c Q KD n g B nL k h pc lv (.int y :: .int x :: st) := fun ls H locs hl hw hs => lv_idiv F.1 F.2.1 hdg hne (kk ls H locs hl hw hs)
theorem v_irem (F : Fx p s m args meth c cc nL own n g B) {x y : Int32} (hdg : decode cc pc = .ok (.irem, 1)) (hne : ¬ y = 0)
    (kk : V p l e D1 K1 s m args below meth c Q KD n g B nL k h (pc + 1) lv (.int (x - x / y * y) :: st)) : V p l e D1 K1 s m args below meth c Q KD n g B nL k h pc lv (.int y :: .int x :: st) := fun ls H locs hl hw hs => lv_irem F.1 F.2.1 hdg hne (kk ls H locs hl hw hs)
theorem v_ishl (F : Fx p s m args meth c cc nL own n g B) {x y : Int32} (hdg : decode cc pc = .ok (.ishl, 1))
    (kk : V p l e D1 K1 s m args below meth c Q KD n g B nL k h (pc + 1) lv (.int (x <<< (y &&& 31)) :: st)) : V p l e D1 K1 s m args below meth c Q KD n g B nL k h pc lv (.int y :: .int x :: st) := fun ls H locs hl hw hs => lv_ishl F.1 F.2.1 hdg (kk ls H locs hl hw hs)
theorem v_ishr (F : Fx p s m args meth c cc nL own n g B) {x y : Int32} (hdg : decode cc pc = .ok (.ishr, 1))
    (kk : V p l e D1 K1 s m args below meth c Q KD n g B nL k h (pc + 1) lv (.int (x >>> (y &&& 31)) :: st)) : V p l e D1 K1 s m args below meth c Q KD n g B nL k h pc lv (.int y :: .int x :: st) := fun ls H locs hl hw hs => lv_ishr F.1 F.2.1 hdg (kk ls H locs hl hw hs)
theorem v_iushr (F : Fx p s m args meth c cc nL own n g B) {x y v : Int32} (hdg : decode cc pc = .ok (.iushr, 1)) (hv : (x.toUInt32 >>> (y.toUInt32 &&& Int32.toUInt32 31)).toInt32 = v)
    (kk : V p l e D1 K1 s m args below meth c Q KD n g B nL k h (pc + 1) lv (.int v :: st)) : V p l e D1 K1 s m args below meth c Q KD n g B nL k h pc lv (.int y :: .int x :: st) := fun ls H locs hl hw hs => lv_iushr F.1 F.2.1 hdg hv (kk ls H locs hl hw hs)
theorem v_i2l (F : Fx p s m args meth c cc nL own n g B) {x : Int32} {v : Int64} (hdg : decode cc pc = .ok (.i2l, 1)) (hv : x.toInt64 = v)
    (kk : V p l e D1 K1 s m args below meth c Q KD n g B nL k h (pc + 1) lv (.long v :: st)) : V p l e D1 K1 s m args below meth c Q KD n g B nL k h pc lv (.int x :: st) := fun ls H locs hl hw hs => lv_i2l F.1 F.2.1 hdg hv (kk ls H locs hl hw hs)
theorem v_i2b (F : Fx p s m args meth c cc nL own n g B) {x v : Int32} (hdg : decode cc pc = .ok (.i2b, 1)) (hv : x.toInt8.toInt32 = v)
    (kk : V p l e D1 K1 s m args below meth c Q KD n g B nL k h (pc + 1) lv (.int v :: st)) : V p l e D1 K1 s m args below meth c Q KD n g B nL k h pc lv (.int x :: st) := fun ls H locs hl hw hs => lv_i2b F.1 F.2.1 hdg hv (kk ls H locs hl hw hs)
theorem v_i2c (F : Fx p s m args meth c cc nL own n g B) {x v : Int32} (hdg : decode cc pc = .ok (.i2c, 1)) (hv : (x.toUInt32 % 65536).toInt32 = v)
    (kk : V p l e D1 K1 s m args below meth c Q KD n g B nL k h (pc + 1) lv (.int v :: st)) : V p l e D1 K1 s m args below meth c Q KD n g B nL k h pc lv (.int x :: st) := fun ls H locs hl hw hs => lv_i2c F.1 F.2.1 hdg hv (kk ls H locs hl hw hs)
theorem v_dup (F : Fx p s m args meth c cc nL own n g B) {a : Value} (hdg : decode cc pc = .ok (.dup, 1)) (ha : a.category = 1)
    (kk : V p l e D1 K1 s m args below meth c Q KD n g B nL k h (pc + 1) lv (a :: a :: st)) : V p l e D1 K1 s m args below meth c Q KD n g B nL k h pc lv (a :: st) := fun ls H locs hl hw hs => lv_dup F.1 F.2.1 hdg ha (kk ls H locs hl hw hs)
theorem v_pop (F : Fx p s m args meth c cc nL own n g B) {a : Value} (hdg : decode cc pc = .ok (.pop, 1)) (ha : a.category = 1)
    (kk : V p l e D1 K1 s m args below meth c Q KD n g B nL k h (pc + 1) lv st) : V p l e D1 K1 s m args below meth c Q KD n g B nL k h pc lv (a :: st) := fun ls H locs hl hw hs => lv_pop F.1 F.2.1 hdg ha (kk ls H locs hl hw hs)
theorem v_dup2_11 (F : Fx p s m args meth c cc nL own n g B) {a b : Value} (hdg : decode cc pc = .ok (.dup2, 1)) (ha : a.category = 1) (hb : b.category = 1)
    (kk : V p l e D1 K1 s m args below meth c Q KD n g B nL k h (pc + 1) lv (a :: b :: a :: b :: st)) : V p l e D1 K1 s m args below meth c Q KD n g B nL k h pc lv (a :: b :: st) := fun ls H locs hl hw hs => lv_dup2_11 F.1 F.2.1 hdg ha hb (kk ls H locs hl hw hs)
theorem v_lcmp (F : Fx p s m args meth c cc nL own n g B) {x y : Int64} (hdg : decode cc pc = .ok (.lcmp, 1))
    (kk : V p l e D1 K1 s m args below meth c Q KD n g B nL k h (pc + 1) lv (.int (lg_cmp x y) :: st)) : V p l e D1 K1 s m args below meth c Q KD n g B nL k h pc lv (.long y :: .long x :: st) := fun ls H locs hl hw hs => W.lcmp F.1 F.2.1 hdg (kk ls H locs hl hw hs)
theorem v_if_eq (F : Fx p s m args meth c cc nL own n g B) {x : Int32} {off : Int} {tgt : Nat} (hdg : decode cc pc = .ok (.ifCond .eq off, 3)) (ht : (pc : Int) + off = (tgt : Int))
    (kt : x = 0 → V p l e D1 K1 s m args below meth c Q KD n g B nL k h tgt lv st) (kf : ¬ x = 0 → V p l e D1 K1 s m args below meth c Q KD n g B nL k h (pc + 3) lv st) : V p l e D1 K1 s m args below meth c Q KD n g B nL k h pc lv (.int x :: st) := fun ls H locs hl hw hs => lv_if_eq F.1 F.2.1 hdg ht (fun q => kt q ls H locs hl hw hs) (fun q => kf q ls H locs hl hw hs)
theorem v_icmp_eq (F : Fx p s m args meth c cc nL own n g B) {x y : Int32} {off : Int} {tgt : Nat} (hdg : decode cc pc = .ok (.if_icmp .eq off, 3)) (ht : (pc : Int) + off = (tgt : Int))
    (kt : x = y → V p l e D1 K1 s m args below meth c Q KD n g B nL k h tgt lv st) (kf : ¬ x = y → V p l e D1 K1 s m args below meth c Q KD n g B nL k h (pc + 3) lv st) : V p l e D1 K1 s m args below meth c Q KD n g B nL k h pc lv (.int y :: .int x :: st) := fun ls H locs hl hw hs => lv_icmp_eq F.1 F.2.1 hdg ht (fun q => kt q ls H locs hl hw hs) (fun q => kf q ls H locs hl hw hs)
theorem v_if_ne (F : Fx p s m args meth c cc nL own n g B) {x : Int32} {off : Int} {tgt : Nat} (hdg : decode cc pc = .ok (.ifCond .ne off, 3)) (ht : (pc : Int) + off = (tgt : Int))
    (kt : ¬ x = 0 → V p l e D1 K1 s m args below meth c Q KD n g B nL k h tgt lv st) (kf : x = 0 → V p l e D1 K1 s m args below meth c Q KD n g B nL k h (pc + 3) lv st) : V p l e D1 K1 s m args below meth c Q KD n g B nL k h pc lv (.int x :: st) := fun ls H locs hl hw hs => lv_if_ne F.1 F.2.1 hdg ht (fun q => kt q ls H locs hl hw hs) (fun q => kf q ls H locs hl hw hs)
theorem v_icmp_ne (F : Fx p s m args meth c cc nL own n g B) {x y : Int32} {off : Int} {tgt : Nat} (hdg : decode cc pc = .ok (.if_icmp .ne off, 3)) (ht : (pc : Int) + off = (tgt : Int))
    (kt : ¬ x = y → V p l e D1 K1 s m args below meth c Q KD n g B nL k h tgt lv st) (kf : x = y → V p l e D1 K1 s m args below meth c Q KD n g B nL k h (pc + 3) lv st) : V p l e D1 K1 s m args below meth c Q KD n g B nL k h pc lv (.int y :: .int x :: st) := fun ls H locs hl hw hs => lv_icmp_ne F.1 F.2.1 hdg ht (fun q => kt q ls H locs hl hw hs) (fun q => kf q ls H locs hl hw hs)
theorem v_if_lt (F : Fx p s m args meth c cc nL own n g B) {x : Int32} {off : Int} {tgt : Nat} (hdg : decode cc pc = .ok (.ifCond .lt off, 3)) (ht : (pc : Int) + off = (tgt : Int))
    (kt : x < 0 → V p l e D1 K1 s m args below meth c Q KD n g B nL k h tgt lv st) (kf : ¬ x < 0 → V p l e D1 K1 s m args below meth c Q KD n g B nL k h (pc + 3) lv st) : V p l e D1 K1 s m args below meth c Q KD n g B nL k h pc lv (.int x :: st) := fun ls H locs hl hw hs => lv_if_lt F.1 F.2.1 hdg ht (fun q => kt q ls H locs hl hw hs) (fun q => kf q ls H locs hl hw hs)
theorem v_icmp_lt (F : Fx p s m args meth c cc nL own n g B) {x y : Int32} {off : Int} {tgt : Nat} (hdg : decode cc pc = .ok (.if_icmp .lt off, 3)) (ht : (pc : Int) + off = (tgt : Int))
    (kt : x < y → V p l e D1 K1 s m args below meth c Q KD n g B nL k h tgt lv st) (kf : ¬ x < y → V p l e D1 K1 s m args below meth c Q KD n g B nL k h (pc + 3) lv st) : V p l e D1 K1 s m args below meth c Q KD n g B nL k h pc lv (.int y :: .int x :: st) := fun ls H locs hl hw hs => lv_icmp_lt F.1 F.2.1 hdg ht (fun q => kt q ls H locs hl hw hs) (fun q => kf q ls H locs hl hw hs)
theorem v_if_ge (F : Fx p s m args meth c cc nL own n g B) {x : Int32} {off : Int} {tgt : Nat} (hdg : decode cc pc = .ok (.ifCond .ge off, 3)) (ht : (pc : Int) + off = (tgt : Int))
    (kt : 0 ≤ x → V p l e D1 K1 s m args below meth c Q KD n g B nL k h tgt lv st) (kf : ¬ 0 ≤ x → V p l e D1 K1 s m args below meth c Q KD n g B nL k h (pc + 3) lv st) : V p l e D1 K1 s m args below meth c Q KD n g B nL k h pc lv (.int x :: st) := fun ls H locs hl hw hs => lv_if_ge F.1 F.2.1 hdg ht (fun q => kt q ls H locs hl hw hs) (fun q => kf q ls H locs hl hw hs)
theorem v_icmp_ge (F : Fx p s m args meth c cc nL own n g B) {x y : Int32} {off : Int} {tgt : Nat} (hdg : decode cc pc = .ok (.if_icmp .ge off, 3)) (ht : (pc : Int) + off = (tgt : Int))
    (kt : y ≤ x → V p l e D1 K1 s m args below meth c Q KD n g B nL k h tgt lv st) (kf : ¬ y ≤ x → V p l e D1 K1 s m args below meth c Q KD n g B nL k h (pc + 3) lv st) : V p l e D1 K1 s m args below meth c Q KD n g B nL k h pc lv (.int y :: .int x :: st) := fun ls H locs hl hw hs => lv_icmp_ge F.1 F.2.1 hdg ht (fun q => kt q ls H locs hl hw hs) (fun q => kf q ls H locs hl hw hs)
theorem v_if_gt (F : Fx p s m args meth c cc nL own n g B) {x : Int32} {off : Int} {tgt : Nat} (hdg : decode cc pc = .ok (.ifCond .gt off, 3)) (ht : (pc : Int) + off = (tgt : Int))
    (kt : 0 < x → V p l e D1 K1 s m args below meth c Q KD n g B nL k h tgt lv st) (kf : ¬ 0 < x → V p l e D1 K1 s m args below meth c Q KD n g B nL k h (pc + 3) lv st) : V p l e D1 K1 s m args below meth c Q KD n g B nL k h pc lv (.int x :: st) := fun ls H locs hl hw hs => lv_if_gt F.1 F.2.1 hdg ht (fun q => kt q ls H locs hl hw hs) (fun q => kf q ls H locs hl hw hs)
theorem v_icmp_gt (F : Fx p s m args meth c cc nL own n g B) {x y : Int32} {off : Int} {tgt : Nat} (hdg : decode cc pc = .ok (.if_icmp .gt off, 3)) (ht : (pc : Int) + off = (tgt : Int))
    (kt : y < x → V p l e D1 K1 s m args below meth c Q KD n g B nL k h tgt lv st) (kf : ¬ y < x → V p l e D1 K1 s m args below meth c Q KD n g B nL k h (pc + 3) lv st) : V p l e D1 K1 s m args below meth c Q KD n g B nL k h pc lv (.int y :: .int x :: st) := fun ls H locs hl hw hs => lv_icmp_gt F.1 F.2.1 hdg ht (fun q => kt q ls H locs hl hw hs) (fun q => kf q ls H locs hl hw hs)
theorem v_if_le (F : Fx p s m args meth c cc nL own n g B) {x : Int32} {off : Int} {tgt : Nat} (hdg : decode cc pc = .ok (.ifCond .le off, 3)) (ht : (pc : Int) + off = (tgt : Int))
    (kt : x ≤ 0 → V p l e D1 K1 s m args below meth c Q KD n g B nL k h tgt lv st) (kf : ¬ x ≤ 0 → V p l e D1 K1 s m args below meth c Q KD n g B nL k h (pc + 3) lv st) : V p l e D1 K1 s m args below meth c Q KD n g B nL k h pc lv (.int x :: st) := fun ls H locs hl hw hs => lv_if_le F.1 F.2.1 hdg ht (fun q => kt q ls H locs hl hw hs) (fun q => kf q ls H locs hl hw hs)
theorem v_icmp_le (F : Fx p s m args meth c cc nL own n g B) {x y : Int32} {off : Int} {tgt : Nat} (hdg : decode cc pc = .ok (.if_icmp .le off, 3)) (ht : (pc : Int) + off = (tgt : Int))
    (kt : x ≤ y → V p l e D1 K1 s m args below meth c Q KD n g B nL k h tgt lv st) (kf : ¬ x ≤ y → V p l e D1 K1 s m args below meth c Q KD n g B nL k h (pc + 3) lv st) : V p l e D1 K1 s m args below meth c Q KD n g B nL k h pc lv (.int y :: .int x :: st) := fun ls H locs hl hw hs => lv_icmp_le F.1 F.2.1 hdg ht (fun q => kt q ls H locs hl hw hs) (fun q => kf q ls H locs hl hw hs)
theorem v_goto (F : Fx p s m args meth c cc nL own n g B) {off : Int} {tgt : Nat} (hdg : decode cc pc = .ok (.goto off, 3)) (ht : (pc : Int) + off = (tgt : Int)) (kk : V p l e D1 K1 s m args below meth c Q KD n g B nL k h tgt lv st) : V p l e D1 K1 s m args below meth c Q KD n g B nL k h pc lv st := fun ls H locs hl hw hs => lv_goto F.1 F.2.1 hdg ht (kk ls H locs hl hw hs)
theorem v_ldc (F : Fx p s m args meth c cc nL own n g B) {idx : Nat} {v : Int32} (hc : Cond.constant own idx v ∈ TBG) (hdg : decode cc pc = .ok (.ldc idx, 2)) (kk : V p l e D1 K1 s m args below meth c Q KD n g B nL k h (pc + 2) lv (.int v :: st)) : V p l e D1 K1 s m args below meth c Q KD n g B nL k h pc lv st := fun ls H locs hl hw hs => lv_ldc F.1 F.2.1 F.2.2.2.1 (F.w hc) hdg (kk ls H locs hl hw hs)
theorem v_ldcw (F : Fx p s m args meth c cc nL own n g B) {idx : Nat} {v : Int32} (hc : Cond.constant own idx v ∈ TBG) (hdg : decode cc pc = .ok (.ldc_w idx, 3)) (kk : V p l e D1 K1 s m args below meth c Q KD n g B nL k h (pc + 3) lv (.int v :: st)) : V p l e D1 K1 s m args below meth c Q KD n g B nL k h pc lv st := fun ls H locs hl hw hs => lv_ldcw F.1 F.2.1 F.2.2.2.1 (F.w hc) hdg (kk ls H locs hl hw hs)
theorem v_ldc2 (F : Fx p s m args meth c cc nL own n g B) {idx : Nat} {v : Int64} (hc : Cond.constantLong own idx v ∈ TBG) (hdg : decode cc pc = .ok (.ldc2_w idx, 3)) (kk : V p l e D1 K1 s m args below meth c Q KD n g B nL k h (pc + 3) lv (.long v :: st)) : V p l e D1 K1 s m args below meth c Q KD n g B nL k h pc lv st := fun ls H locs hl hw hs => lv_ldc2 F.1 F.2.1 F.2.2.2.1 (F.w hc) hdg (kk ls H locs hl hw hs)
theorem v_ldcS (F : Fx p s m args meth c cc nL own n g B) {idx j : Nat} {tx : String} (hc : (own, idx, tx, j) ∈ SK) (hdg : decode cc pc = .ok (.ldc idx, 2)) (kk : V p l e D1 K1 s m args below meth c Q KD n g B nL k h (pc + 2) lv (.ref (gK g j) :: st)) : V p l e D1 K1 s m args below meth c Q KD n g B nL k h pc lv st := fun ls H locs hl hw hs => va_ldcS F.1 F.2.1 F.2.2.2.1 (F.2.2.2.2.2.1.2.2.2.1 _ hc) hdg (kk ls H locs hl hw hs)
theorem v_tabOut (F : Fx p s m args meth c cc nL own n g B) {dflt lo hi : Int} {offs : Array Int} {len : Nat} {x : Int32} {tgt : Nat} (hdg : decode cc pc = .ok (.tableswitch dflt lo hi offs, len)) (hx : x.toInt < lo ∨ hi < x.toInt) (ht : (pc : Int) + dflt = (tgt : Int)) (kk : V p l e D1 K1 s m args below meth c Q KD n g B nL k h tgt lv st) : V p l e D1 K1 s m args below meth c Q KD n g B nL k h pc lv (.int x :: st) := fun ls H locs hl hw hs => lv_tableOut F.1 F.2.1 hdg hx ht (kk ls H locs hl hw hs)
theorem v_tabIn (F : Fx p s m args meth c cc nL own n g B) {dflt lo hi : Int} {offs : Array Int} {len : Nat} {x : Int32} {off : Int} {tgt : Nat} (hdg : decode cc pc = .ok (.tableswitch dflt lo hi offs, len)) (h1 : ¬ x.toInt < lo) (h2 : ¬ hi < x.toInt) (ho : offs[(x.toInt - lo).toNat]? = some off) (ht : (pc : Int) + off = (tgt : Int)) (kk : V p l e D1 K1 s m args below meth c Q KD n g B nL k h tgt lv st) : V p l e D1 K1 s m args below meth c Q KD n g B nL k h pc lv (.int x :: st) := fun ls H locs hl hw hs => lv_tableIn F.1 F.2.1 hdg h1 h2 ho ht (kk ls H locs hl hw hs)
end VQ
