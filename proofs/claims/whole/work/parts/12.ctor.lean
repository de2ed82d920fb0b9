/-! ===== constructors: cells made one behind another, from the address b0 on ===== -/
def zw (zr : Nat → Nat → Bool) (o c : Nat) : Nat → Nat → Bool := fun i k => if i < o then zr i k else if i = o then decide (k < c) else true
def zf (zr : Nat → Nat → Bool) (o : Nat) : Nat → Nat → Bool := fun i k => if i < o then zr i k else true
theorem zf_zw {zr : Nat → Nat → Bool} {o c N : Nat} (h : o < N) : zf (zw zr o c) N = zw zr o c := by
  funext i k
  unfold zf zw
  by_cases h1 : i < N
  · rw [if_pos h1]
  · rw [if_neg h1, if_neg (by omega), if_neg (by omega)]
theorem arrV_congr {cA : ClassId} {N : Nat} {f f' : Nat → Value} (h : ∀ j, j < N → f j = f' j) : arrV cA N f = arrV cA N f' := by
  unfold arrV
  congr 1
  apply Array.ext_getElem?
  intro i
  by_cases hi : i < N
  · simp [hi, h i hi]
  · simp [hi]
theorem WO.zc {KD : Nat → Nat × Nat} {n : Nat} {g : GE} {z z' : Nat → Nat → Bool} {h : ST} {H : Heap} (w : WO KD n g z h H) (e : ∀ i k, i < n → ((KD i).1 < 20 → k < nF (KD i).1 → FT (KD i).1 k ≠ 0 → z i k = z' i k) ∧ (23 ≤ (KD i).1 → k < (KD i).2 → z i k = z' i k)) : WO KD n g z' h H := by
  refine ⟨fun i hi => ⟨fun h1 => ((w.1 i hi).1 h1).to (fun k hk => ?_), fun h2 => ?_⟩, w.2⟩
  · by_cases h0 : FT (KD i).1 k = 0
    · show fval g _ (FT (KD i).1 k) i _ = fval g _ (FT (KD i).1 k) i _
      rw [h0]; rfl
    · rw [(e i k hi).1 h1 hk h0]
  · rw [(w.1 i hi).2 h2]
    refine congrArg some (arrV_congr (fun j hj => ?_))
    by_cases h3 : 23 ≤ (KD i).1
    · rw [(e i j hi).2 h3 hj]
    · rcases (show (KD i).1 = 20 ∨ (KD i).1 = 21 ∨ (KD i).1 = 22 by omega) with q | q | q <;> rw [q] <;> rfl
def RN (d kc ks : Nat) : Room := { frames := d, cells := kc, slots := ks, locals := 200 * d }
def SNc (b0 o : Nat) (H0 H : Heap) (locs : List Loc) : Prop := H0.size ≤ H.size ∧ (∀ q : Nat, q < b0 + o → H[q]? = H0[q]?) ∧ ∀ l ∈ locs, b0 + o ≤ l.base
def FN (p : Program) (s : State) (m : MethodId) (args : Array Value) (meth : Method) (c : Code) (cc : ByteArray) (nL : Nat) (own : String) (g : GE) (b0 : Nat) : Prop :=
  p.tables.exec = Jvm.exec ∧ c.code = cc ∧ c.maxLocals = nL ∧ s.vm.findClass own = some m.cls ∧ (∀ w ∈ TBG, w.before args s = true) ∧ EV g s ∧ EH g (fun q => b0 ≤ q) s s.heap ∧ (∀ i, gA g i = b0 + i) ∧ meth.locks = false ∧ meth.name = "<init>" ∧ va_AO "DustParish$State" s ∧ va_AO "java/lang/String" s
def VN (p : Program) (l : Launch) (e : Env) (R : Room) (s : State) (m : MethodId) (args : Array Value) (below : List Frame) (meth : Method) (c : Code) (Q : State → Prop) (KD : Nat → Nat × Nat) (g : GE) (b0 o nL cells slots n : Nat) (z : Nat → Nat → Bool) (h : ST) (pc : Nat) (lv : List (Nat × Value)) (st : List Value) : Prop :=
  ∀ (ls : Array Slot) (H : Heap) (locs : List Loc), lv_has ls nL lv → WO KD n g z h H → H.size = b0 + n → SNc b0 o s.heap H locs → W p l e R s m args below meth c H locs cells slots Q (F0 m pc ls st)
def PN (KD : Nat → Nat × Nat) (g : GE) (b0 : Nat) (av : List Value) (n : Nat) (z : Nat → Nat → Bool) (h : ST) : Array Value → State → Prop := fun v U => v = av.toArray ∧ WO KD n g z h U.heap ∧ U.heap.size = b0 + n ∧ EV g U ∧ EH g (fun q => b0 ≤ q) U U.heap ∧ (∀ i, gA g i = b0 + i) ∧ va_AO "DustParish$State" U ∧ va_AO "java/lang/String" U
def QN (KD : Nat → Nat × Nat) (g : GE) (b0 o n' : Nat) (z' : Nat → Nat → Bool) (h' : ST) : Array Value → State → Outcome → State → Prop := fun _ st oc t => oc = .returned none ∧ WO KD n' g z' h' t.heap ∧ t.heap.size = b0 + n' ∧ ∀ q : Nat, q < b0 + o → t.heap[q]? = st.heap[q]?
/-- a constructor of the cell o, behind which n cells stand: n' then -/
def NT (l : Launch) (y : MethodName) (bytes : ByteArray) (maxL d kc ks : Nat) (KD : Nat → Nat × Nat) (g : GE) (b0 o : Nat) (av : List Value) (n : Nat) (z : Nat → Nat → Bool) (h : ST) (n' : Nat) (z' : Nat → Nat → Bool) (h' : ST) : Prop :=
  Met l y (Cond.code y bytes maxL none :: TBG) (RN d kc ks) (PN KD g b0 av n z h) (QN KD g b0 o n' z' h') kc ks (fun q => b0 + o ≤ q)
theorem asg_self (vm : Vm) (c : ClassId) : vm.assignable c c = true := by
  first
    | exact Vm.assignable_self vm c
    | exact assignable_self vm c
    | simp [Vm.assignable, Vm.assignableAux]
/-- what 'new C' wants of the tables; its fields' first values -/
def NWK (own : String) (idx ci : Nat) (C : String) (N : Nat) : Prop := ∃ (T : u_T) (tf : Nat → FieldType), vwCl[ci]? = some (C, T, N) ∧ Cond.classLink own idx C ∈ TBG ∧ Cond.instantiable C N ∈ TBG ∧ Cond.initialized C ∈ TBG ∧ (∀ w ∈ u_ws C T N, w ∈ TBG) ∧ (∀ k, k < N → parseFieldDescriptor (T k).2.2.1 = some (tf k)) ∧ ci < 20 ∧ nF ci = N ∧ ∀ k, k < N → ∀ (g : GE) (i : Nat), defaultValue (tf k) = fval g false (FT ci k) i 0
/-- a final field that its constructor may write -/
def PLF (own : String) (ci k : Nat) (ty : FieldType) : Prop := ∃ (q : vw_C) (tf : Nat → FieldType), vwCl[ci]? = some q ∧ (q.2.1 k).2.2.2 = true ∧ tf k = ty ∧ (∀ j, j < q.2.2 → parseFieldDescriptor (q.2.1 j).2.2.1 = some (tf j)) ∧ (∀ a, a < q.2.2 → ∀ b, b < q.2.2 → a ≠ b → (q.2.1 a).2.1 ≠ (q.2.1 b).2.1) ∧ (q.2.1 k).1 = own
theorem objW : Cond.instanceMethod Lib.objectInit ∈ TBG ∧ Cond.code Lib.objectInit ⟨#[0xb1]⟩ 1 none ∈ TBG := ⟨tw_32, tw_33⟩
theorem FN.w {p : Program} {s : State} {m : MethodId} {args : Array Value} {meth : Method} {c : Code} {cc : ByteArray} {nL : Nat} {own : String} {g : GE} {b0 : Nat} (F : FN p s m args meth c cc nL own g b0) {w : Cond} (h : w ∈ TBG) : w.before args s = true := F.2.2.2.2.1 w h
section VC
variable {p : Program} {l : Launch} {e : Env} {R : Room} {s : State} {m : MethodId} {args : Array Value} {below : List Frame} {meth : Method} {c : Code} {Q : State → Prop} {KD : Nat → Nat × Nat} {g : GE} {b0 o nL cells slots n : Nat} {z : Nat → Nat → Bool} {h : ST} {pc : Nat} {lv : List (Nat × Value)} {st : List Value} {cc : ByteArray} {own : String}
theorem n_iconst (F : FN p s m args meth c cc nL own g b0) {a : Int} {v : Int32} (hdg : decode cc pc = .ok (.iconst a, 1)) (hv : Int32.ofInt a = v)
    (kk : VN p l e R s m args below meth c Q KD g b0 o nL cells slots n z h (pc + 1) lv (.int v :: st)) : VN p l e R s m args below meth c Q KD g b0 o nL cells slots n z h pc lv st := fun ls H locs hl hw hz hs => lv_iconst F.1 F.2.1 hdg hv (kk ls H locs hl hw hz hs)
theorem n_bipush (F : FN p s m args meth c cc nL own g b0) {a : Int} {v : Int32} (hdg : decode cc pc = .ok (.bipush a, 2)) (hv : (Int8.ofInt a).toInt32 = v)
    (kk : VN p l e R s m args below meth c Q KD g b0 o nL cells slots n z h (pc + 2) lv (.int v :: st)) : VN p l e R s m args below meth c Q KD g b0 o nL cells slots n z h pc lv st := fun ls H locs hl hw hz hs => lv_bipush F.1 F.2.1 hdg hv (kk ls H locs hl hw hz hs)
theorem n_sipush (F : FN p s m args meth c cc nL own g b0) {a : Int} {v : Int32} (hdg : decode cc pc = .ok (.sipush a, 3)) (hv : (Int16.ofInt a).toInt32 = v)
    (kk : VN p l e R s m args below meth c Q KD g b0 o nL cells slots n z h (pc + 3) lv (.int v :: st)) : VN p l e R s m args below meth c Q KD g b0 o nL cells slots n z h pc lv st := fun ls H locs hl hw hz hs => lv_sipush F.1 F.2.1 hdg hv (kk ls H locs hl hw hz hs)
theorem n_iload_n (F : FN p s m args meth c cc nL own g b0) {a : Fin 4} {i j : Nat} {x : Int32} (hdg : decode cc pc = .ok (.iload_n a, 1)) (hi : (a : Nat) = i) (hj : lv[j]? = some (i, .int x))
    (kk : VN p l e R s m args below meth c Q KD g b0 o nL cells slots n z h (pc + 1) lv (.int x :: st)) : VN p l e R s m args below meth c Q KD g b0 o nL cells slots n z h pc lv st := fun ls H locs hl hw hz hs => lv_iload_n F.1 F.2.1 hdg hi (lv_at hl j hj) (kk ls H locs hl hw hz hs)
theorem n_aload_n (F : FN p s m args meth c cc nL own g b0) {a : Fin 4} {i j : Nat} {x : Nat} (hdg : decode cc pc = .ok (.aload_n a, 1)) (hi : (a : Nat) = i) (hj : lv[j]? = some (i, .ref x))
    (kk : VN p l e R s m args below meth c Q KD g b0 o nL cells slots n z h (pc + 1) lv (.ref x :: st)) : VN p l e R s m args below meth c Q KD g b0 o nL cells slots n z h pc lv st := fun ls H locs hl hw hz hs => lv_aload_n F.1 F.2.1 hdg hi (lv_at hl j hj) (kk ls H locs hl hw hz hs)
theorem n_dup (F : FN p s m args meth c cc nL own g b0) {a : Value} (hdg : decode cc pc = .ok (.dup, 1)) (ha : a.category = 1)
    (kk : VN p l e R s m args below meth c Q KD g b0 o nL cells slots n z h (pc + 1) lv (a :: a :: st)) : VN p l e R s m args below meth c Q KD g b0 o nL cells slots n z h pc lv (a :: st) := fun ls H locs hl hw hz hs => lv_dup F.1 F.2.1 hdg ha (kk ls H locs hl hw hz hs)
theorem n_istore_n (F : FN p s m args meth c cc nL own g b0) {a : Fin 4} {i : Nat} {x : Int32} {lv' : List (Nat × Value)} (hdg : decode cc pc = .ok (.istore_n a, 1)) (hi : (a : Nat) = i) (hn : i < nL) (he : lset lv i (.int x) = lv')
    (kk : VN p l e R s m args below meth c Q KD g b0 o nL cells slots n z h (pc + 1) lv' st) : VN p l e R s m args below meth c Q KD g b0 o nL cells slots n z h pc lv (.int x :: st) := fun ls H locs hl hw hz hs => lv_istore_n F.1 F.2.1 hdg hi hl hn rfl (fun ls' hl' => kk ls' H locs (he ▸ lset_has hl') hw hz hs)
theorem n_iinc (F : FN p s m args meth c cc nL own g b0) {i j : Nat} {a : Int} {x v : Int32} {lv' : List (Nat × Value)} (hdg : decode cc pc = .ok (.iinc i a, 3)) (hj : lv[j]? = some (i, .int x)) (hv : x + Int32.ofInt a = v) (hn : i < nL) (he : lset lv i (.int v) = lv')
    (kk : VN p l e R s m args below meth c Q KD g b0 o nL cells slots n z h (pc + 3) lv' st) : VN p l e R s m args below meth c Q KD g b0 o nL cells slots n z h pc lv st := fun ls H locs hl hw hz hs => lv_iinc F.1 F.2.1 hdg hl hj hv hn rfl (fun ls' hl' => kk ls' H locs (he ▸ lset_has hl') hw hz hs)
theorem n_goto (F : FN p s m args meth c cc nL own g b0) {off : Int} {tgt : Nat} (hdg : decode cc pc = .ok (.goto off, 3)) (ht : (pc : Int) + off = (tgt : Int)) (kk : VN p l e R s m args below meth c Q KD g b0 o nL cells slots n z h tgt lv st) : VN p l e R s m args below meth c Q KD g b0 o nL cells slots n z h pc lv st := fun ls H locs hl hw hz hs => lv_goto F.1 F.2.1 hdg ht (kk ls H locs hl hw hz hs)
theorem n_icmp_ge (F : FN p s m args meth c cc nL own g b0) {x y : Int32} {off : Int} {tgt : Nat} (hdg : decode cc pc = .ok (.if_icmp .ge off, 3)) (ht : (pc : Int) + off = (tgt : Int)) (kt : y ≤ x → VN p l e R s m args below meth c Q KD g b0 o nL cells slots n z h tgt lv st) (kf : ¬ y ≤ x → VN p l e R s m args below meth c Q KD g b0 o nL cells slots n z h (pc + 3) lv st) : VN p l e R s m args below meth c Q KD g b0 o nL cells slots n z h pc lv (.int y :: .int x :: st) := fun ls H locs hl hw hz hs => lv_icmp_ge F.1 F.2.1 hdg ht (fun q => kt q ls H locs hl hw hz hs) (fun q => kf q ls H locs hl hw hz hs)
theorem n_ldcS (F : FN p s m args meth c cc nL own g b0) {idx j : Nat} {tx : String} (hc : (own, idx, tx, j) ∈ SK) (hdg : decode cc pc = .ok (.ldc idx, 2)) (kk : VN p l e R s m args below meth c Q KD g b0 o nL cells slots n z h (pc + 2) lv (.ref (gK g j) :: st)) : VN p l e R s m args below meth c Q KD g b0 o nL cells slots n z h pc lv st := fun ls H locs hl hw hz hs => va_ldcS F.1 F.2.1 F.2.2.2.1 (F.2.2.2.2.2.1.2.2.2.1 _ hc) hdg (kk ls H locs hl hw hz hs)
theorem n_obj (F : FN p s m args meth c cc nL own g b0) {idx : Nat} {a : Nat} (hlk : Cond.methodLink own idx Lib.objectInit ∈ TBG) (hdg : decode cc pc = .ok (.invokespecial idx, 3)) (hD : 1 ≤ R.frames ∧ 20 ≤ R.locals) (hW : (st.map fun v => v.category).sum ≤ 8) (kk : VN p l e R s m args below meth c Q KD g b0 o nL cells slots n z h (pc + 3) lv st) : VN p l e R s m args below meth c Q KD g b0 o nL cells slots n z h pc lv (.ref a :: st) := fun ls H locs hl hw hz hs => W.objInit F.1 F.2.1 F.2.2.2.1 (F.w hlk) (F.w objW.1) (F.w objW.2) rfl (by rw [hl.1]; exact F.2.2.1.symm) rfl hdg hD.1 (by show 2 * 0 + _ + 12 ≤ _; have := hD.2; omega) (kk ls H locs hl hw hz hs)
theorem n_get (F : FN p s m args meth c cc nL own g b0) {idx ci f q : Nat} {v : Value} (fl : FLK own idx ci f) (hdg : decode cc pc = .ok (.getfield idx, 3)) (hq : q < n) (hk0 : KD q = (ci, 0)) (hz0 : z q f = true) (hv : fval g true (FT ci f) q (h q f) = v)
    (kk : VN p l e R s m args below meth c Q KD g b0 o nL cells slots n z h (pc + 3) lv (v :: st)) : VN p l e R s m args below meth c Q KD g b0 o nL cells slots n z h pc lv (.ref (gA g q) :: st) := by
  intro ls H locs hl hw hz hs
  have hk : (KD q).1 = ci := by rw [hk0]
  obtain ⟨r, hr, hf, hnf, hci, hlk, hly⟩ := fl
  obtain ⟨cell, q1, q2, q3, q4⟩ := (hw.1 q hq).1 (by rw [hk]; exact hci)
  rw [hk] at q2 q4
  obtain ⟨hS, hfc, kC, hkC, hkind⟩ := F.2.2.2.2.2.1.1 ci r hr
  obtain ⟨cf, kf, fi, fd, hi, hsl⟩ := hS f hf
  refine W.getf F.1 F.2.1 F.2.2.2.1 (F.w hlk) hi (u_facts hfc hkC (u_lays F.2.2.2.2.1 hly hf) hi).1 q1 (by rw [q3]; exact fun h => by cases h) (v := v) ?_ rfl rfl hdg (kk ls H locs hl hw hz hs)
  rw [hsl, q4 f (by rw [hnf]; exact hf)]
  show some (fval g (z q f) (FT ci f) q (h q f)) = some v
  rw [hz0]
  exact congrArg some hv
theorem n_putzM (F : FN p s m args meth c cc nL own g b0) {idx ci f : Nat} {v : Value} {ty : FieldType} {x : Int32} {z' : Nat → Nat → Bool} {cn cn' : Nat} (hza : ∀ j, z o j = decide (j < cn)) (hzb : ∀ j, z' o j = decide (j < cn')) (hzc : ∀ i, i ≠ o → ∀ k, z' i k = z i k) (fl : FLK own idx ci f) (pl : PLK ci f ty) (hdg : decode cc pc = .ok (.putfield idx, 3)) (ho : o < n) (hk0 : KD o = (ci, 0)) (hv : fval g true (FT ci f) o x = v) (hn : narrow ty v = v) (hfit : fits ty v = true) (hgap : (FT ci f = 0 ∧ cn' = cn) ∨ (cn' = f + 1 ∧ cn ≤ f ∧ ∀ j, cn ≤ j → j < f → FT ci j = 0)) {h' : ST} (hr : pw h o f x = some h')
    (kk : VN p l e R s m args below meth c Q KD g b0 o nL cells slots n z' h' (pc + 3) lv st) : VN p l e R s m args below meth c Q KD g b0 o nL cells slots n z h pc lv (v :: .ref (gA g o) :: st) := by
  intro ls H locs hl hw hz hs
  have hk : (KD o).1 = ci := by rw [hk0]
  cases hr
  obtain ⟨q, hq, hf, hnf, hci, hlk, hly⟩ := fl
  obtain ⟨q', tf, hq', hfin, htf, hty, hnm⟩ := pl
  cases Option.some.inj (hq.symm.trans hq')
  obtain ⟨cell, q1, q2, q3, q4⟩ := (hw.1 o ho).1 (by rw [hk]; exact hci)
  rw [hk] at q2 q4
  obtain ⟨hS, hfc, kC, hkC, hkind⟩ := F.2.2.2.2.2.1.1 ci q hq
  have hap : ∀ x y, x < q.2.2 → y < q.2.2 → x ≠ y → (gI g ci) x ≠ (gI g ci) y := by
    intro x y hx hy hne
    obtain ⟨_, _, _, fa, hia, ea⟩ := hS x hx
    obtain ⟨_, _, _, fb, hib, eb⟩ := hS y hy
    rw [← ea, ← eb]
    refine u_apart (u_lays F.2.2.2.2.1 hly hx) (u_lays F.2.2.2.2.1 hly hy) hia hib ?_
    rw [(State.fieldFound?_type hia (hty x hx)).1, (State.fieldFound?_type hib (hty y hy)).1]
    exact hnm x hx y hy hne
  obtain ⟨cf, kf, fi, fd, hi, hsl⟩ := hS f hf
  have hlay := F.w (hly _ (u_in_lay hf))
  unfold u_lay at hlay
  have hst := (u_facts hfc hkC (u_lays F.2.2.2.2.1 hly hf) hi).1
  have hga := F.2.2.2.2.2.2.2.1
  rw [if_neg (by rw [hfin]; decide)] at hlay
  have h6 := u_store hfc hkC hkind hlay hi (by rw [← htf]; exact hty f hf) hn hfit
  refine W.putK F.1 F.2.1 (f := fd) ⟨F.2.2.2.1, F.w hlk, ⟨_, _, _, hi⟩, hst⟩ (by rw [q2]; exact h6) q1 q3 (by rw [hsl]; exact k2_hasslot (q4 f (by rw [hnf]; exact hf))) rfl rfl hdg fun H' e1 e2 e3 => ?_
  rw [hsl] at e1 ⊢
  rw [hnf] at q4
  refine kk ls H' _ hl ⟨fun i hi9 => ?_, hw.2⟩ (by rw [e2]; exact hz) ⟨by rw [e2]; exact hs.1, fun q h1 => by rw [e3 q (Nat.ne_of_lt (by rw [hga]; exact h1))]; exact hs.2.1 q h1, fun q hq => ?_⟩
  · by_cases ei : i = o
    · subst ei
      refine ⟨fun _ => ?_, fun h9 => absurd h9 (by rw [hk]; omega)⟩
      rw [hk, hnf]
      refine t_OB.to (V := updV (fun k => fval g (z i k) (FT ci k) i (h i k)) f v) ⟨_, e1, q2, q3, t_set q4 hap hf v⟩ (fun j _ => ?_)
      rw [up2_s]
      by_cases hj : j = f
      · subst hj
        simp only [updV, upd, if_pos]
        rcases hgap with ⟨g1, g2⟩ | ⟨g1, g2, g3⟩
        · rw [g1] at hv ⊢; exact hv.symm
        · have e9 : z' i j = true := by rw [hzb, g1]; simp
          rw [e9]; exact hv.symm
      · simp only [updV, upd, if_neg hj]
        by_cases h0 : FT ci j = 0
        · rw [h0]; rfl
        · have e9 : z i j = z' i j := by
            rw [hza, hzb]
            rcases hgap with ⟨g1, g2⟩ | ⟨g1, g2, g3⟩
            · rw [g2]
            · have h8 : ¬ (cn ≤ j ∧ j < f) := fun q => h0 (g3 j q.1 q.2)
              by_cases h7 : j < cn
              · rw [decide_eq_true h7, decide_eq_true (by omega)]
              · rw [decide_eq_false h7, decide_eq_false (by omega)]
          rw [e9]
    · have hh : up2 h o f x i = h i := up2_n ei
      have hzz : ∀ k, z' i k = z i k := hzc i ei
      have hc := (hw.1 i hi9).kept (h1 := up2 h o f x) (e3 _ (fun q9 => ei (hw.2 i o hi9 ho q9))) hh
      refine ⟨fun a => (hc.1 a).to (fun k _ => by rw [hzz]), fun a => ?_⟩
      rw [hc.2 a]
      exact congrArg some (arrV_congr (fun j _ => by rw [hzz]))
  · rcases List.mem_append.mp hq with h9 | h9
    · exact hs.2.2 q h9
    · rw [List.mem_singleton.mp h9]
      show b0 + o ≤ gA g o
      rw [hga]; omega
theorem n_putzF (F : FN p s m args meth c cc nL own g b0) {idx ci f : Nat} {v : Value} {ty : FieldType} {x : Int32} {z' : Nat → Nat → Bool} {cn cn' : Nat} (hza : ∀ j, z o j = decide (j < cn)) (hzb : ∀ j, z' o j = decide (j < cn')) (hzc : ∀ i, i ≠ o → ∀ k, z' i k = z i k) (fl : FLK own idx ci f) (pl : PLF own ci f ty) (hdg : decode cc pc = .ok (.putfield idx, 3)) (ho : o < n) (hk0 : KD o = (ci, 0)) (hv : fval g true (FT ci f) o x = v) (hn : narrow ty v = v) (hfit : fits ty v = true) (hgap : (FT ci f = 0 ∧ cn' = cn) ∨ (cn' = f + 1 ∧ cn ≤ f ∧ ∀ j, cn ≤ j → j < f → FT ci j = 0)) {h' : ST} (hr : pw h o f x = some h')
    (kk : VN p l e R s m args below meth c Q KD g b0 o nL cells slots n z' h' (pc + 3) lv st) : VN p l e R s m args below meth c Q KD g b0 o nL cells slots n z h pc lv (v :: .ref (gA g o) :: st) := by
  intro ls H locs hl hw hz hs
  have hk : (KD o).1 = ci := by rw [hk0]
  cases hr
  obtain ⟨q, hq, hf, hnf, hci, hlk, hly⟩ := fl
  obtain ⟨q', tf, hq', hfin, htf, hty, hnm, hdecl⟩ := pl
  cases Option.some.inj (hq.symm.trans hq')
  obtain ⟨cell, q1, q2, q3, q4⟩ := (hw.1 o ho).1 (by rw [hk]; exact hci)
  rw [hk] at q2 q4
  obtain ⟨hS, hfc, kC, hkC, hkind⟩ := F.2.2.2.2.2.1.1 ci q hq
  have hap : ∀ x y, x < q.2.2 → y < q.2.2 → x ≠ y → (gI g ci) x ≠ (gI g ci) y := by
    intro x y hx hy hne
    obtain ⟨_, _, _, fa, hia, ea⟩ := hS x hx
    obtain ⟨_, _, _, fb, hib, eb⟩ := hS y hy
    rw [← ea, ← eb]
    refine u_apart (u_lays F.2.2.2.2.1 hly hx) (u_lays F.2.2.2.2.1 hly hy) hia hib ?_
    rw [(State.fieldFound?_type hia (hty x hx)).1, (State.fieldFound?_type hib (hty y hy)).1]
    exact hnm x hx y hy hne
  obtain ⟨cf, kf, fi, fd, hi, hsl⟩ := hS f hf
  have hlay := F.w (hly _ (u_in_lay hf))
  unfold u_lay at hlay
  have hst := (u_facts hfc hkC (u_lays F.2.2.2.2.1 hly hf) hi).1
  have hga := F.2.2.2.2.2.2.2.1
  rw [if_pos hfin] at hlay
  have hcf : m.cls = cf := by
    obtain ⟨_, _, c', _, _, _, -, -, hf', -, -, -, hown2, -⟩ := Cond.laysFinal_spec hlay
    have e1 : c' = cf := by have := hi.symm.trans hf'; simp at this; exact this.1.symm
    rw [hdecl] at hown2
    rw [← e1]; exact Option.some.inj (F.2.2.2.1.symm.trans hown2)
  have h6 := u_fits hfc hkC hkind (Or.inr hlay) hi (by rw [← htf]; exact hty f hf) hn hfit
  refine W.putFinK F.1 F.2.1 F.2.2.2.1 (F.w hlk) hi hst hcf F.2.2.2.2.2.2.2.2.2.1 (by rw [q2]; exact h6) q1 q3 (by rw [hsl]; exact k2_hasslot (q4 f (by rw [hnf]; exact hf))) rfl rfl hdg fun H' e1 e2 e3 => ?_
  rw [hsl] at e1 ⊢
  rw [hnf] at q4
  refine kk ls H' _ hl ⟨fun i hi9 => ?_, hw.2⟩ (by rw [e2]; exact hz) ⟨by rw [e2]; exact hs.1, fun q h1 => by rw [e3 q (Nat.ne_of_lt (by rw [hga]; exact h1))]; exact hs.2.1 q h1, fun q hq => ?_⟩
  · by_cases ei : i = o
    · subst ei
      refine ⟨fun _ => ?_, fun h9 => absurd h9 (by rw [hk]; omega)⟩
      rw [hk, hnf]
      refine t_OB.to (V := updV (fun k => fval g (z i k) (FT ci k) i (h i k)) f v) ⟨_, e1, q2, q3, t_set q4 hap hf v⟩ (fun j _ => ?_)
      rw [up2_s]
      by_cases hj : j = f
      · subst hj
        simp only [updV, upd, if_pos]
        rcases hgap with ⟨g1, g2⟩ | ⟨g1, g2, g3⟩
        · rw [g1] at hv ⊢; exact hv.symm
        · have e9 : z' i j = true := by rw [hzb, g1]; simp
          rw [e9]; exact hv.symm
      · simp only [updV, upd, if_neg hj]
        by_cases h0 : FT ci j = 0
        · rw [h0]; rfl
        · have e9 : z i j = z' i j := by
            rw [hza, hzb]
            rcases hgap with ⟨g1, g2⟩ | ⟨g1, g2, g3⟩
            · rw [g2]
            · have h8 : ¬ (cn ≤ j ∧ j < f) := fun q => h0 (g3 j q.1 q.2)
              by_cases h7 : j < cn
              · rw [decide_eq_true h7, decide_eq_true (by omega)]
              · rw [decide_eq_false h7, decide_eq_false (by omega)]
          rw [e9]
    · have hh : up2 h o f x i = h i := up2_n ei
      have hzz : ∀ k, z' i k = z i k := hzc i ei
      have hc := (hw.1 i hi9).kept (h1 := up2 h o f x) (e3 _ (fun q9 => ei (hw.2 i o hi9 ho q9))) hh
      refine ⟨fun a => (hc.1 a).to (fun k _ => by rw [hzz]), fun a => ?_⟩
      rw [hc.2 a]
      exact congrArg some (arrV_congr (fun j _ => by rw [hzz]))
  · rcases List.mem_append.mp hq with h9 | h9
    · exact hs.2.2 q h9
    · rw [List.mem_singleton.mp h9]
      show b0 + o ≤ gA g o
      rw [hga]; omega
theorem n_putM (F : FN p s m args meth c cc nL own g b0) {idx ci f : Nat} {v : Value} {ty : FieldType} {x : Int32} {zr : Nat → Nat → Bool} {cn cn' : Nat} (fl : FLK own idx ci f) (pl : PLK ci f ty) (hdg : decode cc pc = .ok (.putfield idx, 3)) (ho : o < n) (hk0 : KD o = (ci, 0)) (hv : fval g true (FT ci f) o x = v) (hn : narrow ty v = v) (hfit : fits ty v = true) (hgap : (FT ci f = 0 ∧ cn' = cn) ∨ (cn' = f + 1 ∧ cn ≤ f ∧ ∀ j, cn ≤ j → j < f → FT ci j = 0)) {h' : ST} (hr : pw h o f x = some h')
    (kk : VN p l e R s m args below meth c Q KD g b0 o nL cells slots n (zw zr o cn') h' (pc + 3) lv st) : VN p l e R s m args below meth c Q KD g b0 o nL cells slots n (zw zr o cn) h pc lv (v :: .ref (gA g o) :: st) := n_putzM F (fun j => by unfold zw; rw [if_neg (Nat.lt_irrefl o), if_pos rfl]) (fun j => by unfold zw; rw [if_neg (Nat.lt_irrefl o), if_pos rfl]) (fun i hi k => by unfold zw; rw [if_neg hi, if_neg hi]) fl pl hdg ho hk0 hv hn hfit hgap hr kk
theorem n_putF (F : FN p s m args meth c cc nL own g b0) {idx ci f : Nat} {v : Value} {ty : FieldType} {x : Int32} {zr : Nat → Nat → Bool} {cn cn' : Nat} (fl : FLK own idx ci f) (pl : PLF own ci f ty) (hdg : decode cc pc = .ok (.putfield idx, 3)) (ho : o < n) (hk0 : KD o = (ci, 0)) (hv : fval g true (FT ci f) o x = v) (hn : narrow ty v = v) (hfit : fits ty v = true) (hgap : (FT ci f = 0 ∧ cn' = cn) ∨ (cn' = f + 1 ∧ cn ≤ f ∧ ∀ j, cn ≤ j → j < f → FT ci j = 0)) {h' : ST} (hr : pw h o f x = some h')
    (kk : VN p l e R s m args below meth c Q KD g b0 o nL cells slots n (zw zr o cn') h' (pc + 3) lv st) : VN p l e R s m args below meth c Q KD g b0 o nL cells slots n (zw zr o cn) h pc lv (v :: .ref (gA g o) :: st) := n_putzF F (fun j => by unfold zw; rw [if_neg (Nat.lt_irrefl o), if_pos rfl]) (fun j => by unfold zw; rw [if_neg (Nat.lt_irrefl o), if_pos rfl]) (fun i hi k => by unfold zw; rw [if_neg hi, if_neg hi]) fl pl hdg ho hk0 hv hn hfit hgap hr kk
theorem n_new (F : FN p s m args meth c cc nL own g b0) {ci idx N : Nat} {C : String} (w : NWK own idx ci C N) (hdg : decode cc pc = .ok (.new idx, 3)) (hk : KD n = (ci, 0)) (hon : o ≤ n) (hcells : cells + 1 ≤ R.cells) (hslots : slots + N ≤ R.slots)
    (kk : VN p l e R s m args below meth c Q KD g b0 o nL (cells + 1) (slots + N) (n + 1) (zw z n 0) (upR h n (fun _ => 0)) (pc + 3) lv (.ref (gA g n) :: st)) : VN p l e R s m args below meth c Q KD g b0 o nL cells slots n z h pc lv st := by
  intro ls H locs hl hw hz hs
  obtain ⟨T, tf, h1, h2, h3, h4, h5, h6, h7, h8, h9⟩ := w
  have hKn := F.2.2.2.2.2.1.1 ci _ h1
  refine W.newcK F.1 F.2.1 F.2.2.2.1 (F.w h2) (F.w h3) (F.w h4) rfl hdg hcells hslots hKn.2.1 hz fun H1 kC hkC e1 z1 o1 => ?_
  rw [← F.2.2.2.2.2.2.2.1]
  have hz' := hz
  have o1 : ∀ q, q < b0 + n → H1[q]? = H[q]? := o1
  have hga := F.2.2.2.2.2.2.2.1
  refine kk ls H1 locs hl ⟨fun i hi => ?_, fun i j _ _ q => by rw [hga, hga] at q; omega⟩ (by rw [z1]; omega) ⟨Nat.le_trans hs.1 (by rw [z1]; omega), fun q h1 => by rw [o1 q (by omega)]; exact hs.2.1 q h1, hs.2.2⟩
  by_cases ei : i = n
  · subst ei
    refine ⟨fun _ => ?_, fun h9 => absurd h9 (by rw [hk]; show ¬ 20 ≤ ci; omega)⟩
    rw [hk]
    show t_OB (gA g i) (gC g ci) (nF ci) (gI g ci) H1 _
    rw [h8]
    refine (u_born tf F.2.2.2.2.1 h5 hKn hkC (by rw [hga]; exact e1) h6).to (fun k hk9 => ?_)
    rw [upR_s]
    have e9 : zw z i 0 i k = false := by unfold zw; rw [if_neg (by omega), if_pos rfl]; rfl
    rw [e9]
    exact h9 k hk9 g i
  · have hi' : i < n := by omega
    have hzz : ∀ k, zw z n 0 i k = z i k := fun k => by unfold zw; rw [if_pos hi']
    have hc := (hw.1 i hi').kept (h1 := upR h n (fun _ => 0)) (o1 _ (by rw [hga]; omega)) (upR_n ei)
    refine ⟨fun a => (hc.1 a).to (fun k _ => by rw [hzz]), fun a => ?_⟩
    exact (hc.2 a).trans (congrArg some (arrV_congr (fun j _ => by rw [hzz])))
theorem n_newa (F : FN p s m args meth c cc nL own g b0) {len : Nat} {x : Int32} (hw0 : Cond.arrayClass .int ∈ TBG) (hdg : decode cc pc = .ok (.newarray .int, 2)) (hk : KD n = (20, len)) (hon : o ≤ n) (hx : ¬ x < 0 ∧ x.toNatClampNeg = len ∧ len < 10000) (hcells : cells + 1 ≤ R.cells) (hslots : slots + len ≤ R.slots)
    (kk : VN p l e R s m args below meth c Q KD g b0 o nL (cells + 1) (slots + len) (n + 1) z (upR h n (fun _ => 0)) (pc + 2) lv (.ref (gA g n) :: st)) : VN p l e R s m args below meth c Q KD g b0 o nL cells slots n z h pc lv (.int x :: st) := by
  intro ls H locs hl hw hz hs
  refine va_newaK (atype := .int) F.1 F.2.1 (F.w hw0) rfl hdg rfl hx.1 hx.2.1 (by show len * 4 ≤ 536870912; omega) hcells hslots hz fun H1 cA e1 z1 o1 hAr hNm => ?_
  have hRA : s.vm.findClass ("[" ++ (FieldType.int).toString) = some (gR g 20) := (F.2.2.2.2.2.1.2.1 20 (by decide) (by decide)).2
  have hcA : cA = gR g 20 := Option.some.inj (hNm.symm.trans hRA)
  subst hcA
  rw [← F.2.2.2.2.2.2.2.1]
  have o1 : ∀ q, q < b0 + n → H1[q]? = H[q]? := o1
  have hga := F.2.2.2.2.2.2.2.1
  refine kk ls H1 locs hl ⟨fun i hi => ?_, fun i j _ _ q => by rw [hga, hga] at q; omega⟩ (by rw [z1]; omega) ⟨Nat.le_trans hs.1 (by rw [z1]; omega), fun q h1 => by rw [o1 q (by omega)]; exact hs.2.1 q h1, hs.2.2⟩
  by_cases ei : i = n
  · subst ei
    refine ⟨fun h9 => absurd h9 (by rw [hk]; show ¬ 20 < 20; decide), fun _ => ?_⟩
    rw [hk, hga, upR_s]
    exact e1
  · have hi' : i < n := by omega
    have hzz : ∀ k, z i k = z i k := fun k => rfl
    have hc := (hw.1 i hi').kept (h1 := upR h n (fun _ => 0)) (o1 _ (by rw [hga]; omega)) (upR_n ei)
    refine ⟨fun a => (hc.1 a).to (fun k _ => by rw [hzz]), fun a => ?_⟩
    exact (hc.2 a).trans (congrArg some (arrV_congr (fun j _ => by rw [hzz])))
theorem n_newb (F : FN p s m args meth c cc nL own g b0) {len : Nat} {x : Int32} (hw0 : Cond.arrayClass .byte ∈ TBG) (hdg : decode cc pc = .ok (.newarray .byte, 2)) (hk : KD n = (21, len)) (hon : o ≤ n) (hx : ¬ x < 0 ∧ x.toNatClampNeg = len ∧ len < 10000) (hcells : cells + 1 ≤ R.cells) (hslots : slots + len ≤ R.slots)
    (kk : VN p l e R s m args below meth c Q KD g b0 o nL (cells + 1) (slots + len) (n + 1) z (upR h n (fun _ => 0)) (pc + 2) lv (.ref (gA g n) :: st)) : VN p l e R s m args below meth c Q KD g b0 o nL cells slots n z h pc lv (.int x :: st) := by
  intro ls H locs hl hw hz hs
  refine va_newaK (atype := .byte) F.1 F.2.1 (F.w hw0) rfl hdg rfl hx.1 hx.2.1 (by show len * 1 ≤ 536870912; omega) hcells hslots hz fun H1 cA e1 z1 o1 hAr hNm => ?_
  have hRA : s.vm.findClass ("[" ++ (FieldType.byte).toString) = some (gR g 21) := (F.2.2.2.2.2.1.2.1 21 (by decide) (by decide)).2
  have hcA : cA = gR g 21 := Option.some.inj (hNm.symm.trans hRA)
  subst hcA
  rw [← F.2.2.2.2.2.2.2.1]
  have o1 : ∀ q, q < b0 + n → H1[q]? = H[q]? := o1
  have hga := F.2.2.2.2.2.2.2.1
  refine kk ls H1 locs hl ⟨fun i hi => ?_, fun i j _ _ q => by rw [hga, hga] at q; omega⟩ (by rw [z1]; omega) ⟨Nat.le_trans hs.1 (by rw [z1]; omega), fun q h1 => by rw [o1 q (by omega)]; exact hs.2.1 q h1, hs.2.2⟩
  by_cases ei : i = n
  · subst ei
    refine ⟨fun h9 => absurd h9 (by rw [hk]; show ¬ 21 < 20; decide), fun _ => ?_⟩
    rw [hk, hga, upR_s]
    exact e1
  · have hi' : i < n := by omega
    have hzz : ∀ k, z i k = z i k := fun k => rfl
    have hc := (hw.1 i hi').kept (h1 := upR h n (fun _ => 0)) (o1 _ (by rw [hga]; omega)) (upR_n ei)
    refine ⟨fun a => (hc.1 a).to (fun k _ => by rw [hzz]), fun a => ?_⟩
    exact (hc.2 a).trans (congrArg some (arrV_congr (fun j _ => by rw [hzz])))
theorem n_anew (F : FN p s m args meth c cc nL own g b0) {len kd idx : Nat} {C : String} {x : Int32} (hcl : Cond.classLink own idx C ∈ TBG) (hao : va_AO C s) (hty : tyA kd = .object C) (hkd : 23 ≤ kd ∧ kd < 25) (hdg : decode cc pc = .ok (.anewarray idx, 3)) (hk : KD n = (kd, len)) (hon : o ≤ n) (hx : ¬ x < 0 ∧ x.toNatClampNeg = len ∧ len < 10000) (hcells : cells + 1 ≤ R.cells) (hslots : slots + len ≤ R.slots)
    (kk : VN p l e R s m args below meth c Q KD g b0 o nL (cells + 1) (slots + len) (n + 1) (zw z n 0) (upR h n (fun _ => 0)) (pc + 3) lv (.ref (gA g n) :: st)) : VN p l e R s m args below meth c Q KD g b0 o nL cells slots n z h pc lv (.int x :: st) := by
  intro ls H locs hl hw hz hs
  obtain ⟨hx1, rfl, hx3⟩ := hx
  refine W.anew F.1 F.2.1 F.2.2.2.1 (F.w hcl) (va_AO.use hao) rfl hdg rfl hx1 (by omega) hcells hslots fun cA kA comp f1 f2 f3 f4 => ?_
  generalize hH1 : H.push ({ cls := cA, slots := Array.replicate x.toNatClampNeg .null, vm := .none } : Cell) = H1
  have z1 : H1.size = H.size + 1 := by rw [← hH1, Array.size_push]
  have e1 : H1[H.size]? = some (arrV cA x.toNatClampNeg (fun _ => .null)) := by rw [← hH1, Array.getElem?_push_size, ← arrV_new]
  have o1 : ∀ q : Nat, q < H.size → H1[q]? = H[q]? := fun q hq => by rw [← hH1, Array.getElem?_push, if_neg (Nat.ne_of_lt hq)]
  have hRA := (F.2.2.2.2.2.1.2.1 kd (by omega) hkd.2).2
  rw [hty] at hRA
  obtain ⟨-, -, -, -, -, hRA⟩ := hRA
  have hcA : cA = gR g kd := Option.some.inj (f1.symm.trans hRA)
  subst hcA
  rw [hz] at e1 z1 o1
  have e0 : (Value.ref H.size : Value) = .ref (gA g n) := by rw [F.2.2.2.2.2.2.2.1, hz]
  have o1 : ∀ q, q < b0 + n → H1[q]? = H[q]? := o1
  show W p l e R s m args below meth c H1 locs (cells + 1) (slots + x.toNatClampNeg) Q (F0 m (pc + 3) ls (.ref H.size :: st))
  rw [e0]
  have hga := F.2.2.2.2.2.2.2.1
  refine kk ls H1 locs hl ⟨fun i hi => ?_, fun i j _ _ q => by rw [hga, hga] at q; omega⟩ (by rw [z1]; omega) ⟨Nat.le_trans hs.1 (by rw [z1]; omega), fun q h1 => by rw [o1 q (by omega)]; exact hs.2.1 q h1, hs.2.2⟩
  by_cases ei : i = n
  · subst ei
    refine ⟨fun h9 => absurd h9 (by rw [hk]; show ¬ kd < 20; omega), fun _ => ?_⟩
    rw [hk, hga, e1]
    refine congrArg some (arrV_congr (fun j _ => ?_))
    have e9 : zw z i 0 i j = false := by unfold zw; rw [if_neg (by omega), if_pos rfl]; rfl
    rw [e9]
    rcases (show kd = 23 ∨ kd = 24 by omega) with rfl | rfl <;> rfl
  · have hi' : i < n := by omega
    have hzz : ∀ k, zw z n 0 i k = z i k := fun k => by unfold zw; rw [if_pos hi']
    have hc := (hw.1 i hi').kept (h1 := upR h n (fun _ => 0)) (o1 _ (by rw [hga]; omega)) (upR_n ei)
    refine ⟨fun a => (hc.1 a).to (fun k _ => by rw [hzz]), fun a => ?_⟩
    exact (hc.2 a).trans (congrArg some (arrV_congr (fun j _ => by rw [hzz])))
theorem n_iast (F : FN p s m args meth c cc nL own g b0) {q len : Nat} {i x : Int32} {h' : ST} (hdg : decode cc pc = .ok (.iastore, 1)) (hq : q < n) (hoq : o ≤ q) (hk : KD q = (20, len)) (hr : wr len h q i x = some h')
    (kk : VN p l e R s m args below meth c Q KD g b0 o nL cells slots n z h' (pc + 1) lv st) : VN p l e R s m args below meth c Q KD g b0 o nL cells slots n z h pc lv (.int x :: .int i :: .ref (gA g q) :: st) := by
  intro ls H locs hl hw hz hs
  obtain ⟨hin, rfl⟩ := wr_in hr
  have hga := F.2.2.2.2.2.2.2.1
  have hc := (hw.1 q hq).2 (by rw [hk]; show 20 ≤ 20; decide)
  rw [hk] at hc
  refine W.iast F.1 F.2.1 hc ((F.2.2.2.2.2.1.2.1 20 (by decide) (by decide)).1 len _) (fun q => by cases q) (by show ¬ (i < 0 ∨ (arrV _ _ _).slots.size ≤ _); rw [arrV_size]; exact hin) rfl rfl hdg fun H1 e1 z1 oq => ?_
  refine kk ls H1 _ hl (hw.put hq (fun j hj => up2_n hj) oq ⟨fun h9 => absurd h9 (by rw [hk]; show ¬ 20 < 20; decide), fun _ => ?_⟩) (by rw [z1]; exact hz) ⟨by rw [z1]; exact hs.1, fun a h1 => by rw [oq a (Nat.ne_of_lt (by rw [hga]; exact Nat.lt_of_lt_of_le h1 (by omega)))]; exact hs.2.1 a h1, fun a ha => ?_⟩
  · rw [hk, e1, arrV_store, up2_s]
    refine congrArg some (arrV_congr (fun j _ => ?_))
    by_cases hj : j = i.toNatClampNeg
    · subst hj; simp [updV, upd, aval]
    · simp only [updV, upd, if_neg hj]
  · rcases List.mem_append.mp ha with h9 | h9
    · exact hs.2.2 a h9
    · rw [List.mem_singleton.mp h9]
      show b0 + o ≤ gA g q
      rw [hga]; omega
/-- an element of an array of references is laid: the last one so far -/
theorem n_aast (F : FN p s m args meth c cc nL own g b0) {q len kd vv j : Nat} {i x : Int32} {z' : Nat → Nat → Bool} {h' : ST} {C : String} (hdg : decode cc pc = .ok (.aastore, 1)) (hq : q < n) (hoq : o ≤ q) (hkd : 23 ≤ kd ∧ kd < 25) (hty : tyA kd = .object C) (hk : KD q = (kd, len)) (hi : ¬ i < 0 ∧ i.toNatClampNeg = j ∧ j < len)
    (hvv : ∀ H locs, WO KD n g z h H → SNc b0 o s.heap H locs → ∃ cell : Cell, H[vv]? = some cell ∧ cell.vm.isStatics = false ∧ s.vm.findClass C = some cell.cls) (hr : pw h q j x = some h') (hv : aval g true kd q j x = .ref vv) (hz1 : z' q j = true) (hz2 : ∀ a b, ¬ (a = q ∧ b = j) → z' a b = z a b)
    (kk : VN p l e R s m args below meth c Q KD g b0 o nL cells slots n z' h' (pc + 1) lv st) : VN p l e R s m args below meth c Q KD g b0 o nL cells slots n z h pc lv (.ref vv :: .int i :: .ref (gA g q) :: st) := by
  intro ls H locs hl hw hz hs
  cases hr
  obtain ⟨hi1, rfl, hi3⟩ := hi
  have hga := F.2.2.2.2.2.2.2.1
  have hc := (hw.1 q hq).2 (by rw [hk]; show 20 ≤ kd; omega)
  rw [hk] at hc
  obtain ⟨cellV, g1, g2, g3⟩ := hvv H locs hw hs
  have hRA := (F.2.2.2.2.2.1.2.1 kd (by omega) hkd.2).2
  rw [hty] at hRA
  obtain ⟨kA, comp, k1, k2, k3, -⟩ := hRA
  have hcomp : comp = cellV.cls := Option.some.inj (k3.symm.trans g3)
  subst hcomp
  obtain ⟨kC, hkC, -⟩ := Vm.findClass_spec g3
  refine W.aast F.1 F.2.1 hc (fun q h => by cases h) (fun h => by cases h) k1 k2 rfl hkC ⟨hi1, by show _ < (arrV _ _ _).slots.size; rw [arrV_size]; exact hi3⟩ g1 (fun q h => by rw [h] at g2; cases g2) hkC (asg_self _ _) rfl rfl hdg fun H1 e1 z1 oq => ?_
  refine kk ls H1 _ hl ⟨fun a ha => ?_, hw.2⟩ (by rw [z1]; exact hz) ⟨by rw [z1]; exact hs.1, fun a h1 => by rw [oq a (Nat.ne_of_lt (by rw [hga]; exact Nat.lt_of_lt_of_le h1 (by omega)))]; exact hs.2.1 a h1, fun a ha => ?_⟩
  · by_cases ea : a = q
    · subst ea
      refine ⟨fun h9 => absurd h9 (by rw [hk]; show ¬ kd < 20; omega), fun _ => ?_⟩
      rw [hk, e1, arrV_store, up2_s]
      refine congrArg some (arrV_congr (fun b _ => ?_))
      by_cases hb : b = i.toNatClampNeg
      · subst hb
        rw [hz1]
        simp only [updV, upd, if_pos]
        exact hv.symm
      · simp only [updV, upd, if_neg hb]
        rw [hz2 a b (fun q => hb q.2)]
    · have hcc := (hw.1 a ha).kept (h1 := up2 h q i.toNatClampNeg x) (oq _ (fun q9 => ea (hw.2 a q ha hq q9))) (up2_n ea)
      refine ⟨fun b => (hcc.1 b).to (fun k _ => by rw [hz2 a k (fun q => ea q.1)]), fun b => ?_⟩
      rw [hcc.2 b]
      exact congrArg some (arrV_congr (fun k _ => by rw [hz2 a k (fun q => ea q.1)]))
  · rcases List.mem_append.mp ha with h9 | h9
    · exact hs.2.2 a h9
    · rw [List.mem_singleton.mp h9]
      show b0 + o ≤ gA g q
      rw [hga]; omega
theorem n_vret (F : FN p s m args meth c cc nL own g b0) {n' : Nat} {z' : Nat → Nat → Bool} {h' : ST} {kc ks : Nat} (hr : meth.sig.returnType = none) (hdg : decode cc pc = .ok (.return_, 1)) (hn : n = n') (hh : h = h') (hc : cells ≤ kc) (hk : slots ≤ ks) (he : ∀ i k, i < n → ((KD i).1 < 20 → k < nF (KD i).1 → FT (KD i).1 k ≠ 0 → z i k = z' i k) ∧ (23 ≤ (KD i).1 → k < (KD i).2 → z i k = z' i k)) :
    VN p l e R s m args below meth c (MQ below (QN KD g b0 o n' z' h') args s kc ks (fun q => b0 + o ≤ q)) KD g b0 o nL cells slots n z h pc lv [] := by
  subst hn; subst hh
  intro ls H locs hl hw hz hs
  exact W.widen hc hk (W.vret F.1 F.2.1 hr (fun t ht _ => ⟨rfl, by rw [ht]; exact hw.zc he, by rw [ht]; exact hz, fun q h1 => by rw [ht]; exact hs.2.1 q h1⟩) hs.2.2 hdg (hlocks := F.2.2.2.2.2.2.2.2.1))
theorem FN.pre (F : FN p s m args meth c cc nL own g b0) {H : Heap} {locs : List Loc} (hw : WO KD n g z h H) (hz : H.size = b0 + n) (hs : SNc b0 o s.heap H locs) (av : List Value) : ∀ U : State, U.heap = H → s.WarmedH U.vm → PN KD g b0 av n z h av.toArray U := by
  intro U hU hW
  refine ⟨rfl, by rw [hU]; exact hw, by rw [hU]; exact hz, EV.warm hW F.2.2.2.2.2.1, ?_, F.2.2.2.2.2.2.2.1, F.2.2.2.2.2.2.2.2.2.2.1.moved hW.alike, F.2.2.2.2.2.2.2.2.2.2.2.moved hW.alike⟩
  rw [hU]
  exact EH.moved hW.alike (F.2.2.2.2.2.2.1.kept (fun a h1 h2 => hs.2.1 a (by omega)))
theorem PN.blind {av : List Value} : FrameBlind (PN KD g b0 av n z h) := by
  intro a U gg mk q
  obtain ⟨q1, q2, q3, q4, q5, q6, q7, q8⟩ := q
  exact ⟨q1, q2, q3, EV.same (s := U) (U := U.calling gg mk a) rfl q4, EH.moved (u := U) (U := U.calling gg mk a) (Vm.Alike.refl U.vm) q5, q6, q7, q8⟩
theorem NT.of {y : MethodName} {maxL : Nat} {d kc ks : Nat} {av : List Value} {n' : Nat} {z' : Nat → Nat → Bool} {h' : ST} (hy : plainName y.cls = true) (hm : (lg_sl av).length ≤ maxL) (hnm : y.name = "<init>")
    (body : ∀ (p : Program) (e : Env) (s : State) (m : MethodId) (below : List Frame) (meth : Method) (c : Code), meth.sig.returnType = none → FN p s m av.toArray meth c cc maxL y.cls g b0 →
      VN p l e (RN d kc ks) s m av.toArray below meth c (MQ below (QN KD g b0 o n' z' h') av.toArray s kc ks (fun q => b0 + o ≤ q)) KD g b0 o maxL 0 0 n z h 0 (lv_args 0 av) []) : NT l y cc maxL d kc ks KD g b0 o av n z h n' z' h' := by
  refine Met.ofW (cc := cc) (maxL := maxL) (ret := none) hy rfl ?_
  intro p e s m args below meth c s₁ BL hml hv
  obtain ⟨rfl, hw, hz, hE, hH, hga, ha1, ha2⟩ := hv
  have hts := atoms_spec (ws := Cond.code y cc maxL none :: TBG) BL.pre
  have F : FN p s m av.toArray meth c cc maxL y.cls g b0 := ⟨BL.exec, BL.bytes, hml, findClass_of_methodNamed BL.named, fun w hw => hts w (List.mem_cons_of_mem _ hw), hE, hH, hga, BL.notSynchronized, by rw [(name_of_methodNamed BL.named BL.method).1]; exact hnm, ha1, ha2⟩
  have hl := lv_entry av (n := maxL) hm
  rw [lg_entry_eq]
  exact body p e s m below meth c BL.returns F _ _ _ hl hw hz ⟨Nat.le_refl _, fun _ _ => rfl, fun _ h => by cases h⟩
theorem NT.of2 {y : MethodName} {maxL : Nat} {d kc ks : Nat} {av : List Value} {Qc : Array Value → State → Outcome → State → Prop} {free : Addr → Prop} (hy : plainName y.cls = true) (hm : (lg_sl av).length ≤ maxL) (hnm : y.name = "<init>")
    (body : ∀ (p : Program) (e : Env) (s : State) (m : MethodId) (below : List Frame) (meth : Method) (c : Code), meth.sig.returnType = none → FN p s m av.toArray meth c cc maxL y.cls g b0 →
      VN p l e (RN d kc ks) s m av.toArray below meth c (MQ below Qc av.toArray s kc ks free) KD g b0 0 maxL 0 0 n z h 0 (lv_args 0 av) []) : Met l y (Cond.code y cc maxL none :: TBG) (RN d kc ks) (PN KD g b0 av n z h) Qc kc ks free := by
  refine Met.ofW (cc := cc) (maxL := maxL) (ret := none) hy rfl ?_
  intro p e s m args below meth c s₁ BL hml hv
  obtain ⟨rfl, hw, hz, hE, hH, hga, ha1, ha2⟩ := hv
  have hts := atoms_spec (ws := Cond.code y cc maxL none :: TBG) BL.pre
  have F : FN p s m av.toArray meth c cc maxL y.cls g b0 := ⟨BL.exec, BL.bytes, hml, findClass_of_methodNamed BL.named, fun w hw => hts w (List.mem_cons_of_mem _ hw), hE, hH, hga, BL.notSynchronized, by rw [(name_of_methodNamed BL.named BL.method).1]; exact hnm, ha1, ha2⟩
  have hl := lv_entry av (n := maxL) hm
  rw [lg_entry_eq]
  exact body p e s m below meth c BL.returns F _ _ _ hl hw hz ⟨Nat.le_refl _, fun _ _ => rfl, fun _ h => by cases h⟩
theorem n_after {n' N kc ks : Nat} {z' : Nat → Nat → Bool} {h' : ST} {av : Array Value} {H : Heap} {locs : List Loc} {ls : Array Slot} {st0 : List Value} (hN : o ≤ N)
    (hr : va_Run p l e R s m args below meth c H locs cells slots kc ks (F0 m pc ls st0) st (QN KD g b0 N n' z' h' av) (fun q => b0 + N ≤ q)) (hl : lv_has ls nL lv) (hz : H.size = b0 + n) (hnn : n ≤ n') (hs : SNc b0 o s.heap H locs)
    (kk : VN p l e R s m args below meth c Q KD g b0 o nL (cells + kc) (slots + ks) n' z' h' (pc + 3) lv st) : W p l e R s m args below meth c H locs cells slots Q (F0 m pc ls st0) := by
  intro T hT X
  obtain ⟨v, st₀, t, T', L, h0, X', hL, e1, e2, ⟨ho, hw, hz1, hk⟩, stp⟩ := hr T hT X
  cases ho
  rw [h0] at hk
  obtain ⟨t2, a1, b1⟩ := kk ls T'.heap (locs ++ L) hl (by rw [e1]; exact hw) (by rw [e1]; exact hz1) ⟨Nat.le_trans hs.1 (by rw [e1, hz1, hz]; omega), fun q h1 => by rw [e1, hk q (by omega)]; exact hs.2.1 q h1, fun q hq => by
      rcases List.mem_append.mp hq with h9 | h9
      · exact hs.2.2 q h9
      · have := hL q h9; omega⟩ T' rfl X'
  exact ⟨t2, stp t2 a1, b1⟩
/-- a constructor's call, plain or of a nest mate -/
theorem n_callI (F : FN p s m args meth c cc nL own g b0) {idx N n' kc ks d D1 k1 k2 : Nat} {y : MethodName} {bytes : ByteArray} {maxL na : Nat} {As st0 : List Value} {z' : Nat → Nat → Bool} {h' : ST} (hR : R = RN D1 k1 k2)
    (cl : CLK own idx y bytes maxL none na ∧ Cond.instanceMethod y ∈ TBG) (hy : y.name = "<init>") (hdg : decode cc pc = .ok (.invokespecial idx, 3)) (hM : NT l y bytes maxL d kc ks KD g b0 N (.ref (gA g N) :: As) n z h n' z' h') (hoN : o ≤ N) (hnn : n ≤ n') (hn : As.length = na) (hst : st0 = As.reverse ++ .ref (gA g N) :: st) (hW : (st.map fun v => v.category).sum ≤ 8) (hd : d + 1 ≤ D1) (hc : cells + kc ≤ k1) (hk : slots + ks ≤ k2)
    (kk : VN p l e R s m args below meth c Q KD g b0 o nL (cells + kc) (slots + ks) n' z' h' (pc + 3) lv st) : VN p l e R s m args below meth c Q KD g b0 o nL cells slots n z h pc lv st0 := by
  intro ls H locs hl hw hz hs
  subst hR
  obtain ⟨⟨c1, c2, c3, c4, c5, c6, c7⟩, c8⟩ := cl
  have cb : CallB (RN D1 k1 k2) s args own idx y bytes maxL none (Cond.code y bytes maxL none :: TBG) (RN d kc ks) kc ks na := callB_of na F.2.2.2.2.1 (goodT c3) rfl rfl rfl (F.w c2) (F.w c1) ⟨c5, c6, c7⟩ ⟨hd, by show 8 + (maxL + 11) + 200 * d ≤ 200 * D1; omega⟩
  exact n_after hoN (va_runI (As := As) (rest := st) ⟨F.1, F.2.1, F.2.2.1, F.2.2.2.1, F.2.2.2.2.1⟩ hM ⟨cb, hy, F.w c8⟩ ⟨PN.blind, F.pre hw hz hs _⟩ rfl hn hl.1 hst (by show 2 * 0 + _ ≤ 8; omega) hdg ⟨hc, hk⟩) hl hz hnn hs kk
theorem n_callIN (F : FN p s m args meth c cc nL own g b0) {idx N n' kc ks d D1 k1 k2 : Nat} {host : String} {y : MethodName} {bytes : ByteArray} {maxL na : Nat} {As st0 : List Value} {z' : Nat → Nat → Bool} {h' : ST} (hR : R = RN D1 k1 k2)
    (hl0 : Cond.methodLinkNest own idx y host ∈ NW) (cl : Cond.initialized y.cls ∈ TBG ∧ Cond.code y bytes maxL none ∈ TBG ∧ maxL ≤ 45 ∧ Cond.instanceMethod y ∈ TBG) (cy : y.cls ≠ "java/lang/invoke/MethodHandle" ∧ y.cls ≠ "java/lang/invoke/VarHandle" ∧ (parseMethodDescriptor y.desc).map (fun d => d.parameters.length) = some na) (hy : y.name = "<init>") (hdg : decode cc pc = .ok (.invokespecial idx, 3)) (hM : NT l y bytes maxL d kc ks KD g b0 N (.ref (gA g N) :: As) n z h n' z' h') (hoN : o ≤ N) (hnn : n ≤ n') (hn : As.length = na) (hst : st0 = As.reverse ++ .ref (gA g N) :: st) (hW : (st.map fun v => v.category).sum ≤ 8) (hd : d + 1 ≤ D1) (hc : cells + kc ≤ k1) (hk : slots + ks ≤ k2)
    (kk : VN p l e R s m args below meth c Q KD g b0 o nL (cells + kc) (slots + ks) n' z' h' (pc + 3) lv st) : VN p l e R s m args below meth c Q KD g b0 o nL cells slots n z h pc lv st0 := by
  intro ls H locs hl hw hz hs
  subst hR
  have cn : va_CN (RN D1 k1 k2) s args own idx y host bytes maxL none (Cond.code y bytes maxL none :: TBG) (RN d kc ks) kc ks na := va_cnB na F.2.2.2.2.1 (goodT cl.2.1) rfl rfl rfl (F.2.2.2.2.2.1.2.2.1 _ hl0) (F.w cl.1) cy ⟨hd, by show 8 + (maxL + 11) + 200 * d ≤ 200 * D1; have := cl.2.2.1; omega⟩
  exact n_after hoN (va_runIN (As := As) (rest := st) ⟨F.1, F.2.1, F.2.2.1, F.2.2.2.1, F.2.2.2.2.1⟩ hM ⟨cn, hy, F.w cl.2.2.2⟩ ⟨PN.blind, F.pre hw hz hs _⟩ rfl hn hl.1 hst (by show 2 * 0 + _ ≤ 8; omega) hdg ⟨hc, hk⟩) hl hz hnn hs kk
theorem VN_lv {lv' : List (Nat × Value)} (hk : lv = lv') (kk : VN p l e R s m args below meth c Q KD g b0 o nL cells slots n z h pc lv' st) : VN p l e R s m args below meth c Q KD g b0 o nL cells slots n z h pc lv st := hk ▸ kk
theorem VN_z {z' : Nat → Nat → Bool} (hk : z = z') (kk : VN p l e R s m args below meth c Q KD g b0 o nL cells slots n z' h pc lv st) : VN p l e R s m args below meth c Q KD g b0 o nL cells slots n z h pc lv st := hk ▸ kk
theorem VN_zc {z' : Nat → Nat → Bool} (he : ∀ i k, i < n → ((KD i).1 < 20 → k < nF (KD i).1 → FT (KD i).1 k ≠ 0 → z i k = z' i k) ∧ (23 ≤ (KD i).1 → k < (KD i).2 → z i k = z' i k)) (kk : VN p l e R s m args below meth c Q KD g b0 o nL cells slots n z' h pc lv st) : VN p l e R s m args below meth c Q KD g b0 o nL cells slots n z h pc lv st := fun ls H locs hl hw hz hs => kk ls H locs hl (hw.zc he) hz hs
theorem str_cell (F : FN p s m args meth c cc nL own g b0) {H : Heap} {locs : List Loc} (hs : SNc b0 o s.heap H locs) {j : Nat} (hj : j < SN) : ∃ cell : Cell, H[gK g j]? = some cell ∧ cell.vm.isStatics = false ∧ s.vm.findClass "java/lang/String" = some cell.cls := by
  obtain ⟨cell, h1, h2, h3, -⟩ := (F.2.2.2.2.2.2.1.1.1 j hj).1.kept (H1 := H) (fun a h1 h2 => hs.2.1 a (by omega))
  exact ⟨cell, h1, h2, h3⟩
theorem zz_1 {b N : Nat} : zw z N (b + 1) N b = true := by unfold zw; rw [if_neg (Nat.lt_irrefl N), if_pos rfl]; simp
theorem zz_2 {b N : Nat} (a k : Nat) (hn : ¬ (a = N ∧ k = b)) : zw z N (b + 1) a k = zw z N b a k := by
  unfold zw
  by_cases h1 : a < N
  · rw [if_pos h1, if_pos h1]
  · rw [if_neg h1, if_neg h1]
    by_cases h2 : a = N
    · rw [if_pos h2, if_pos h2]
      have h3 : k ≠ b := fun q => hn ⟨h2, q⟩
      by_cases h4 : k < b
      · rw [decide_eq_true h4, decide_eq_true (by omega)]
      · rw [decide_eq_false h4, decide_eq_false (by omega)]
    · rw [if_neg h2, if_neg h2]
theorem zz_full {zr : Nat → Nat → Bool} {cn N b kd : Nat} (hoN : o < N) (hk : KD N = (kd, b)) (h20 : 20 ≤ kd) : ∀ i k, i < n → ((KD i).1 < 20 → k < nF (KD i).1 → FT (KD i).1 k ≠ 0 → zw (zw zr o cn) N b i k = zw zr o cn i k) ∧ (23 ≤ (KD i).1 → k < (KD i).2 → zw (zw zr o cn) N b i k = zw zr o cn i k) := by
  intro i k _
  by_cases h1 : i = N
  · subst h1
    refine ⟨fun h3 => absurd h3 (by rw [hk]; show ¬ kd < 20; omega), fun _ h4 => ?_⟩
    rw [hk] at h4
    have h4 : k < b := h4
    have e1 : zw (zw zr o cn) i b i k = true := by unfold zw; rw [if_neg (Nat.lt_irrefl i), if_pos rfl]; simp [h4]
    have e2 : zw zr o cn i k = true := by unfold zw; rw [if_neg (by omega), if_neg (by omega)]
    rw [e1, e2]
  · have e1 : zw (zw zr o cn) N b i k = zw zr o cn i k := by
      by_cases h2 : i < N
      · show (if i < N then _ else _) = _
        rw [if_pos h2]
      · show (if i < N then _ else _) = _
        rw [if_neg h2, if_neg h1]
        unfold zw; rw [if_neg (by omega), if_neg (by omega)]
    exact ⟨fun _ _ _ => e1, fun _ _ => e1⟩
def QD (KD : Nat → Nat × Nat) (n : Nat) (g : GE) (b0 : Nat) (h' : ST) : Array Value → State → Outcome → State → Prop := fun _ st oc t => oc = .returned none ∧ WO KD n g zT h' t.heap ∧ st.heap.size ≤ t.heap.size ∧ ∀ q : Nat, q < b0 → t.heap[q]? = st.heap[q]?
/-- the last call of a constructor, of a method of the finished cells; then it ends -/
theorem n_last (F : FN p s m args meth c cc nL own g b0) {idx q ci d D1 k1 k2 na : Nat} {y : MethodName} {bytes : ByteArray} {maxL : Nat} {As st0 : List Value} {h' : ST} (hR : R = RN D1 k1 k2) (ho0 : o = 0) (hr : meth.sig.returnType = none) (cl : CLV own idx y bytes maxL none na) (hdg : decode cc pc = .ok (.invokevirtual idx, 3)) (hd2 : decode cc (pc + 3) = .ok (.return_, 1))
    (hM : CT l y bytes maxL none d KD n g b0 (.ref (gA g q) :: As) h none h') (hq : q < n) (hk : KD q = (ci, 0)) (hc : (vwCl[ci]?).map (fun q => q.1) = some y.cls ∧ ci < 20) (hn : As.length = na) (hst : st0 = As.reverse ++ [.ref (gA g q)]) (hd : d + 1 ≤ D1) (hc1 : cells ≤ k1) (hc2 : slots ≤ k2)
    (he : ∀ i k, i < n → ((KD i).1 < 20 → k < nF (KD i).1 → FT (KD i).1 k ≠ 0 → z i k = zT i k) ∧ (23 ≤ (KD i).1 → k < (KD i).2 → z i k = zT i k)) :
    VN p l e R s m args below meth c (MQ below (QD KD n g b0 h') args s k1 k2 (fun q => b0 ≤ q)) KD g b0 o nL cells slots n z h pc lv st0 := by
  intro ls H locs hl hw hz hs
  subst hR; subst ho0
  have hwT := hw.zc he
  have hga := F.2.2.2.2.2.2.2.1
  have hcell : ∃ cellB : Cell, H[gA g q]? = some cellB ∧ cellB.vm.isStatics = false ∧ s.vm.findClass y.cls = some cellB.cls := by
    obtain ⟨hc, hci⟩ := hc
    have hk : (KD q).1 = ci := by rw [hk]
    obtain ⟨cell, h1, h2, h3, -⟩ := (hwT.1 q hq).1 (by rw [hk]; exact hci)
    cases hq : vwCl[ci]? with
    | none => rw [hq] at hc; cases hc
    | some r =>
      rw [hq] at hc
      have h9 : r.1 = y.cls := Option.some.inj hc
      refine ⟨cell, h1, by rw [h3]; rfl, ?_⟩
      rw [h2, hk, ← h9]
      exact (F.2.2.2.2.2.1.1 ci r hq).2.1
  obtain ⟨⟨c1, c2, c3, c4, c5, c6, c7⟩, c8, c9⟩ := cl
  have cb : CallB (RN D1 k1 k2) s args own idx y bytes maxL none (Cond.code y bytes maxL none :: TBG) (RM d 0) 0 0 na := callB_of na F.2.2.2.2.1 (goodT c3) rfl rfl rfl (F.w c2) (F.w c1) ⟨c5, c6, c7⟩ ⟨hd, by show 8 + (maxL + 11) + 200 * d ≤ 200 * D1; omega⟩
  have hpre : ∀ U : State, U.heap = H → s.WarmedH U.vm → PC KD n g b0 (.ref (gA g q) :: As) h (Value.ref (gA g q) :: As).toArray U := by
    intro U hU hW
    refine ⟨rfl, by rw [hU]; exact hwT, EV.warm hW F.2.2.2.2.2.1, ?_, fun i _ => by rw [hga]; omega, by rw [hU, hz]; omega⟩
    rw [hU]
    refine EH.moved hW.alike ((F.2.2.2.2.2.2.1.kept (fun a h1 h2 => hs.2.1 a (by omega))).narrow ?_)
    rintro a (⟨i, -, h1⟩ | h1)
    · rw [h1, hga]; omega
    · rw [hz] at h1; omega
  have hrun := va_runV (l := l) (p := p) (e := e) (below := below) (meth := meth) (locs := locs) (cells := cells) (slots := slots) (R := RN D1 k1 k2) (As := As) (rest := []) (C := y.cls) (g := F0 m pc ls st0) ⟨F.1, F.2.1, F.2.2.1, F.2.2.2.1, F.2.2.2.2.1⟩ hM ⟨cb, F.w c8, F.w c9⟩ ⟨PC.blind, hcell, hpre⟩ rfl hn hl.1 hst (by show 2 * 0 + 0 ≤ 8; omega) hdg ⟨hc1, hc2⟩
  intro T hT X
  obtain ⟨v, st₀, t, T', L, h0, X', hL, e1, e2, ⟨ho, hw', hz', hk'⟩, stp⟩ := hrun T hT X
  cases ho
  rw [h0] at hz' hk'
  have kk : W p l e (RN D1 k1 k2) s m args below meth c T'.heap (locs ++ L) cells slots (MQ below (QD KD n g b0 h') args s k1 k2 (fun q => b0 ≤ q)) (F0 m (pc + 3) ls []) := by
    have hx1 : ∀ a : Nat, a < b0 → t.heap[a]? = s.heap[a]? := fun a ha => by
      rw [hk' a (by rw [hz]; omega) (fun i _ => Nat.ne_of_lt (by rw [hga]; omega))]
      exact hs.2.1 a (by omega)
    have hx2 : ∀ a ∈ locs ++ L, b0 ≤ a.base := fun a ha => by
      rcases List.mem_append.mp ha with h9 | h9
      · have := hs.2.2 a h9; omega
      · obtain ⟨i, -, h8⟩ := hL a h9
        rw [h8, hga]; omega
    exact W.widen hc1 hc2 (W.vret F.1 F.2.1 hr (fun u hu _ => ⟨rfl, by rw [hu, e1]; exact hw', by rw [hu, e1]; exact Nat.le_trans hs.1 hz', fun a ha => by rw [hu, e1]; exact hx1 a ha⟩) hx2 hd2 (hlocks := F.2.2.2.2.2.2.2.2.1))
  obtain ⟨t2, a1, b1⟩ := kk T' rfl X'
  exact ⟨t2, stp t2 a1, b1⟩
end VC
