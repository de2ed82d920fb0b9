def CLW (idx : Nat) (y : MethodName) (bytes : ByteArray) (maxL : Nat) (hh : List (Nat × Nat × Nat × Nat)) (n : Nat) : Prop :=
  Cond.methodLink "DustParishLaw" idx y ∈ TBG ∧ Cond.initialized y.cls ∈ TBG ∧ Cond.codeWith y bytes maxL (some .int) hh ∈ TBG ∧ maxL ≤ 45 ∧ y.cls ≠ "java/lang/invoke/MethodHandle" ∧ y.cls ≠ "java/lang/invoke/VarHandle" ∧ (parseMethodDescriptor y.desc).map (fun d => d.parameters.length) = some n ∧ Cond.static y ∈ TBG
theorem wo_lt {KD : Nat → Nat × Nat} {n : Nat} {g : GE} {z : Nat → Nat → Bool} {h : ST} {H : Heap} (w : WO KD n g z h H) {i : Nat} (hi : i < n) : gA g i < H.size := by
  by_cases h9 : (KD i).1 < 20
  · obtain ⟨cell, q1, -⟩ := (w.1 i hi).1 h9
    exact (Array.getElem?_eq_some_iff.mp q1).1
  · exact (Array.getElem?_eq_some_iff.mp ((w.1 i hi).2 (by omega))).1
/-! ===== the law's body: both objects' cells, the script ===== -/
def PL (gc gm : GE) (s : State) (hc hm : ST) (H : Heap) (locs : List Loc) : Prop := WO KW 396 gc zT hc H ∧ WO KM 43 gm zT hm H ∧ (∀ i j, i < 396 → j < 43 → gA gc i ≠ gA gm j) ∧ (∀ i, i < 396 → s.heap.size ≤ gA gc i) ∧ (∀ j, j < 43 → s.heap.size ≤ gA gm j) ∧ s.heap.size ≤ H.size ∧ (∀ q : Nat, q < s.heap.size → H[q]? = s.heap[q]?) ∧ ∀ l ∈ locs, s.heap.size ≤ l.base
def FL (p : Program) (s : State) (m : MethodId) (args : Array Value) (meth : Method) (c : Code) (gc gm : GE) (b L : Nat) (xs : Nat → Int32) : Prop :=
  p.tables.exec = Jvm.exec ∧ c.code = cL_law ∧ c.maxLocals = 7 ∧ s.vm.findClass "DustParishLaw" = some m.cls ∧ (∀ w ∈ TBG, w.before args s = true) ∧ EV gc s ∧ EV gm s ∧ EH gc (fun q => s.heap.size ≤ q) s s.heap ∧ EH gm (fun q => s.heap.size ≤ q) s s.heap ∧ meth.locks = false ∧ va_X b L xs s s.heap ∧ b < s.heap.size ∧ L ≤ 3072
def VL (p : Program) (l : Launch) (e : Env) (s : State) (m : MethodId) (args : Array Value) (below : List Frame) (meth : Method) (c : Code) (Q : State → Prop) (gc gm : GE) (cells slots : Nat) (hc hm : ST) (pc : Nat) (lv : List (Nat × Value)) (st : List Value) : Prop :=
  ∀ (ls : Array Slot) (H : Heap) (locs : List Loc), lv_has ls 7 lv → PL gc gm s hc hm H locs → W p l e room_1 s m args below meth c H locs cells slots Q (F0 m pc ls st)
section LR
variable {p : Program} {l : Launch} {e : Env} {s : State} {m : MethodId} {args : Array Value} {below : List Frame} {meth : Method} {c : Code} {Q : State → Prop} {gc gm : GE} {b L : Nat} {xs : Nat → Int32} {cells slots : Nat} {hc hm : ST} {pc : Nat} {lv : List (Nat × Value)} {st : List Value}
theorem FL.w (F : FL p s m args meth c gc gm b L xs) {w : Cond} (h : w ∈ TBG) : w.before args s = true := F.2.2.2.2.1 w h
theorem l_iconst (F : FL p s m args meth c gc gm b L xs) {a : Int} {v : Int32} (hdg : decode cL_law pc = .ok (.iconst a, 1)) (hv : Int32.ofInt a = v)
    (kk : VL p l e s m args below meth c Q gc gm cells slots hc hm (pc + 1) lv (.int v :: st)) : VL p l e s m args below meth c Q gc gm cells slots hc hm pc lv st := fun ls H locs hl hp => lv_iconst F.1 F.2.1 hdg hv (kk ls H locs hl hp)
theorem l_bipush (F : FL p s m args meth c gc gm b L xs) {a : Int} {v : Int32} (hdg : decode cL_law pc = .ok (.bipush a, 2)) (hv : (Int8.ofInt a).toInt32 = v)
    (kk : VL p l e s m args below meth c Q gc gm cells slots hc hm (pc + 2) lv (.int v :: st)) : VL p l e s m args below meth c Q gc gm cells slots hc hm pc lv st := fun ls H locs hl hp => lv_bipush F.1 F.2.1 hdg hv (kk ls H locs hl hp)
theorem l_iload_n (F : FL p s m args meth c gc gm b L xs) {a : Fin 4} {i j : Nat} {x : Int32} (hdg : decode cL_law pc = .ok (.iload_n a, 1)) (hi : (a : Nat) = i) (hj : lv[j]? = some (i, .int x))
    (kk : VL p l e s m args below meth c Q gc gm cells slots hc hm (pc + 1) lv (.int x :: st)) : VL p l e s m args below meth c Q gc gm cells slots hc hm pc lv st := fun ls H locs hl hp => lv_iload_n F.1 F.2.1 hdg hi (lv_at hl j hj) (kk ls H locs hl hp)
theorem l_iload (F : FL p s m args meth c gc gm b L xs) {i j : Nat} {x : Int32} (hdg : decode cL_law pc = .ok (.iload i, 2)) (hj : lv[j]? = some (i, .int x))
    (kk : VL p l e s m args below meth c Q gc gm cells slots hc hm (pc + 2) lv (.int x :: st)) : VL p l e s m args below meth c Q gc gm cells slots hc hm pc lv st := fun ls H locs hl hp => lv_iload F.1 F.2.1 hdg (lv_at hl j hj) (kk ls H locs hl hp)
theorem l_aload_n (F : FL p s m args meth c gc gm b L xs) {a : Fin 4} {i j : Nat} {x : Nat} (hdg : decode cL_law pc = .ok (.aload_n a, 1)) (hi : (a : Nat) = i) (hj : lv[j]? = some (i, .ref x))
    (kk : VL p l e s m args below meth c Q gc gm cells slots hc hm (pc + 1) lv (.ref x :: st)) : VL p l e s m args below meth c Q gc gm cells slots hc hm pc lv st := fun ls H locs hl hp => lv_aload_n F.1 F.2.1 hdg hi (lv_at hl j hj) (kk ls H locs hl hp)
theorem l_aload (F : FL p s m args meth c gc gm b L xs) {i j : Nat} {x : Nat} (hdg : decode cL_law pc = .ok (.aload i, 2)) (hj : lv[j]? = some (i, .ref x))
    (kk : VL p l e s m args below meth c Q gc gm cells slots hc hm (pc + 2) lv (.ref x :: st)) : VL p l e s m args below meth c Q gc gm cells slots hc hm pc lv st := fun ls H locs hl hp => lv_aload F.1 F.2.1 hdg (lv_at hl j hj) (kk ls H locs hl hp)
theorem l_iadd (F : FL p s m args meth c gc gm b L xs) {x y : Int32} (hdg : decode cL_law pc = .ok (.iadd, 1))
    (kk : VL p l e s m args below meth c Q gc gm cells slots hc hm (pc + 1) lv (.int (x + y) :: st)) : VL p l e s m args below meth c Q gc gm cells slots hc hm pc lv (.int y :: .int x :: st) := fun ls H locs hl hp => lv_iadd F.1 F.2.1 hdg (kk ls H locs hl hp)
theorem l_isub (F : FL p s m args meth c gc gm b L xs) {x y : Int32} (hdg : decode cL_law pc = .ok (.isub, 1))
    (kk : VL p l e s m args below meth c Q gc gm cells slots hc hm (pc + 1) lv (.int (x - y) :: st)) : VL p l e s m args below meth c Q gc gm cells slots hc hm pc lv (.int y :: .int x :: st) := fun ls H locs hl hp => lv_isub F.1 F.2.1 hdg (kk ls H locs hl hp)
theorem l_iand (F : FL p s m args meth c gc gm b L xs) {x y : Int32} (hdg : decode cL_law pc = .ok (.iand, 1))
    (kk : VL p l e s m args below meth c Q gc gm cells slots hc hm (pc + 1) lv (.int (x &&& y) :: st)) : VL p l e s m args below meth c Q gc gm cells slots hc hm pc lv (.int y :: .int x :: st) := fun ls H locs hl hp => lv_iand F.1 F.2.1 hdg (kk ls H locs hl hp)
theorem l_i2l (F : FL p s m args meth c gc gm b L xs) {x : Int32} {v : Int64} (hdg : decode cL_law pc = .ok (.i2l, 1)) (hv : x.toInt64 = v)
    (kk : VL p l e s m args below meth c Q gc gm cells slots hc hm (pc + 1) lv (.long v :: st)) : VL p l e s m args below meth c Q gc gm cells slots hc hm pc lv (.int x :: st) := fun ls H locs hl hp => lv_i2l F.1 F.2.1 hdg hv (kk ls H locs hl hp)
theorem l_lcmp (F : FL p s m args meth c gc gm b L xs) {x y : Int64} (hdg : decode cL_law pc = .ok (.lcmp, 1)) (kk : VL p l e s m args below meth c Q gc gm cells slots hc hm (pc + 1) lv (.int (lg_cmp x y) :: st)) : VL p l e s m args below meth c Q gc gm cells slots hc hm pc lv (.long y :: .long x :: st) := fun ls H locs hl hp => W.lcmp F.1 F.2.1 hdg (kk ls H locs hl hp)
theorem l_istore (F : FL p s m args meth c gc gm b L xs) {i : Nat} {x : Int32} {lv' : List (Nat × Value)} (hdg : decode cL_law pc = .ok (.istore i, 2)) (hn : i < 7) (he : lset lv i (.int x) = lv') (kk : VL p l e s m args below meth c Q gc gm cells slots hc hm (pc + 2) lv' st) : VL p l e s m args below meth c Q gc gm cells slots hc hm pc lv (.int x :: st) := fun ls H locs hl hp => lv_istore F.1 F.2.1 hdg hl hn rfl (fun ls' hl' => kk ls' H locs (he ▸ lset_has hl') hp)
theorem l_iinc (F : FL p s m args meth c gc gm b L xs) {i j : Nat} {a : Int} {x v : Int32} {lv' : List (Nat × Value)} (hdg : decode cL_law pc = .ok (.iinc i a, 3)) (hj : lv[j]? = some (i, .int x)) (hv : x + Int32.ofInt a = v) (hn : i < 7) (he : lset lv i (.int v) = lv') (kk : VL p l e s m args below meth c Q gc gm cells slots hc hm (pc + 3) lv' st) : VL p l e s m args below meth c Q gc gm cells slots hc hm pc lv st := fun ls H locs hl hp => lv_iinc F.1 F.2.1 hdg hl hj hv hn rfl (fun ls' hl' => kk ls' H locs (he ▸ lset_has hl') hp)
theorem l_goto (F : FL p s m args meth c gc gm b L xs) {off : Int} {tgt : Nat} (hdg : decode cL_law pc = .ok (.goto off, 3)) (ht : (pc : Int) + off = (tgt : Int)) (kk : VL p l e s m args below meth c Q gc gm cells slots hc hm tgt lv st) : VL p l e s m args below meth c Q gc gm cells slots hc hm pc lv st := fun ls H locs hl hp => lv_goto F.1 F.2.1 hdg ht (kk ls H locs hl hp)
theorem l_icmp_eq (F : FL p s m args meth c gc gm b L xs) {x y : Int32} {off : Int} {tgt : Nat} (hdg : decode cL_law pc = .ok (.if_icmp .eq off, 3)) (ht : (pc : Int) + off = (tgt : Int)) (kt : x = y → VL p l e s m args below meth c Q gc gm cells slots hc hm tgt lv st) (kf : ¬ x = y → VL p l e s m args below meth c Q gc gm cells slots hc hm (pc + 3) lv st) : VL p l e s m args below meth c Q gc gm cells slots hc hm pc lv (.int y :: .int x :: st) := fun ls H locs hl hp => lv_icmp_eq F.1 F.2.1 hdg ht (fun q => kt q ls H locs hl hp) (fun q => kf q ls H locs hl hp)
theorem l_icmp_gt (F : FL p s m args meth c gc gm b L xs) {x y : Int32} {off : Int} {tgt : Nat} (hdg : decode cL_law pc = .ok (.if_icmp .gt off, 3)) (ht : (pc : Int) + off = (tgt : Int)) (kt : y < x → VL p l e s m args below meth c Q gc gm cells slots hc hm tgt lv st) (kf : ¬ y < x → VL p l e s m args below meth c Q gc gm cells slots hc hm (pc + 3) lv st) : VL p l e s m args below meth c Q gc gm cells slots hc hm pc lv (.int y :: .int x :: st) := fun ls H locs hl hp => lv_icmp_gt F.1 F.2.1 hdg ht (fun q => kt q ls H locs hl hp) (fun q => kf q ls H locs hl hp)
theorem l_if_eq (F : FL p s m args meth c gc gm b L xs) {x : Int32} {off : Int} {tgt : Nat} (hdg : decode cL_law pc = .ok (.ifCond .eq off, 3)) (ht : (pc : Int) + off = (tgt : Int)) (kt : x = 0 → VL p l e s m args below meth c Q gc gm cells slots hc hm tgt lv st) (kf : ¬ x = 0 → VL p l e s m args below meth c Q gc gm cells slots hc hm (pc + 3) lv st) : VL p l e s m args below meth c Q gc gm cells slots hc hm pc lv (.int x :: st) := fun ls H locs hl hp => lv_if_eq F.1 F.2.1 hdg ht (fun q => kt q ls H locs hl hp) (fun q => kf q ls H locs hl hp)
theorem l_if_ne (F : FL p s m args meth c gc gm b L xs) {x : Int32} {off : Int} {tgt : Nat} (hdg : decode cL_law pc = .ok (.ifCond .ne off, 3)) (ht : (pc : Int) + off = (tgt : Int)) (kt : ¬ x = 0 → VL p l e s m args below meth c Q gc gm cells slots hc hm tgt lv st) (kf : x = 0 → VL p l e s m args below meth c Q gc gm cells slots hc hm (pc + 3) lv st) : VL p l e s m args below meth c Q gc gm cells slots hc hm pc lv (.int x :: st) := fun ls H locs hl hp => lv_if_ne F.1 F.2.1 hdg ht (fun q => kt q ls H locs hl hp) (fun q => kf q ls H locs hl hp)
theorem l_tabOut (F : FL p s m args meth c gc gm b L xs) {dflt lo hi : Int} {offs : Array Int} {len : Nat} {x : Int32} {tgt : Nat} (hdg : decode cL_law pc = .ok (.tableswitch dflt lo hi offs, len)) (hx : x.toInt < lo ∨ hi < x.toInt) (ht : (pc : Int) + dflt = (tgt : Int)) (kk : VL p l e s m args below meth c Q gc gm cells slots hc hm tgt lv st) : VL p l e s m args below meth c Q gc gm cells slots hc hm pc lv (.int x :: st) := fun ls H locs hl hp => lv_tableOut F.1 F.2.1 hdg hx ht (kk ls H locs hl hp)
theorem l_tabIn (F : FL p s m args meth c gc gm b L xs) {dflt lo hi : Int} {offs : Array Int} {len : Nat} {x : Int32} {off : Int} {tgt : Nat} (hdg : decode cL_law pc = .ok (.tableswitch dflt lo hi offs, len)) (h1 : ¬ x.toInt < lo) (h2 : ¬ hi < x.toInt) (ho : offs[(x.toInt - lo).toNat]? = some off) (ht : (pc : Int) + off = (tgt : Int)) (kk : VL p l e s m args below meth c Q gc gm cells slots hc hm tgt lv st) : VL p l e s m args below meth c Q gc gm cells slots hc hm pc lv (.int x :: st) := fun ls H locs hl hp => lv_tableIn F.1 F.2.1 hdg h1 h2 ho ht (kk ls H locs hl hp)
theorem l_sld (F : FL p s m args meth c gc gm b L xs) {i : Int32} (hin : vp_in i L) (hdg : decode cL_law pc = .ok (.iaload, 1)) (kk : VL p l e s m args below meth c Q gc gm cells slots hc hm (pc + 1) lv (.int (xs i.toNatClampNeg) :: st)) : VL p l e s m args below meth c Q gc gm cells slots hc hm pc lv (.int i :: .ref b :: st) := by
  intro ls H locs hl hp
  obtain ⟨scr, h1, h2, h3, h4, h5⟩ := F.2.2.2.2.2.2.2.2.2.2.1
  have hlt : i.toNatClampNeg < L := Nat.not_le.mp fun q => hin (Or.inr q)
  exact W.iald (v := .int (xs i.toNatClampNeg)) F.1 F.2.1 (by rw [hp.2.2.2.2.2.2.1 b F.2.2.2.2.2.2.2.2.2.2.2.1]; exact h1) h2 h3 (by rw [h4]; exact hin) (h5 _ hlt) rfl rfl hdg (kk ls H locs hl hp)
theorem l_slen (F : FL p s m args meth c gc gm b L xs) (hdg : decode cL_law pc = .ok (.arraylength, 1)) (kk : VL p l e s m args below meth c Q gc gm cells slots hc hm (pc + 1) lv (.int (Int32.ofNat L) :: st)) : VL p l e s m args below meth c Q gc gm cells slots hc hm pc lv (.ref b :: st) := by
  intro ls H locs hl hp
  obtain ⟨scr, h1, h2, h3, h4, h5⟩ := F.2.2.2.2.2.2.2.2.2.2.1
  exact W.alen (n := Int32.ofNat L) F.1 F.2.1 (by rw [hp.2.2.2.2.2.2.1 b F.2.2.2.2.2.2.2.2.2.2.2.1]; exact h1) h2 (by rw [h4] <;> rfl) rfl rfl hdg (kk ls H locs hl hp)
theorem l_lald (F : FL p s m args meth c gc gm b L xs) (hdg : decode cL_law pc = .ok (.laload, 1)) (kk : VL p l e s m args below meth c Q gc gm cells slots hc hm (pc + 1) lv (.long (hc 395 0).toInt64 :: st)) : VL p l e s m args below meth c Q gc gm cells slots hc hm pc lv (.int 0 :: .ref (gA gc 395) :: st) := by
  intro ls H locs hl hp
  have h9 := (hp.1.1 395 (by omega)).2 (by decide)
  have h9 : H[gA gc 395]? = some (arrV (gR gc 22) 1 (fun j => .long (hc 395 j).toInt64)) := h9
  exact W.lald (v := .long (hc 395 0).toInt64) F.1 F.2.1 h9 ((F.2.2.2.2.2.1.2.1 22 (by decide) (by decide)).1 1 _) (fun q => by cases q) (by show ¬ ((0 : Int32) < 0 ∨ (arrV _ _ _).slots.size ≤ _); rw [arrV_size]; decide) (by show (arrV _ _ _).slots[_]? = _; rw [arrV_read _ _ (by decide)]; rfl) rfl rfl hdg (kk ls H locs hl hp)
theorem l_arg (F : FL p s m args meth c gc gm b L xs) {i k : Nat} {iv kv : Int32} {ka : Int} {j4 : Nat} (hiv : iv = nI i) (hkv : kv = nI k) (hik : i + k < L) (hj0 : lv[0]? = some (0, .ref b)) (hj4 : lv[j4]? = some (4, .int iv)) (hka : Int32.ofInt ka = kv)
    (d0 : decode cL_law pc = .ok (.aload_n 0, 1)) (d1 : decode cL_law (pc + 1) = .ok (.iload 4, 2)) (d2 : decode cL_law (pc + 3) = .ok (.iconst ka, 1)) (d3 : decode cL_law (pc + 4) = .ok (.iadd, 1)) (d4 : decode cL_law (pc + 5) = .ok (.iaload, 1))
    (kk : VL p l e s m args below meth c Q gc gm cells slots hc hm (pc + 6) lv (.int (xs (i + k)) :: st)) : VL p l e s m args below meth c Q gc gm cells slots hc hm pc lv st := by
  have hL := F.2.2.2.2.2.2.2.2.2.2.2.2
  refine l_aload_n (pc := pc) (j := 0) F d0 rfl hj0 ?_
  refine l_iload (pc := pc + 1) (j := j4) F d1 hj4 ?_
  refine l_iconst (pc := pc + 3) (v := kv) F d2 hka ?_
  refine l_iadd (pc := pc + 4) F d3 ?_
  have e9 : iv + kv = nI (i + k) := by rw [hiv, hkv]; exact nI_add i k
  rw [e9]
  refine l_sld (pc := pc + 5) F (vp_in_nI hik (by omega)) d4 ?_
  rw [nI_clamp (by omega)]
  exact kk
theorem l_pre (g : GE) (KD : Nat → Nat × Nat) (n : Nat) (hE : EV g s) (hH : EH g (fun q => s.heap.size ≤ q) s s.heap) {h : ST} {H : Heap} {locs : List Loc} (hp : PL gc gm s hc hm H locs) (hw : WO KD n g zT h H) (hg : ∀ i, i < n → s.heap.size ≤ gA g i) (av : List Value) : ∀ U : State, U.heap = H → s.WarmedH U.vm → PC KD n g s.heap.size av h av.toArray U := by
  intro U hU hW
  refine ⟨rfl, by rw [hU]; exact hw, EV.warm hW hE, ?_, hg, by rw [hU]; exact hp.2.2.2.2.2.1⟩
  rw [hU]
  refine EH.moved hW.alike ((hH.kept (fun a h1 h2 => hp.2.2.2.2.2.2.1 a h1)).narrow ?_)
  rintro q (⟨i, h1, h2⟩ | h1)
  · rw [h2]; exact hg i h1
  · exact Nat.le_trans hp.2.2.2.2.2.1 h1
theorem l_cellB (F : FL p s m args meth c gc gm b L xs) {g : GE} {KD : Nat → Nat × Nat} {n ci : Nat} {r : vw_C} {h : ST} {H : Heap} (hE : EV g s) (hw : WO KD n g zT h H) (h0 : 0 < n) (hk : KD 0 = (ci, 0)) (hci : ci < 20) (hr : vwCl[ci]? = some r) {y : MethodName} (hc : y.cls = r.1) : ∃ cellB : Cell, H[gA g 0]? = some cellB ∧ cellB.vm.isStatics = false ∧ s.vm.findClass y.cls = some cellB.cls := by
  obtain ⟨cell, h1, h2, h3, -⟩ := (hw.1 0 h0).1 (by rw [hk]; exact hci)
  refine ⟨cell, h1, by rw [h3]; rfl, ?_⟩
  rw [h2, hk, hc]
  exact (hE.1 ci r hr).2.1
theorem CLK.callBL (F : FL p s m args meth c gc gm b L xs) {idx : Nat} {y : MethodName} {bytes : ByteArray} {maxL : Nat} {ret : Option FieldType} {na d : Nat} (cl : CLK "DustParishLaw" idx y bytes maxL ret na) (hd : d ≤ 300) :
    CallB room_1 s args "DustParishLaw" idx y bytes maxL ret (Cond.code y bytes maxL ret :: TBG) (RM d 0) 0 0 na := by
  obtain ⟨c1, c2, c3, c4, c5, c6, c7⟩ := cl
  exact callB_of na F.2.2.2.2.1 (goodT c3) rfl rfl rfl (F.w c2) (F.w c1) ⟨c5, c6, c7⟩ ⟨by show d + 1 ≤ 2048; omega, by show 8 + (maxL + 11) + 200 * d ≤ 84000; omega⟩
/-- a method of the class that doesn't throw -/
theorem l_callC (F : FL p s m args meth c gc gm b L xs) {idx : Nat} {y : MethodName} {bytes : ByteArray} {maxL : Nat} {ret : Option FieldType} {na d : Nat} {As st0 : List Value} {ov : Option Value} {h' : ST} (cl : CLV "DustParishLaw" idx y bytes maxL ret na) (hdg : decode cL_law pc = .ok (.invokevirtual idx, 3)) (hM : CT l y bytes maxL ret d KC 395 gc s.heap.size (.ref (gA gc 0) :: As) hc ov h') (hy : y.cls = "DustParish") (hn : As.length = na) (hst : st0 = As.reverse ++ .ref (gA gc 0) :: st) (hW : (st.map fun v => v.category).sum ≤ 8) (hd : d ≤ 300) (hce : cells ≤ 601024 ∧ slots ≤ 7293034)
    (kk : VL p l e s m args below meth c Q gc gm cells slots (mg hc h') hm (pc + 3) lv (ov.toList ++ st)) : VL p l e s m args below meth c Q gc gm cells slots hc hm pc lv st0 := by
  intro ls H locs hl hp
  have hrun := va_runV (l := l) (p := p) (e := e) (below := below) (meth := meth) (locs := locs) (cells := cells) (slots := slots) (R := room_1) (As := As) (rest := st) (C := y.cls) (g := F0 m pc ls st0) ⟨F.1, F.2.1, F.2.2.1, F.2.2.2.1, F.2.2.2.2.1⟩ hM ⟨cl.1.callBL F hd, F.w cl.2.1, F.w cl.2.2⟩ ⟨PC.blind, l_cellB F F.2.2.2.2.2.1 (WO_sub hp.1) (by omega) kc_0.2 (by decide) rfl hy, l_pre gc KC 395 F.2.2.2.2.2.1 F.2.2.2.2.2.2.2.1 hp (WO_sub hp.1) (fun i hi => hp.2.2.2.1 i (by omega)) _⟩ rfl hn hl.1 hst (by show 2 * 0 + _ ≤ 8; omega) hdg hce
  obtain ⟨q1, q2, q3, q4, q5, q6, q7, q8⟩ := hp
  intro T hT X
  obtain ⟨v, st₀, t, T', L9, h0, X', hL, e1, e2, ⟨ho, hw1, hz, hk⟩, stp⟩ := hrun T hT X
  cases ho
  rw [h0] at hz hk
  have hl9 : gA gc 395 < H.size := (Array.getElem?_eq_some_iff.mp ((q1.1 395 (by omega)).2 (by decide))).1
  have e9 : t.heap[gA gc 395]? = H[gA gc 395]? := hk _ hl9 (fun i hi e => by have := q1.2 395 i (by omega) (by omega) e; omega)
  obtain ⟨t2, a1, b1⟩ := kk ls T'.heap (locs ++ L9) hl ⟨by rw [e1]; exact WO_sup q1 hw1 e9, by rw [e1]; exact q2.kept (fun i hi => hk _ (wo_lt q2 hi) (fun j hj e => q3 j i (by omega) hi e.symm)), q3, q4, q5, by rw [e1]; exact Nat.le_trans q6 hz, fun q h1 => by rw [e1, hk q (Nat.lt_of_lt_of_le h1 q6) (fun i hi => Nat.ne_of_lt (Nat.lt_of_lt_of_le h1 (q4 i (by omega))))]; exact q7 q h1, fun q hq => by
      rcases List.mem_append.mp hq with h9 | h9
      · exact q8 q h9
      · obtain ⟨i, hi, h8⟩ := hL q h9
        rw [h8]; exact q4 i (by omega)⟩ T' rfl X'
  exact ⟨t2, stp t2 a1, b1⟩
/-- a method of the reference -/
theorem l_callM (F : FL p s m args meth c gc gm b L xs) {idx : Nat} {y : MethodName} {bytes : ByteArray} {maxL : Nat} {ret : Option FieldType} {na d : Nat} {As st0 : List Value} {ov : Option Value} {h' : ST} (cl : CLV "DustParishLaw" idx y bytes maxL ret na) (hdg : decode cL_law pc = .ok (.invokevirtual idx, 3)) (hM : CT l y bytes maxL ret d KM 43 gm s.heap.size (.ref (gA gm 0) :: As) hm ov h') (hy : y.cls = "DustParishModel") (hn : As.length = na) (hst : st0 = As.reverse ++ .ref (gA gm 0) :: st) (hW : (st.map fun v => v.category).sum ≤ 8) (hd : d ≤ 300) (hce : cells ≤ 601024 ∧ slots ≤ 7293034)
    (kk : VL p l e s m args below meth c Q gc gm cells slots hc h' (pc + 3) lv (ov.toList ++ st)) : VL p l e s m args below meth c Q gc gm cells slots hc hm pc lv st0 := by
  intro ls H locs hl hp
  have hrun := va_runV (l := l) (p := p) (e := e) (below := below) (meth := meth) (locs := locs) (cells := cells) (slots := slots) (R := room_1) (As := As) (rest := st) (C := y.cls) (g := F0 m pc ls st0) ⟨F.1, F.2.1, F.2.2.1, F.2.2.2.1, F.2.2.2.2.1⟩ hM ⟨cl.1.callBL F hd, F.w cl.2.1, F.w cl.2.2⟩ ⟨PC.blind, l_cellB F F.2.2.2.2.2.2.1 hp.2.1 (by omega) km_0.2 (by decide) rfl hy, l_pre gm KM 43 F.2.2.2.2.2.2.1 F.2.2.2.2.2.2.2.2.1 hp hp.2.1 hp.2.2.2.2.1 _⟩ rfl hn hl.1 hst (by show 2 * 0 + _ ≤ 8; omega) hdg hce
  obtain ⟨q1, q2, q3, q4, q5, q6, q7, q8⟩ := hp
  intro T hT X
  obtain ⟨v, st₀, t, T', L9, h0, X', hL, e1, e2, ⟨ho, hw1, hz, hk⟩, stp⟩ := hrun T hT X
  cases ho
  rw [h0] at hz hk
  obtain ⟨t2, a1, b1⟩ := kk ls T'.heap (locs ++ L9) hl ⟨by rw [e1]; exact q1.kept (fun i hi => hk _ (wo_lt q1 hi) (fun j hj e => q3 i j hi hj e)), by rw [e1]; exact hw1, q3, q4, q5, by rw [e1]; exact Nat.le_trans q6 hz, fun q h1 => by rw [e1, hk q (Nat.lt_of_lt_of_le h1 q6) (fun i hi => Nat.ne_of_lt (Nat.lt_of_lt_of_le h1 (q5 i hi)))]; exact q7 q h1, fun q hq => by
      rcases List.mem_append.mp hq with h9 | h9
      · exact q8 q h9
      · obtain ⟨i, hi, h8⟩ := hL q h9
        rw [h8]; exact q5 i hi⟩ T' rfl X'
  exact ⟨t2, stp t2 a1, b1⟩
/-- one of the law's own methods that catch -/
theorem l_callW (F : FL p s m args meth c gc gm b L xs) {idx : Nat} {y : MethodName} {bytes : ByteArray} {maxL : Nat} {hh : List (Nat × Nat × Nat × Nat)} {na d K : Nat} {As st0 : List Value} {r : Int32} {h' : ST} (cl : CLW idx y bytes maxL hh na) (hdg : decode cL_law pc = .ok (.invokestatic idx, 3)) (hM : WT l y bytes maxL hh d K gc s.heap.size As hc r h') (hn : As.length = na) (hst : st0 = As.reverse ++ st) (hW : (st.map fun v => v.category).sum ≤ 8) (hd : d ≤ 300) (hK : K ≤ 3) (hce : cells + 3 ≤ 601024 ∧ slots + 18 ≤ 7293034)
    (kk : VL p l e s m args below meth c Q gc gm (cells + 3) (slots + 18) h' hm (pc + 3) lv (.int r :: st)) : VL p l e s m args below meth c Q gc gm cells slots hc hm pc lv st0 := by
  intro ls H locs hl hp
  obtain ⟨c1, c2, c3, c4, c5, c6, c7, c8⟩ := cl
  have cw : vx_CSW room_1 s args "DustParishLaw" idx y bytes maxL (some .int) hh (Cond.codeWith y bytes maxL (some .int) hh :: TBG) (RM d K) K (6 * K) na := by
    refine ⟨⟨rfl, rfl, by show d + 1 ≤ 2048; omega, by show 8 + (maxL + 11) + 200 * d ≤ 84000; omega, pay_in F.2.2.2.2.1 (goodT c3), List.mem_cons_self⟩, F.w c3, F.w c2, ⟨c5, c6⟩, fun sig h => ?_, F.w c1, F.w c8⟩
    have h2 := c7
    rw [h] at h2
    exact (Option.some.inj h2).symm
  have hrun := vx_runSW (l := l) (p := p) (e := e) (below := below) (meth := meth) (locs := locs) (cells := cells) (slots := slots) (R := room_1) (As := As) (rest := st) (g := F0 m pc ls st0) ⟨F.1, F.2.1, F.2.2.1, F.2.2.2.1, F.2.2.2.2.1⟩ hM cw ⟨PC.blind, l_pre gc KW 396 F.2.2.2.2.2.1 F.2.2.2.2.2.2.2.1 hp hp.1 hp.2.2.2.1 _⟩ rfl hn hl.1 hst (by show 2 * 0 + _ ≤ 8; omega) hdg ⟨by show cells + K ≤ 601024; omega, by show slots + 6 * K ≤ 7293034; omega⟩
  obtain ⟨q1, q2, q3, q4, q5, q6, q7, q8⟩ := hp
  intro T hT X
  obtain ⟨v, st₀, t, T', L9, h0, X', hL, e1, e2, ⟨ho, hw1, hz, hk⟩, stp⟩ := hrun T hT X
  cases ho
  rw [h0] at hz hk
  obtain ⟨t2, a1, b1⟩ := W.widen (by omega) (by omega) (kk ls T'.heap (locs ++ L9) hl ⟨by rw [e1]; exact hw1, by rw [e1]; exact q2.kept (fun i hi => hk _ (wo_lt q2 hi) (fun j hj e => q3 j i hj hi e.symm)), q3, q4, q5, by rw [e1]; exact Nat.le_trans q6 hz, fun q h1 => by rw [e1, hk q (Nat.lt_of_lt_of_le h1 q6) (fun i hi => Nat.ne_of_lt (Nat.lt_of_lt_of_le h1 (q4 i hi)))]; exact q7 q h1, fun q hq => by
      rcases List.mem_append.mp hq with h9 | h9
      · exact q8 q h9
      · obtain ⟨i, hi, h8⟩ := hL q h9
        rw [h8]; exact q4 i hi⟩) T' rfl X'
  exact ⟨t2, stp t2 a1, b1⟩
theorem VL_widen {c' s' : Nat} (h1 : cells ≤ c') (h2 : slots ≤ s') (kk : VL p l e s m args below meth c Q gc gm c' s' hc hm pc lv st) : VL p l e s m args below meth c Q gc gm cells slots hc hm pc lv st := fun ls H locs hl hp => W.widen h1 h2 (kk ls H locs hl hp)
theorem VL_sub {lv' : List (Nat × Value)} (ks : List Nat) (hk : lv_pick lv ks = lv') (kk : VL p l e s m args below meth c Q gc gm cells slots hc hm pc lv' st) : VL p l e s m args below meth c Q gc gm cells slots hc hm pc lv st := fun ls H locs hl hp => kk ls H locs (lv_sub hl ks hk) hp
end LR
