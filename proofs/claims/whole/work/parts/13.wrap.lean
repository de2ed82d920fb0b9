/-! ===== the law's own methods that catch: the class's cells, and the row 'out' as cell 395 ===== -/
def KW (i : Nat) : Nat × Nat := if i = 395 then (22, 1) else KC i
theorem KW_lt {i : Nat} (h : i < 395) : KW i = KC i := by unfold KW; rw [if_neg (by omega)]
theorem KW_395 : KW 395 = (22, 1) := rfl
def mg (h h1 : ST) : ST := fun i => if i < 395 then h1 i else h i
theorem WO_sub {g : GE} {h : ST} {H : Heap} (w : WO KW 396 g zT h H) : WO KC 395 g zT h H := by
  refine ⟨fun i hi => ?_, fun i j hi hj => w.2 i j (by omega) (by omega)⟩
  have h9 := w.1 i (by omega)
  unfold CE at h9 ⊢
  rw [KW_lt hi] at h9
  exact h9
theorem WO_sup {g : GE} {h h1 : ST} {H H1 : Heap} (w : WO KW 396 g zT h H) (w1 : WO KC 395 g zT h1 H1) (e : H1[gA g 395]? = H[gA g 395]?) : WO KW 396 g zT (mg h h1) H1 := by
  refine ⟨fun i hi => ?_, w.2⟩
  by_cases h9 : i < 395
  · have h8 := w1.1 i h9
    unfold CE at h8 ⊢
    rw [KW_lt h9]
    have e9 : mg h h1 i = h1 i := by unfold mg; rw [if_pos h9]
    rw [e9]
    exact h8
  · have hi' : i = 395 := by omega
    subst hi'
    exact (w.1 395 (by omega)).kept e (by unfold mg; rw [if_neg (by omega)])
def wrp (cd : Nat → Option Int32) (h : ST) (r : Int32 ⊕ Nat) (h1 : ST) : Option (Int32 × ST) := sm r (fun v => some (0, up2 (mg h h1) 395 0 v)) (fun k => bnd (cd k) fun x => some (x, mg h h1))
def cdN (k : Nat) : Option Int32 := if k = 1 then some 1 else none
def cdI (k : Nat) : Option Int32 := if k = 1 then none else some 1
def cdB (k : Nat) : Option Int32 := if k = 1 then some 1 else some 2
def WT (l : Launch) (y : MethodName) (bytes : ByteArray) (maxL : Nat) (hh : List (Nat × Nat × Nat × Nat)) (d K : Nat) (g : GE) (B : Nat) (av : List Value) (h : ST) (r : Int32) (h' : ST) : Prop :=
  Met l y (Cond.codeWith y bytes maxL (some .int) hh :: TBG) (RM d K) (PC KW 396 g B av h) (QO KW 396 g (some (.int r)) h') K (6 * K) (WA 396 g)
section WR
variable {p : Program} {l : Launch} {e : Env} {D1 K1 : Nat} {s : State} {m : MethodId} {args : Array Value} {below : List Frame} {meth : Method} {c : Code} {Q : State → Prop} {g : GE} {B nL k : Nat} {h : ST} {pc : Nat} {lv : List (Nat × Value)} {st : List Value} {cc : ByteArray} {own : String}
theorem WT.of {y : MethodName} {maxL : Nat} {hh : List (Nat × Nat × Nat × Nat)} {d K : Nat} {av : List Value} {r : Int32} {h' : ST} (hy : plainName y.cls = true) (hm : (lg_sl av).length ≤ maxL)
    (body : ∀ (p : Program) (e : Env) (s : State) (m : MethodId) (below : List Frame) (meth : Method) (c : Code), meth.sig.returnType = some .int → c.exceptionTable.toList = tableOf hh → Fx p s m av.toArray meth c cc maxL y.cls 396 g B →
      V p l e d K s m av.toArray below meth c (MQ below (QO KW 396 g (some (.int r)) h') av.toArray s K (6 * K) (WA 396 g)) KW 396 g B maxL 0 h 0 (lv_args 0 av) []) : WT l y cc maxL hh d K g B av h r h' := by
  unfold WT Met
  refine MetFree.of_bodyS (code := cc) (maxLocals := maxL) (ret := some .int) hy ?_ ?_
  · intro args s m h hn
    obtain ⟨m9, meth, c, hn9, h1, h2, h3, h4, -, h5, h6, -⟩ := Cond.codeWith_spec (atoms_spec (ws := Cond.codeWith y cc maxL (some .int) hh :: TBG) h _ List.mem_cons_self)
    cases hn.symm.trans hn9
    exact ⟨meth, c, h1, h2, h3, h4, h5, h6⟩
  · intro p e s m args below meth c s₁ BL hml hv _
    obtain ⟨rfl, hw, hE, hH, hB⟩ := hv
    have hh0 : s₁.heap = s.heap := by rw [BL.state]; rfl
    have hts := atoms_spec (ws := Cond.codeWith y cc maxL (some .int) hh :: TBG) BL.pre
    have F : Fx p s m av.toArray meth c cc maxL y.cls 396 g B := ⟨BL.exec, BL.bytes, hml, findClass_of_methodNamed BL.named, fun w hw => hts w (List.mem_cons_of_mem _ hw), hE, hH, hB, BL.notSynchronized⟩
    have hl := lv_entry av (n := maxL) hm
    have h9 := body p e s m below meth c BL.returns (vx_table (x := y) BL (hts _ List.mem_cons_self)) F _ _ _ hl hw SV.rf
    rw [← lg_entry_eq] at h9
    obtain ⟨t, a1, o, b1, b2, b3⟩ := h9 s₁ hh0 (Stand.of_body BL)
    exact ⟨t, o, a1, b1, b2, b3⟩
theorem w_pre (F : Fx p s m args meth c cc nL own 396 g B) {H : Heap} {locs : List Loc} (hw : WO KW 396 g zT h H) (hs : SV 396 g B s.heap H locs) (av : List Value) : ∀ U : State, U.heap = H → s.WarmedH U.vm → PC KC 395 g B av h av.toArray U := by
  intro U hU hW
  obtain ⟨q1, q2, q3, q4, q5, q6⟩ := F.pre hw hs av U hU hW
  refine ⟨q1, WO_sub q2, q3, q4.narrow ?_, fun i hi => q5 i (by omega), q6⟩
  rintro q (⟨i, h1, h2⟩ | h1)
  · exact Or.inl ⟨i, by omega, h2⟩
  · exact Or.inr h1
theorem w_cell (F : Fx p s m args meth c cc nL own 396 g B) {y : MethodName} {H : Heap} (hw : WO KW 396 g zT h H) (hc : y.cls = "DustParish") : ∃ cellB : Cell, H[gA g 0]? = some cellB ∧ cellB.vm.isStatics = false ∧ s.vm.findClass y.cls = some cellB.cls := by
  obtain ⟨cell, h1, h2, h3, -⟩ := (hw.1 0 (by omega)).1 (by decide)
  refine ⟨cell, h1, by rw [h3]; rfl, ?_⟩
  rw [h2, hc]
  exact (F.2.2.2.2.2.1.1 9 _ rfl).2.1
/-- the class's method returns -/
theorem w_callI (F : Fx p s m args meth c cc nL own 396 g B) {idx : Nat} {y : MethodName} {bytes : ByteArray} {maxL : Nat} {ret : Option FieldType} {na d K : Nat} {As st0 : List Value} {r : Int32} {h1 : ST} (cl : CLV own idx y bytes maxL ret na) (hdg : decode cc pc = .ok (.invokevirtual idx, 3)) (hM : XT l y bytes maxL ret d K KC 395 g B (.ref (gA g 0) :: As) h (.inl (some (.int r))) h1) (hc : y.cls = "DustParish") (hn : As.length = na) (hst : st0 = As.reverse ++ .ref (gA g 0) :: st) (hW : (st.map fun v => v.category).sum ≤ 8) (hd : d + 1 ≤ D1) (hkk : k + K ≤ K1)
    (kk : V p l e D1 K1 s m args below meth c Q KW 396 g B nL (k + K) (mg h h1) (pc + 3) lv (.int r :: st)) : V p l e D1 K1 s m args below meth c Q KW 396 g B nL k h pc lv st0 := by
  intro ls H locs hl hw hs
  have hrun := vx_runV (l := l) (p := p) (e := e) (below := below) (meth := meth) (locs := locs) (cells := k) (slots := 6 * k) (R := RM D1 K1) (As := As) (rest := st) (C := y.cls) (g := F0 m pc ls st0) ⟨F.1, F.2.1, F.2.2.1, F.2.2.2.1, F.2.2.2.2.1⟩ hM ⟨cl.1.callBx F hd, F.w cl.2.1, F.w cl.2.2⟩ ⟨PC.blind, w_cell F hw hc, w_pre F hw hs _⟩ rfl hn hl.1 hst (by show 2 * 0 + _ ≤ 8; omega) hdg ⟨hkk, by show 6 * k + 6 * K ≤ 6 * K1; omega⟩
  intro T hT X
  rcases hrun T hT X with ⟨v, st₀, t, T', L, h0, X', hL, e1, e2, ⟨ho, hw1, hz, hk⟩, stp⟩ | ⟨q, st₀, t, T', L, E, ce, h0, X', hL, e1, e2, hx, -⟩
  · cases ho
    rw [h0] at hz hk
    have hl9 : gA g 395 < H.size := (Array.getElem?_eq_some_iff.mp ((hw.1 395 (by omega)).2 (by decide))).1
    have e9 : t.heap[gA g 395]? = H[gA g 395]? := hk _ hl9 (fun i hi e => by have := hw.2 395 i (by omega) (by omega) e; omega)
    obtain ⟨t2, a1, b1⟩ := kk ls T'.heap (locs ++ L) hl (by rw [e1]; exact WO_sup hw hw1 e9) ⟨Nat.le_trans hs.1 (by rw [e1]; exact hz), fun q h1 h2 => by rw [e1, hk q (Nat.lt_of_lt_of_le h1 hs.1) (fun i hi => h2 i (by omega))]; exact hs.2.1 q h1 h2, fun q hq => by
        rcases List.mem_append.mp hq with h9 | h9
        · exact hs.2.2 q h9
        · obtain ⟨i, hi, h8⟩ := hL q h9
          exact ⟨i, by omega, h8⟩⟩ T' rfl (by rw [Nat.mul_add]; exact X')
    exact ⟨t2, stp t2 a1, b1⟩
  · exact absurd hx (fun h => h)
/-- .. throws, and the row x of the table takes it -/
theorem w_callX (F : Fx p s m args meth c cc nL own 396 g B) {idx : Nat} {y : MethodName} {bytes : ByteArray} {maxL : Nat} {ret : Option FieldType} {na d K : Nat} {As st0 : List Value} {E name : String} {h1 : ST} (cl : CLV own idx y bytes maxL ret na) (hdg : decode cc pc = .ok (.invokevirtual idx, 3)) (hM : XT l y bytes maxL ret d K KC 395 g B (.ref (gA g 0) :: As) h (.inr E) h1) (hc : y.cls = "DustParish") (hn : As.length = na) (hst : st0 = As.reverse ++ .ref (gA g 0) :: st) (hW : (st.map fun v => v.category).sum ≤ 8) (hd : d + 1 ≤ D1) (hkk : k + K ≤ K1)
    (pre : List ExceptionTableEntry) (x : ExceptionTableEntry) (suf : List ExceptionTableEntry) (hsplit : c.exceptionTable.toList = pre ++ x :: suf) (hpass : ∀ z ∈ pre, covers z pc = false ∨ (z.catchType ≠ 0 ∧ ∃ nm : String, (Cond.classLink own z.catchType nm).before args s = true ∧ va_Nc E nm s)) (hx : covers x pc = true) (h0 : x.catchType ≠ 0) (hlk : Cond.classLink own x.catchType name ∈ TBG) (hcast : va_Nw (.castable E name) s)
    (kk : ∀ q : Nat, V p l e D1 K1 s m args below meth c Q KW 396 g B nL (k + K) (mg h h1) x.handlerPc lv [.ref q]) : V p l e D1 K1 s m args below meth c Q KW 396 g B nL k h pc lv st0 := by
  intro ls H locs hl hw hs
  have hrun := vx_runV (l := l) (p := p) (e := e) (below := below) (meth := meth) (locs := locs) (cells := k) (slots := 6 * k) (R := RM D1 K1) (As := As) (rest := st) (C := y.cls) (g := F0 m pc ls st0) ⟨F.1, F.2.1, F.2.2.1, F.2.2.2.1, F.2.2.2.2.1⟩ hM ⟨cl.1.callBx F hd, F.w cl.2.1, F.w cl.2.2⟩ ⟨PC.blind, w_cell F hw hc, w_pre F hw hs _⟩ rfl hn hl.1 hst (by show 2 * 0 + _ ≤ 8; omega) hdg ⟨hkk, by show 6 * k + 6 * K ≤ 6 * K1; omega⟩
  intro T hT X
  rcases hrun T hT X with ⟨v, st₀, t, T', L, h0', X', hL, e1, e2, hx', -⟩ | ⟨q, st₀, t, T', L, E', ce, h0', X', hL, e1, e2, ⟨hE, hw1, hz, hk⟩, hce, hcv, hcl, stp⟩
  · exact absurd hx' (fun h => h)
  · subst hE
    rw [h0'] at hz hk
    have hl9 : gA g 395 < H.size := (Array.getElem?_eq_some_iff.mp ((hw.1 395 (by omega)).2 (by decide))).1
    have e9 : t.heap[gA g 395]? = H[gA g 395]? := hk _ hl9 (fun i hi e => by have := hw.2 395 i (by omega) (by omega) e; omega)
    have k9 := kk q ls T'.heap (locs ++ L) hl (by rw [e1]; exact WO_sup hw hw1 e9) ⟨Nat.le_trans hs.1 (by rw [e1]; exact hz), fun q h1 h2 => by rw [e1, hk q (Nat.lt_of_lt_of_le h1 hs.1) (fun i hi => h2 i (by omega))]; exact hs.2.1 q h1 h2, fun q hq => by
        rcases List.mem_append.mp hq with h9 | h9
        · exact hs.2.2 q h9
        · obtain ⟨i, hi, h8⟩ := hL q h9
          exact ⟨i, by omega, h8⟩⟩
    obtain ⟨t2, a1, b1⟩ := vx_catch (l := l) (pc := pc) (ls := ls) (rest := st) (H := T'.heap) F.2.2.2.1 pre x suf hsplit hpass hx h0 (F.w hlk) (va_Nw.use rfl hcast) (E := E') (ce := ce) (q := q) (by rw [e1]; exact hce) hcv hcl k9 T' rfl (by rw [Nat.mul_add]; exact X')
    exact ⟨t2, stp.trans a1, b1⟩
theorem w_last (F : Fx p s m args meth c cc nL own 396 g B) {x : Int32} (hdg : decode cc pc = .ok (.lastore, 1))
    (kk : V p l e D1 K1 s m args below meth c Q KW 396 g B nL k (up2 h 395 0 x) (pc + 1) lv st) : V p l e D1 K1 s m args below meth c Q KW 396 g B nL k h pc lv (.long x.toInt64 :: .int 0 :: .ref (gA g 395) :: st) := by
  intro ls H locs hl hw hs
  have hc := (hw.1 395 (by omega)).2 (by decide)
  have hc : H[gA g 395]? = some (arrV (gR g 22) 1 (fun j => .long (h 395 j).toInt64)) := hc
  refine W.last F.1 F.2.1 hc ((F.2.2.2.2.2.1.2.1 22 (by decide) (by decide)).1 1 _) (fun q => by cases q) (by show ¬ ((0 : Int32) < 0 ∨ (arrV _ _ _).slots.size ≤ _); rw [arrV_size]; decide) rfl rfl hdg fun H1 e1 z oq => ?_
  refine kk ls H1 _ hl (hw.put (by omega) (fun j hj => up2_n hj) oq ⟨fun h9 => absurd h9 (by decide), fun _ => ?_⟩) (hs.put (by omega) z oq)
  rw [e1, arrV_store, up2_s]
  show some (arrV (gR g 22) 1 _) = some (arrV (gR g 22) 1 (fun j => .long (upd (h 395) 0 x j).toInt64))
  refine congrArg some (arrV_congr (fun j hj => ?_))
  have hj : j = 0 := by omega
  subst hj
  rfl
end WR
theorem exn_to {l : Launch} {y : MethodName} {bytes : ByteArray} {maxL : Nat} {ret : Option FieldType} {d K : Nat} {KD : Nat → Nat × Nat} {n : Nat} {g : GE} {B : Nat} {av : List Value} {h h' : ST} {kx : Nat} {E : String} (hq : exn kx = E) (hM : XT l y bytes maxL ret d K KD n g B av h (.inr (exn kx)) h') : XT l y bytes maxL ret d K KD n g B av h (.inr E) h' := hq ▸ hM
def fL_parish (h : ST) (a1 : Int32) : Option (Int32 × ST) :=
  bnd (fX10_parish h a1) fun r => wrp cdI h r.1 r.2
set_option maxRecDepth 100000 in
set_option maxHeartbeats 4000000 in
theorem kL_parish {l : Launch} {g : GE} {B : Nat} {h : ST} {a1 : Int32} {y : Int32 × ST} (hT : l.stackTraces = false) (hf : fL_parish h a1 = some y) : WT l yL_parish cL_parish 4 [(0, 9, 12, 13)] 19 1 g B [.ref (gA g 0), .int a1, .ref (gA g 395)] h y.1 y.2 := by
  refine WT.of pn_L (Nat.le_of_ble_eq_true rfl) ?_
  intro p e s m below meth c hr htb F
  have F : Fx p s m _ meth c cL_parish 4 "DustParishLaw" 396 g B := F
  refine V_lv (lv' := [(0, .ref (gA g 0)), (1, .int a1), (2, .ref (gA g 395))]) rfl ?_
  unfold fL_parish at hf
  obtain ⟨r, e1, hf⟩ := bnd_some hf
  refine v_aload_n (pc := 0) (j := 2) F dL_parish_0 rfl rfl ?_
  refine v_iconst (pc := 1) (v := 0) F dL_parish_1 ic_0 ?_
  refine v_aload_n (pc := 2) (j := 0) F dL_parish_2 rfl rfl ?_
  refine v_iload_n (pc := 3) (j := 1) F dL_parish_3 rfl rfl ?_
  unfold wrp at hf
  obtain ⟨r1, h1⟩ := r
  rcases r1 with v | kx
  · have hf := sm_l hf
    refine w_callI (pc := 4) (As := [.int a1]) F cl_L_7 dL_parish_4 (kX10_parish hT e1) rfl rfl rfl (Nat.le_of_ble_eq_true rfl) (by decide) (by decide) ?_
    refine v_i2l (pc := 7) F dL_parish_7 rfl ?_
    refine w_last (pc := 8) F dL_parish_8 ?_
    refine v_goto (pc := 9) (tgt := 15) F dL_parish_9 (by decide) ?_
    refine v_iconst (pc := 15) (v := 0) F dL_parish_15 ic_0 ?_
    exact v_iret (pc := 16) F hr dL_parish_16 (some_fst hf) (some_snd hf) (by decide)
  · have hf := sm_r hf
    obtain ⟨x9, ex, hf⟩ := bnd_some hf
    unfold cdI at ex
    by_cases hk : kx = 1
    · cases ite_t ex hk
    · have ex := Option.some.inj (ite_f ex hk)
      subst ex
      have hq : exn kx = xIA := by unfold exn; rw [if_neg hk]
      have e1 := e1
      refine w_callX (pc := 4) (As := [.int a1]) (name := xIA) F cl_L_7 dL_parish_4 (exn_to hq (kX10_parish hT e1)) rfl rfl rfl (Nat.le_of_ble_eq_true rfl) (by decide) (by decide) ((tableOf [])) (⟨0, 9, 12, 13⟩) (tableOf []) (by rw [htb]; rfl) (fun z hz => by cases hz) (by decide) (by decide) tw_562 (F.2.2.2.2.2.1.2.2.2.2.1 _ (by decide)) (fun q => ?_)
      refine v_astore_n (pc := 12) (lv' := [(0, .ref (gA g 0)), (1, .int a1), (2, .ref (gA g 395)), (3, .ref q)]) F dL_parish_12 rfl (by decide) rfl ?_
      refine v_iconst (pc := 13) (v := 1) F dL_parish_13 ic_1 ?_
      exact v_iret (pc := 14) F hr dL_parish_14 (some_fst hf) (some_snd hf) (by decide)
def fL_count (h : ST) (a1 : Int32) : Option (Int32 × ST) :=
  bnd (fX10_count h a1) fun r => wrp cdN h r h
set_option maxRecDepth 100000 in
set_option maxHeartbeats 4000000 in
theorem kL_count {l : Launch} {g : GE} {B : Nat} {h : ST} {a1 : Int32} {y : Int32 × ST} (hT : l.stackTraces = false) (hf : fL_count h a1 = some y) : WT l yL_count cL_count 4 [(0, 9, 12, 18)] 9 1 g B [.ref (gA g 0), .int a1, .ref (gA g 395)] h y.1 y.2 := by
  refine WT.of pn_L (Nat.le_of_ble_eq_true rfl) ?_
  intro p e s m below meth c hr htb F
  have F : Fx p s m _ meth c cL_count 4 "DustParishLaw" 396 g B := F
  refine V_lv (lv' := [(0, .ref (gA g 0)), (1, .int a1), (2, .ref (gA g 395))]) rfl ?_
  unfold fL_count at hf
  obtain ⟨r, e1, hf⟩ := bnd_some hf
  refine v_aload_n (pc := 0) (j := 2) F dL_count_0 rfl rfl ?_
  refine v_iconst (pc := 1) (v := 0) F dL_count_1 ic_0 ?_
  refine v_aload_n (pc := 2) (j := 0) F dL_count_2 rfl rfl ?_
  refine v_iload_n (pc := 3) (j := 1) F dL_count_3 rfl rfl ?_
  unfold wrp at hf
  obtain ⟨r1, er⟩ : ∃ q, q = r := ⟨_, rfl⟩
  subst er
  rcases r1 with v | kx
  · have hf := sm_l hf
    refine w_callI (pc := 4) (As := [.int a1]) F cl_L_15 dL_count_4 (kX10_count hT e1) rfl rfl rfl (Nat.le_of_ble_eq_true rfl) (by decide) (by decide) ?_
    refine v_i2l (pc := 7) F dL_count_7 rfl ?_
    refine w_last (pc := 8) F dL_count_8 ?_
    refine v_goto (pc := 9) (tgt := 15) F dL_count_9 (by decide) ?_
    refine v_iconst (pc := 15) (v := 0) F dL_count_15 ic_0 ?_
    exact v_iret (pc := 16) F hr dL_count_16 (some_fst hf) (some_snd hf) (by decide)
  · have hf := sm_r hf
    obtain ⟨x9, ex, hf⟩ := bnd_some hf
    unfold cdN at ex
    by_cases hk : kx = 1
    · subst hk
      have ex := Option.some.inj (ite_t ex rfl)
      subst ex
      refine w_callX (pc := 4) (As := [.int a1]) (name := xNS) F cl_L_15 dL_count_4 (kX10_count hT e1) rfl rfl rfl (Nat.le_of_ble_eq_true rfl) (by decide) (by decide) ((tableOf [])) (⟨0, 9, 12, 18⟩) (tableOf []) (by rw [htb]; rfl) (fun z hz => by cases hz) (by decide) (by decide) tw_931 (F.2.2.2.2.2.1.2.2.2.2.1 _ (by decide)) (fun q => ?_)
      refine v_astore_n (pc := 12) (lv' := [(0, .ref (gA g 0)), (1, .int a1), (2, .ref (gA g 395)), (3, .ref q)]) F dL_count_12 rfl (by decide) rfl ?_
      refine v_iconst (pc := 13) (v := 1) F dL_count_13 ic_1 ?_
      exact v_iret (pc := 14) F hr dL_count_14 (some_fst hf) (some_snd hf) (by decide)
    · cases ite_f ex hk
def fL_room (h : ST) (a1 : Int32) (a2 : Int32) : Option (Int32 × ST) :=
  bnd (fX10_room h a1 a2) fun r => wrp cdN h r.1 r.2
set_option maxRecDepth 100000 in
set_option maxHeartbeats 4000000 in
theorem kL_room {l : Launch} {g : GE} {B : Nat} {h : ST} {a1 : Int32} {a2 : Int32} {y : Int32 × ST} (hT : l.stackTraces = false) (hf : fL_room h a1 a2 = some y) : WT l yL_room cL_room 5 [(0, 10, 13, 18)] 10 2 g B [.ref (gA g 0), .int a1, .int a2, .ref (gA g 395)] h y.1 y.2 := by
  refine WT.of pn_L (Nat.le_of_ble_eq_true rfl) ?_
  intro p e s m below meth c hr htb F
  have F : Fx p s m _ meth c cL_room 5 "DustParishLaw" 396 g B := F
  refine V_lv (lv' := [(0, .ref (gA g 0)), (1, .int a1), (2, .int a2), (3, .ref (gA g 395))]) rfl ?_
  unfold fL_room at hf
  obtain ⟨r, e1, hf⟩ := bnd_some hf
  refine v_aload_n (pc := 0) (j := 3) F dL_room_0 rfl rfl ?_
  refine v_iconst (pc := 1) (v := 0) F dL_room_1 ic_0 ?_
  refine v_aload_n (pc := 2) (j := 0) F dL_room_2 rfl rfl ?_
  refine v_iload_n (pc := 3) (j := 1) F dL_room_3 rfl rfl ?_
  refine v_iload_n (pc := 4) (j := 2) F dL_room_4 rfl rfl ?_
  unfold wrp at hf
  obtain ⟨r1, h1⟩ := r
  rcases r1 with v | kx
  · have hf := sm_l hf
    refine w_callI (pc := 5) (As := [.int a1, .int a2]) F cl_L_20 dL_room_5 (kX10_room hT e1) rfl rfl rfl (Nat.le_of_ble_eq_true rfl) (by decide) (by decide) ?_
    refine v_i2l (pc := 8) F dL_room_8 rfl ?_
    refine w_last (pc := 9) F dL_room_9 ?_
    refine v_goto (pc := 10) (tgt := 17) F dL_room_10 (by decide) ?_
    refine v_iconst (pc := 17) (v := 0) F dL_room_17 ic_0 ?_
    exact v_iret (pc := 18) F hr dL_room_18 (some_fst hf) (some_snd hf) (by decide)
  · have hf := sm_r hf
    obtain ⟨x9, ex, hf⟩ := bnd_some hf
    unfold cdN at ex
    by_cases hk : kx = 1
    · subst hk
      have ex := Option.some.inj (ite_t ex rfl)
      subst ex
      refine w_callX (pc := 5) (As := [.int a1, .int a2]) (name := xNS) F cl_L_20 dL_room_5 (kX10_room hT e1) rfl rfl rfl (Nat.le_of_ble_eq_true rfl) (by decide) (by decide) ((tableOf [])) (⟨0, 10, 13, 18⟩) (tableOf []) (by rw [htb]; rfl) (fun z hz => by cases hz) (by decide) (by decide) tw_931 (F.2.2.2.2.2.1.2.2.2.2.1 _ (by decide)) (fun q => ?_)
      refine v_astore (pc := 13) (lv' := [(0, .ref (gA g 0)), (1, .int a1), (2, .int a2), (3, .ref (gA g 395)), (4, .ref q)]) F dL_room_13 (by decide) rfl ?_
      refine v_iconst (pc := 15) (v := 1) F dL_room_15 ic_1 ?_
      exact v_iret (pc := 16) F hr dL_room_16 (some_fst hf) (some_snd hf) (by decide)
    · cases ite_f ex hk
def fL_far (h : ST) (a1 : Int32) (a2 : Int32) : Option (Int32 × ST) :=
  bnd (fX10_far h a1 a2) fun r => wrp cdN h r h
set_option maxRecDepth 100000 in
set_option maxHeartbeats 4000000 in
theorem kL_far {l : Launch} {g : GE} {B : Nat} {h : ST} {a1 : Int32} {a2 : Int32} {y : Int32 × ST} (hT : l.stackTraces = false) (hf : fL_far h a1 a2 = some y) : WT l yL_far cL_far 5 [(0, 10, 13, 18)] 10 2 g B [.ref (gA g 0), .int a1, .int a2, .ref (gA g 395)] h y.1 y.2 := by
  refine WT.of pn_L (Nat.le_of_ble_eq_true rfl) ?_
  intro p e s m below meth c hr htb F
  have F : Fx p s m _ meth c cL_far 5 "DustParishLaw" 396 g B := F
  refine V_lv (lv' := [(0, .ref (gA g 0)), (1, .int a1), (2, .int a2), (3, .ref (gA g 395))]) rfl ?_
  unfold fL_far at hf
  obtain ⟨r, e1, hf⟩ := bnd_some hf
  refine v_aload_n (pc := 0) (j := 3) F dL_far_0 rfl rfl ?_
  refine v_iconst (pc := 1) (v := 0) F dL_far_1 ic_0 ?_
  refine v_aload_n (pc := 2) (j := 0) F dL_far_2 rfl rfl ?_
  refine v_iload_n (pc := 3) (j := 1) F dL_far_3 rfl rfl ?_
  refine v_iload_n (pc := 4) (j := 2) F dL_far_4 rfl rfl ?_
  unfold wrp at hf
  obtain ⟨r1, er⟩ : ∃ q, q = r := ⟨_, rfl⟩
  subst er
  rcases r1 with v | kx
  · have hf := sm_l hf
    refine w_callI (pc := 5) (As := [.int a1, .int a2]) F cl_L_24 dL_far_5 (kX10_far hT e1) rfl rfl rfl (Nat.le_of_ble_eq_true rfl) (by decide) (by decide) ?_
    refine v_i2l (pc := 8) F dL_far_8 rfl ?_
    refine w_last (pc := 9) F dL_far_9 ?_
    refine v_goto (pc := 10) (tgt := 17) F dL_far_10 (by decide) ?_
    refine v_iconst (pc := 17) (v := 0) F dL_far_17 ic_0 ?_
    exact v_iret (pc := 18) F hr dL_far_18 (some_fst hf) (some_snd hf) (by decide)
  · have hf := sm_r hf
    obtain ⟨x9, ex, hf⟩ := bnd_some hf
    unfold cdN at ex
    by_cases hk : kx = 1
    · subst hk
      have ex := Option.some.inj (ite_t ex rfl)
      subst ex
      refine w_callX (pc := 5) (As := [.int a1, .int a2]) (name := xNS) F cl_L_24 dL_far_5 (kX10_far hT e1) rfl rfl rfl (Nat.le_of_ble_eq_true rfl) (by decide) (by decide) ((tableOf [])) (⟨0, 10, 13, 18⟩) (tableOf []) (by rw [htb]; rfl) (fun z hz => by cases hz) (by decide) (by decide) tw_931 (F.2.2.2.2.2.1.2.2.2.2.1 _ (by decide)) (fun q => ?_)
      refine v_astore (pc := 13) (lv' := [(0, .ref (gA g 0)), (1, .int a1), (2, .int a2), (3, .ref (gA g 395)), (4, .ref q)]) F dL_far_13 (by decide) rfl ?_
      refine v_iconst (pc := 15) (v := 1) F dL_far_15 ic_1 ?_
      exact v_iret (pc := 16) F hr dL_far_16 (some_fst hf) (some_snd hf) (by decide)
    · cases ite_f ex hk
def fL_near (h : ST) (a1 : Int32) (a2 : Int32) : Option (Int32 × ST) :=
  bnd (fX10_near h a1 a2) fun r => wrp cdN h r h
set_option maxRecDepth 100000 in
set_option maxHeartbeats 4000000 in
theorem kL_near {l : Launch} {g : GE} {B : Nat} {h : ST} {a1 : Int32} {a2 : Int32} {y : Int32 × ST} (hT : l.stackTraces = false) (hf : fL_near h a1 a2 = some y) : WT l yL_near cL_near 5 [(0, 10, 13, 18)] 10 1 g B [.ref (gA g 0), .int a1, .int a2, .ref (gA g 395)] h y.1 y.2 := by
  refine WT.of pn_L (Nat.le_of_ble_eq_true rfl) ?_
  intro p e s m below meth c hr htb F
  have F : Fx p s m _ meth c cL_near 5 "DustParishLaw" 396 g B := F
  refine V_lv (lv' := [(0, .ref (gA g 0)), (1, .int a1), (2, .int a2), (3, .ref (gA g 395))]) rfl ?_
  unfold fL_near at hf
  obtain ⟨r, e1, hf⟩ := bnd_some hf
  refine v_aload_n (pc := 0) (j := 3) F dL_near_0 rfl rfl ?_
  refine v_iconst (pc := 1) (v := 0) F dL_near_1 ic_0 ?_
  refine v_aload_n (pc := 2) (j := 0) F dL_near_2 rfl rfl ?_
  refine v_iload_n (pc := 3) (j := 1) F dL_near_3 rfl rfl ?_
  refine v_iload_n (pc := 4) (j := 2) F dL_near_4 rfl rfl ?_
  unfold wrp at hf
  obtain ⟨r1, er⟩ : ∃ q, q = r := ⟨_, rfl⟩
  subst er
  rcases r1 with v | kx
  · have hf := sm_l hf
    refine w_callI (pc := 5) (As := [.int a1, .int a2]) F cl_L_27 dL_near_5 (kX10_near hT e1) rfl rfl rfl (Nat.le_of_ble_eq_true rfl) (by decide) (by decide) ?_
    refine v_i2l (pc := 8) F dL_near_8 rfl ?_
    refine w_last (pc := 9) F dL_near_9 ?_
    refine v_goto (pc := 10) (tgt := 17) F dL_near_10 (by decide) ?_
    refine v_iconst (pc := 17) (v := 0) F dL_near_17 ic_0 ?_
    exact v_iret (pc := 18) F hr dL_near_18 (some_fst hf) (some_snd hf) (by decide)
  · have hf := sm_r hf
    obtain ⟨x9, ex, hf⟩ := bnd_some hf
    unfold cdN at ex
    by_cases hk : kx = 1
    · subst hk
      have ex := Option.some.inj (ite_t ex rfl)
      subst ex
      refine w_callX (pc := 5) (As := [.int a1, .int a2]) (name := xNS) F cl_L_27 dL_near_5 (kX10_near hT e1) rfl rfl rfl (Nat.le_of_ble_eq_true rfl) (by decide) (by decide) ((tableOf [])) (⟨0, 10, 13, 18⟩) (tableOf []) (by rw [htb]; rfl) (fun z hz => by cases hz) (by decide) (by decide) tw_931 (F.2.2.2.2.2.1.2.2.2.2.1 _ (by decide)) (fun q => ?_)
      refine v_astore (pc := 13) (lv' := [(0, .ref (gA g 0)), (1, .int a1), (2, .int a2), (3, .ref (gA g 395)), (4, .ref q)]) F dL_near_13 (by decide) rfl ?_
      refine v_iconst (pc := 15) (v := 1) F dL_near_15 ic_1 ?_
      exact v_iret (pc := 16) F hr dL_near_16 (some_fst hf) (some_snd hf) (by decide)
    · cases ite_f ex hk
def fL_blow (h : ST) (a1 : Int32) (a2 : Int32) (a3 : Int32) : Option (Int32 × ST) :=
  bnd (fX10_blow h a1 a2 a3) fun r => wrp cdN h r h
set_option maxRecDepth 100000 in
set_option maxHeartbeats 4000000 in
theorem kL_blow {l : Launch} {g : GE} {B : Nat} {h : ST} {a1 : Int32} {a2 : Int32} {a3 : Int32} {y : Int32 × ST} (hT : l.stackTraces = false) (hf : fL_blow h a1 a2 a3 = some y) : WT l yL_blow cL_blow 6 [(0, 12, 15, 18)] 9 1 g B [.ref (gA g 0), .int a1, .int a2, .int a3, .ref (gA g 395)] h y.1 y.2 := by
  refine WT.of pn_L (Nat.le_of_ble_eq_true rfl) ?_
  intro p e s m below meth c hr htb F
  have F : Fx p s m _ meth c cL_blow 6 "DustParishLaw" 396 g B := F
  refine V_lv (lv' := [(0, .ref (gA g 0)), (1, .int a1), (2, .int a2), (3, .int a3), (4, .ref (gA g 395))]) rfl ?_
  unfold fL_blow at hf
  obtain ⟨r, e1, hf⟩ := bnd_some hf
  refine v_aload (pc := 0) (j := 4) F dL_blow_0 rfl ?_
  refine v_iconst (pc := 2) (v := 0) F dL_blow_2 ic_0 ?_
  refine v_aload_n (pc := 3) (j := 0) F dL_blow_3 rfl rfl ?_
  refine v_iload_n (pc := 4) (j := 1) F dL_blow_4 rfl rfl ?_
  refine v_iload_n (pc := 5) (j := 2) F dL_blow_5 rfl rfl ?_
  refine v_iload_n (pc := 6) (j := 3) F dL_blow_6 rfl rfl ?_
  unfold wrp at hf
  obtain ⟨r1, er⟩ : ∃ q, q = r := ⟨_, rfl⟩
  subst er
  rcases r1 with v | kx
  · have hf := sm_l hf
    refine w_callI (pc := 7) (As := [.int a1, .int a2, .int a3]) F cl_L_30 dL_blow_7 (kX10_blow hT e1) rfl rfl rfl (Nat.le_of_ble_eq_true rfl) (by decide) (by decide) ?_
    refine v_i2l (pc := 10) F dL_blow_10 rfl ?_
    refine w_last (pc := 11) F dL_blow_11 ?_
    refine v_goto (pc := 12) (tgt := 19) F dL_blow_12 (by decide) ?_
    refine v_iconst (pc := 19) (v := 0) F dL_blow_19 ic_0 ?_
    exact v_iret (pc := 20) F hr dL_blow_20 (some_fst hf) (some_snd hf) (by decide)
  · have hf := sm_r hf
    obtain ⟨x9, ex, hf⟩ := bnd_some hf
    unfold cdN at ex
    by_cases hk : kx = 1
    · subst hk
      have ex := Option.some.inj (ite_t ex rfl)
      subst ex
      refine w_callX (pc := 7) (As := [.int a1, .int a2, .int a3]) (name := xNS) F cl_L_30 dL_blow_7 (kX10_blow hT e1) rfl rfl rfl (Nat.le_of_ble_eq_true rfl) (by decide) (by decide) ((tableOf [])) (⟨0, 12, 15, 18⟩) (tableOf []) (by rw [htb]; rfl) (fun z hz => by cases hz) (by decide) (by decide) tw_931 (F.2.2.2.2.2.1.2.2.2.2.1 _ (by decide)) (fun q => ?_)
      refine v_astore (pc := 15) (lv' := [(0, .ref (gA g 0)), (1, .int a1), (2, .int a2), (3, .int a3), (4, .ref (gA g 395)), (5, .ref q)]) F dL_blow_15 (by decide) rfl ?_
      refine v_iconst (pc := 17) (v := 1) F dL_blow_17 ic_1 ?_
      exact v_iret (pc := 18) F hr dL_blow_18 (some_fst hf) (some_snd hf) (by decide)
    · cases ite_f ex hk
def fL_wind (h : ST) (a1 : Int32) : Option (Int32 × ST) :=
  bnd (fX10_wind h a1) fun r => wrp cdI h r h
set_option maxRecDepth 100000 in
set_option maxHeartbeats 4000000 in
theorem kL_wind {l : Launch} {g : GE} {B : Nat} {h : ST} {a1 : Int32} {y : Int32 × ST} (hT : l.stackTraces = false) (hf : fL_wind h a1 = some y) : WT l yL_wind cL_wind 4 [(0, 9, 12, 13)] 9 1 g B [.ref (gA g 0), .int a1, .ref (gA g 395)] h y.1 y.2 := by
  refine WT.of pn_L (Nat.le_of_ble_eq_true rfl) ?_
  intro p e s m below meth c hr htb F
  have F : Fx p s m _ meth c cL_wind 4 "DustParishLaw" 396 g B := F
  refine V_lv (lv' := [(0, .ref (gA g 0)), (1, .int a1), (2, .ref (gA g 395))]) rfl ?_
  unfold fL_wind at hf
  obtain ⟨r, e1, hf⟩ := bnd_some hf
  refine v_aload_n (pc := 0) (j := 2) F dL_wind_0 rfl rfl ?_
  refine v_iconst (pc := 1) (v := 0) F dL_wind_1 ic_0 ?_
  refine v_aload_n (pc := 2) (j := 0) F dL_wind_2 rfl rfl ?_
  refine v_iload_n (pc := 3) (j := 1) F dL_wind_3 rfl rfl ?_
  unfold wrp at hf
  obtain ⟨r1, er⟩ : ∃ q, q = r := ⟨_, rfl⟩
  subst er
  rcases r1 with v | kx
  · have hf := sm_l hf
    refine w_callI (pc := 4) (As := [.int a1]) F cl_L_34 dL_wind_4 (kX10_wind hT e1) rfl rfl rfl (Nat.le_of_ble_eq_true rfl) (by decide) (by decide) ?_
    refine v_i2l (pc := 7) F dL_wind_7 rfl ?_
    refine w_last (pc := 8) F dL_wind_8 ?_
    refine v_goto (pc := 9) (tgt := 15) F dL_wind_9 (by decide) ?_
    refine v_iconst (pc := 15) (v := 0) F dL_wind_15 ic_0 ?_
    exact v_iret (pc := 16) F hr dL_wind_16 (some_fst hf) (some_snd hf) (by decide)
  · have hf := sm_r hf
    obtain ⟨x9, ex, hf⟩ := bnd_some hf
    unfold cdI at ex
    by_cases hk : kx = 1
    · cases ite_t ex hk
    · have ex := Option.some.inj (ite_f ex hk)
      subst ex
      have hq : exn kx = xIA := by unfold exn; rw [if_neg hk]
      have e1 := e1
      refine w_callX (pc := 4) (As := [.int a1]) (name := xIA) F cl_L_34 dL_wind_4 (exn_to hq (kX10_wind hT e1)) rfl rfl rfl (Nat.le_of_ble_eq_true rfl) (by decide) (by decide) ((tableOf [])) (⟨0, 9, 12, 13⟩) (tableOf []) (by rw [htb]; rfl) (fun z hz => by cases hz) (by decide) (by decide) tw_562 (F.2.2.2.2.2.1.2.2.2.2.1 _ (by decide)) (fun q => ?_)
      refine v_astore_n (pc := 12) (lv' := [(0, .ref (gA g 0)), (1, .int a1), (2, .ref (gA g 395)), (3, .ref q)]) F dL_wind_12 rfl (by decide) rfl ?_
      refine v_iconst (pc := 13) (v := 1) F dL_wind_13 ic_1 ?_
      exact v_iret (pc := 14) F hr dL_wind_14 (some_fst hf) (some_snd hf) (by decide)
def fL_sweep (h : ST) (a1 : Int32) (a2 : Int32) (a3 : Int32) : Option (Int32 × ST) :=
  bnd (fX10_sweep h a1 a2 a3) fun r => wrp cdN h r.1 r.2
set_option maxRecDepth 100000 in
set_option maxHeartbeats 4000000 in
theorem kL_sweep {l : Launch} {g : GE} {B : Nat} {h : ST} {a1 : Int32} {a2 : Int32} {a3 : Int32} {y : Int32 × ST} (hT : l.stackTraces = false) (hf : fL_sweep h a1 a2 a3 = some y) : WT l yL_sweep cL_sweep 6 [(0, 12, 15, 18)] 10 2 g B [.ref (gA g 0), .int a1, .int a2, .int a3, .ref (gA g 395)] h y.1 y.2 := by
  refine WT.of pn_L (Nat.le_of_ble_eq_true rfl) ?_
  intro p e s m below meth c hr htb F
  have F : Fx p s m _ meth c cL_sweep 6 "DustParishLaw" 396 g B := F
  refine V_lv (lv' := [(0, .ref (gA g 0)), (1, .int a1), (2, .int a2), (3, .int a3), (4, .ref (gA g 395))]) rfl ?_
  unfold fL_sweep at hf
  obtain ⟨r, e1, hf⟩ := bnd_some hf
  refine v_aload (pc := 0) (j := 4) F dL_sweep_0 rfl ?_
  refine v_iconst (pc := 2) (v := 0) F dL_sweep_2 ic_0 ?_
  refine v_aload_n (pc := 3) (j := 0) F dL_sweep_3 rfl rfl ?_
  refine v_iload_n (pc := 4) (j := 1) F dL_sweep_4 rfl rfl ?_
  refine v_iload_n (pc := 5) (j := 2) F dL_sweep_5 rfl rfl ?_
  refine v_iload_n (pc := 6) (j := 3) F dL_sweep_6 rfl rfl ?_
  unfold wrp at hf
  obtain ⟨r1, h1⟩ := r
  rcases r1 with v | kx
  · have hf := sm_l hf
    refine w_callI (pc := 7) (As := [.int a1, .int a2, .int a3]) F cl_L_37 dL_sweep_7 (kX10_sweep hT e1) rfl rfl rfl (Nat.le_of_ble_eq_true rfl) (by decide) (by decide) ?_
    refine v_i2l (pc := 10) F dL_sweep_10 rfl ?_
    refine w_last (pc := 11) F dL_sweep_11 ?_
    refine v_goto (pc := 12) (tgt := 19) F dL_sweep_12 (by decide) ?_
    refine v_iconst (pc := 19) (v := 0) F dL_sweep_19 ic_0 ?_
    exact v_iret (pc := 20) F hr dL_sweep_20 (some_fst hf) (some_snd hf) (by decide)
  · have hf := sm_r hf
    obtain ⟨x9, ex, hf⟩ := bnd_some hf
    unfold cdN at ex
    by_cases hk : kx = 1
    · subst hk
      have ex := Option.some.inj (ite_t ex rfl)
      subst ex
      refine w_callX (pc := 7) (As := [.int a1, .int a2, .int a3]) (name := xNS) F cl_L_37 dL_sweep_7 (kX10_sweep hT e1) rfl rfl rfl (Nat.le_of_ble_eq_true rfl) (by decide) (by decide) ((tableOf [])) (⟨0, 12, 15, 18⟩) (tableOf []) (by rw [htb]; rfl) (fun z hz => by cases hz) (by decide) (by decide) tw_931 (F.2.2.2.2.2.1.2.2.2.2.1 _ (by decide)) (fun q => ?_)
      refine v_astore (pc := 15) (lv' := [(0, .ref (gA g 0)), (1, .int a1), (2, .int a2), (3, .int a3), (4, .ref (gA g 395)), (5, .ref q)]) F dL_sweep_15 (by decide) rfl ?_
      refine v_iconst (pc := 17) (v := 1) F dL_sweep_17 ic_1 ?_
      exact v_iret (pc := 18) F hr dL_sweep_18 (some_fst hf) (some_snd hf) (by decide)
    · cases ite_f ex hk
def fL_shake (h : ST) (a1 : Int32) (a2 : Int32) : Option (Int32 × ST) :=
  bnd (fX10_shake h a1 a2) fun r => wrp cdN h r.1 r.2
set_option maxRecDepth 100000 in
set_option maxHeartbeats 4000000 in
theorem kL_shake {l : Launch} {g : GE} {B : Nat} {h : ST} {a1 : Int32} {a2 : Int32} {y : Int32 × ST} (hT : l.stackTraces = false) (hf : fL_shake h a1 a2 = some y) : WT l yL_shake cL_shake 5 [(0, 10, 13, 18)] 10 2 g B [.ref (gA g 0), .int a1, .int a2, .ref (gA g 395)] h y.1 y.2 := by
  refine WT.of pn_L (Nat.le_of_ble_eq_true rfl) ?_
  intro p e s m below meth c hr htb F
  have F : Fx p s m _ meth c cL_shake 5 "DustParishLaw" 396 g B := F
  refine V_lv (lv' := [(0, .ref (gA g 0)), (1, .int a1), (2, .int a2), (3, .ref (gA g 395))]) rfl ?_
  unfold fL_shake at hf
  obtain ⟨r, e1, hf⟩ := bnd_some hf
  refine v_aload_n (pc := 0) (j := 3) F dL_shake_0 rfl rfl ?_
  refine v_iconst (pc := 1) (v := 0) F dL_shake_1 ic_0 ?_
  refine v_aload_n (pc := 2) (j := 0) F dL_shake_2 rfl rfl ?_
  refine v_iload_n (pc := 3) (j := 1) F dL_shake_3 rfl rfl ?_
  refine v_iload_n (pc := 4) (j := 2) F dL_shake_4 rfl rfl ?_
  unfold wrp at hf
  obtain ⟨r1, h1⟩ := r
  rcases r1 with v | kx
  · have hf := sm_l hf
    refine w_callI (pc := 5) (As := [.int a1, .int a2]) F cl_L_40 dL_shake_5 (kX10_shake hT e1) rfl rfl rfl (Nat.le_of_ble_eq_true rfl) (by decide) (by decide) ?_
    refine v_i2l (pc := 8) F dL_shake_8 rfl ?_
    refine w_last (pc := 9) F dL_shake_9 ?_
    refine v_goto (pc := 10) (tgt := 17) F dL_shake_10 (by decide) ?_
    refine v_iconst (pc := 17) (v := 0) F dL_shake_17 ic_0 ?_
    exact v_iret (pc := 18) F hr dL_shake_18 (some_fst hf) (some_snd hf) (by decide)
  · have hf := sm_r hf
    obtain ⟨x9, ex, hf⟩ := bnd_some hf
    unfold cdN at ex
    by_cases hk : kx = 1
    · subst hk
      have ex := Option.some.inj (ite_t ex rfl)
      subst ex
      refine w_callX (pc := 5) (As := [.int a1, .int a2]) (name := xNS) F cl_L_40 dL_shake_5 (kX10_shake hT e1) rfl rfl rfl (Nat.le_of_ble_eq_true rfl) (by decide) (by decide) ((tableOf [])) (⟨0, 10, 13, 18⟩) (tableOf []) (by rw [htb]; rfl) (fun z hz => by cases hz) (by decide) (by decide) tw_931 (F.2.2.2.2.2.1.2.2.2.2.1 _ (by decide)) (fun q => ?_)
      refine v_astore (pc := 13) (lv' := [(0, .ref (gA g 0)), (1, .int a1), (2, .int a2), (3, .ref (gA g 395)), (4, .ref q)]) F dL_shake_13 (by decide) rfl ?_
      refine v_iconst (pc := 15) (v := 1) F dL_shake_15 ic_1 ?_
      exact v_iret (pc := 16) F hr dL_shake_16 (some_fst hf) (some_snd hf) (by decide)
    · cases ite_f ex hk
def fL_sneeze (h : ST) (a1 : Int32) (a2 : Int32) : Option (Int32 × ST) :=
  bnd (fX10_sneeze h a1 a2) fun r => wrp cdN h r.1 r.2
set_option maxRecDepth 100000 in
set_option maxHeartbeats 4000000 in
theorem kL_sneeze {l : Launch} {g : GE} {B : Nat} {h : ST} {a1 : Int32} {a2 : Int32} {y : Int32 × ST} (hT : l.stackTraces = false) (hf : fL_sneeze h a1 a2 = some y) : WT l yL_sneeze cL_sneeze 5 [(0, 10, 13, 18)] 10 1 g B [.ref (gA g 0), .int a1, .int a2, .ref (gA g 395)] h y.1 y.2 := by
  refine WT.of pn_L (Nat.le_of_ble_eq_true rfl) ?_
  intro p e s m below meth c hr htb F
  have F : Fx p s m _ meth c cL_sneeze 5 "DustParishLaw" 396 g B := F
  refine V_lv (lv' := [(0, .ref (gA g 0)), (1, .int a1), (2, .int a2), (3, .ref (gA g 395))]) rfl ?_
  unfold fL_sneeze at hf
  obtain ⟨r, e1, hf⟩ := bnd_some hf
  refine v_aload_n (pc := 0) (j := 3) F dL_sneeze_0 rfl rfl ?_
  refine v_iconst (pc := 1) (v := 0) F dL_sneeze_1 ic_0 ?_
  refine v_aload_n (pc := 2) (j := 0) F dL_sneeze_2 rfl rfl ?_
  refine v_iload_n (pc := 3) (j := 1) F dL_sneeze_3 rfl rfl ?_
  refine v_iload_n (pc := 4) (j := 2) F dL_sneeze_4 rfl rfl ?_
  unfold wrp at hf
  obtain ⟨r1, h1⟩ := r
  rcases r1 with v | kx
  · have hf := sm_l hf
    refine w_callI (pc := 5) (As := [.int a1, .int a2]) F cl_L_43 dL_sneeze_5 (kX10_sneeze hT e1) rfl rfl rfl (Nat.le_of_ble_eq_true rfl) (by decide) (by decide) ?_
    refine v_i2l (pc := 8) F dL_sneeze_8 rfl ?_
    refine w_last (pc := 9) F dL_sneeze_9 ?_
    refine v_goto (pc := 10) (tgt := 17) F dL_sneeze_10 (by decide) ?_
    refine v_iconst (pc := 17) (v := 0) F dL_sneeze_17 ic_0 ?_
    exact v_iret (pc := 18) F hr dL_sneeze_18 (some_fst hf) (some_snd hf) (by decide)
  · have hf := sm_r hf
    obtain ⟨x9, ex, hf⟩ := bnd_some hf
    unfold cdN at ex
    by_cases hk : kx = 1
    · subst hk
      have ex := Option.some.inj (ite_t ex rfl)
      subst ex
      refine w_callX (pc := 5) (As := [.int a1, .int a2]) (name := xNS) F cl_L_43 dL_sneeze_5 (kX10_sneeze hT e1) rfl rfl rfl (Nat.le_of_ble_eq_true rfl) (by decide) (by decide) ((tableOf [])) (⟨0, 10, 13, 18⟩) (tableOf []) (by rw [htb]; rfl) (fun z hz => by cases hz) (by decide) (by decide) tw_931 (F.2.2.2.2.2.1.2.2.2.2.1 _ (by decide)) (fun q => ?_)
      refine v_astore (pc := 13) (lv' := [(0, .ref (gA g 0)), (1, .int a1), (2, .int a2), (3, .ref (gA g 395)), (4, .ref q)]) F dL_sneeze_13 (by decide) rfl ?_
      refine v_iconst (pc := 15) (v := 1) F dL_sneeze_15 ic_1 ?_
      exact v_iret (pc := 16) F hr dL_sneeze_16 (some_fst hf) (some_snd hf) (by decide)
    · cases ite_f ex hk
def fL_then (h : ST) (a1 : Int32) (a2 : Int32) : Option (Int32 × ST) :=
  bnd (fX10_then h a1 a2) fun r => wrp cdB h r.1 r.2
set_option maxRecDepth 100000 in
set_option maxHeartbeats 4000000 in
theorem kL_then {l : Launch} {g : GE} {B : Nat} {h : ST} {a1 : Int32} {a2 : Int32} {y : Int32 × ST} (hT : l.stackTraces = false) (hf : fL_then h a1 a2 = some y) : WT l yL_then cL_then 5 [(0, 10, 13, 18), (0, 10, 17, 13)] 10 2 g B [.ref (gA g 0), .int a1, .int a2, .ref (gA g 395)] h y.1 y.2 := by
  refine WT.of pn_L (Nat.le_of_ble_eq_true rfl) ?_
  intro p e s m below meth c hr htb F
  have F : Fx p s m _ meth c cL_then 5 "DustParishLaw" 396 g B := F
  refine V_lv (lv' := [(0, .ref (gA g 0)), (1, .int a1), (2, .int a2), (3, .ref (gA g 395))]) rfl ?_
  unfold fL_then at hf
  obtain ⟨r, e1, hf⟩ := bnd_some hf
  refine v_aload_n (pc := 0) (j := 3) F dL_then_0 rfl rfl ?_
  refine v_iconst (pc := 1) (v := 0) F dL_then_1 ic_0 ?_
  refine v_aload_n (pc := 2) (j := 0) F dL_then_2 rfl rfl ?_
  refine v_iload_n (pc := 3) (j := 1) F dL_then_3 rfl rfl ?_
  refine v_iload_n (pc := 4) (j := 2) F dL_then_4 rfl rfl ?_
  unfold wrp at hf
  obtain ⟨r1, h1⟩ := r
  rcases r1 with v | kx
  · have hf := sm_l hf
    refine w_callI (pc := 5) (As := [.int a1, .int a2]) F cl_L_46 dL_then_5 (kX10_then hT e1) rfl rfl rfl (Nat.le_of_ble_eq_true rfl) (by decide) (by decide) ?_
    refine v_i2l (pc := 8) F dL_then_8 rfl ?_
    refine w_last (pc := 9) F dL_then_9 ?_
    refine v_goto (pc := 10) (tgt := 21) F dL_then_10 (by decide) ?_
    refine v_iconst (pc := 21) (v := 0) F dL_then_21 ic_0 ?_
    exact v_iret (pc := 22) F hr dL_then_22 (some_fst hf) (some_snd hf) (by decide)
  · have hf := sm_r hf
    obtain ⟨x9, ex, hf⟩ := bnd_some hf
    unfold cdB at ex
    by_cases hk : kx = 1
    · subst hk
      have ex := Option.some.inj (ite_t ex rfl)
      subst ex
      refine w_callX (pc := 5) (As := [.int a1, .int a2]) (name := xNS) F cl_L_46 dL_then_5 (kX10_then hT e1) rfl rfl rfl (Nat.le_of_ble_eq_true rfl) (by decide) (by decide) ((tableOf [])) (⟨0, 10, 13, 18⟩) (tableOf [(0, 10, 17, 13)]) (by rw [htb]; rfl) (fun z hz => by cases hz) (by decide) (by decide) tw_931 (F.2.2.2.2.2.1.2.2.2.2.1 _ (by decide)) (fun q => ?_)
      refine v_astore (pc := 13) (lv' := [(0, .ref (gA g 0)), (1, .int a1), (2, .int a2), (3, .ref (gA g 395)), (4, .ref q)]) F dL_then_13 (by decide) rfl ?_
      refine v_iconst (pc := 15) (v := 1) F dL_then_15 ic_1 ?_
      exact v_iret (pc := 16) F hr dL_then_16 (some_fst hf) (some_snd hf) (by decide)
    · have ex := Option.some.inj (ite_f ex hk)
      subst ex
      have hq : exn kx = xIA := by unfold exn; rw [if_neg hk]
      refine w_callX (pc := 5) (As := [.int a1, .int a2]) (name := xIA) F cl_L_46 dL_then_5 (exn_to hq (kX10_then hT e1)) rfl rfl rfl (Nat.le_of_ble_eq_true rfl) (by decide) (by decide) ((tableOf [(0, 10, 13, 18)])) (⟨0, 10, 17, 13⟩) (tableOf []) (by rw [htb]; rfl) (fun z hz => Or.inr (by
        have hz : z = ⟨0, 10, 13, 18⟩ := by simpa [tableOf] using hz
        subst hz
        exact ⟨by decide, xNS, F.w tw_931, F.2.2.2.2.2.1.2.2.2.2.2⟩)) (by decide) (by decide) tw_562 (F.2.2.2.2.2.1.2.2.2.2.1 _ (by decide)) (fun q => ?_)
      refine v_astore (pc := 17) (lv' := [(0, .ref (gA g 0)), (1, .int a1), (2, .int a2), (3, .ref (gA g 395)), (4, .ref q)]) F dL_then_17 (by decide) rfl ?_
      refine v_iconst (pc := 19) (v := 2) F dL_then_19 ic_2 ?_
      exact v_iret (pc := 20) F hr dL_then_20 (some_fst hf) (some_snd hf) (by decide)
def fL_taken (h : ST) (a1 : Int32) : Option (Int32 × ST) :=
  bnd (fX10_taken h a1) fun r => wrp cdI h r.1 r.2
set_option maxRecDepth 100000 in
set_option maxHeartbeats 4000000 in
theorem kL_taken {l : Launch} {g : GE} {B : Nat} {h : ST} {a1 : Int32} {y : Int32 × ST} (hT : l.stackTraces = false) (hf : fL_taken h a1 = some y) : WT l yL_taken cL_taken 4 [(0, 9, 12, 13)] 10 1 g B [.ref (gA g 0), .int a1, .ref (gA g 395)] h y.1 y.2 := by
  refine WT.of pn_L (Nat.le_of_ble_eq_true rfl) ?_
  intro p e s m below meth c hr htb F
  have F : Fx p s m _ meth c cL_taken 4 "DustParishLaw" 396 g B := F
  refine V_lv (lv' := [(0, .ref (gA g 0)), (1, .int a1), (2, .ref (gA g 395))]) rfl ?_
  unfold fL_taken at hf
  obtain ⟨r, e1, hf⟩ := bnd_some hf
  refine v_aload_n (pc := 0) (j := 2) F dL_taken_0 rfl rfl ?_
  refine v_iconst (pc := 1) (v := 0) F dL_taken_1 ic_0 ?_
  refine v_aload_n (pc := 2) (j := 0) F dL_taken_2 rfl rfl ?_
  refine v_iload_n (pc := 3) (j := 1) F dL_taken_3 rfl rfl ?_
  unfold wrp at hf
  obtain ⟨r1, h1⟩ := r
  rcases r1 with v | kx
  · have hf := sm_l hf
    refine w_callI (pc := 4) (As := [.int a1]) F cl_L_49 dL_taken_4 (kX10_taken hT e1) rfl rfl rfl (Nat.le_of_ble_eq_true rfl) (by decide) (by decide) ?_
    refine v_i2l (pc := 7) F dL_taken_7 rfl ?_
    refine w_last (pc := 8) F dL_taken_8 ?_
    refine v_goto (pc := 9) (tgt := 15) F dL_taken_9 (by decide) ?_
    refine v_iconst (pc := 15) (v := 0) F dL_taken_15 ic_0 ?_
    exact v_iret (pc := 16) F hr dL_taken_16 (some_fst hf) (some_snd hf) (by decide)
  · have hf := sm_r hf
    obtain ⟨x9, ex, hf⟩ := bnd_some hf
    unfold cdI at ex
    by_cases hk : kx = 1
    · cases ite_t ex hk
    · have ex := Option.some.inj (ite_f ex hk)
      subst ex
      have hq : exn kx = xIA := by unfold exn; rw [if_neg hk]
      have e1 := e1
      refine w_callX (pc := 4) (As := [.int a1]) (name := xIA) F cl_L_49 dL_taken_4 (exn_to hq (kX10_taken hT e1)) rfl rfl rfl (Nat.le_of_ble_eq_true rfl) (by decide) (by decide) ((tableOf [])) (⟨0, 9, 12, 13⟩) (tableOf []) (by rw [htb]; rfl) (fun z hz => by cases hz) (by decide) (by decide) tw_562 (F.2.2.2.2.2.1.2.2.2.2.1 _ (by decide)) (fun q => ?_)
      refine v_astore_n (pc := 12) (lv' := [(0, .ref (gA g 0)), (1, .int a1), (2, .ref (gA g 395)), (3, .ref q)]) F dL_taken_12 rfl (by decide) rfl ?_
      refine v_iconst (pc := 13) (v := 1) F dL_taken_13 ic_1 ?_
      exact v_iret (pc := 14) F hr dL_taken_14 (some_fst hf) (some_snd hf) (by decide)
def fL_thick (h : ST) (a1 : Int32) (a2 : Int32) : Option (Int32 × ST) :=
  bnd (fX10_thick h a1 a2) fun r => wrp cdB h r.1 r.2
set_option maxRecDepth 100000 in
set_option maxHeartbeats 4000000 in
theorem kL_thick {l : Launch} {g : GE} {B : Nat} {h : ST} {a1 : Int32} {a2 : Int32} {y : Int32 × ST} (hT : l.stackTraces = false) (hf : fL_thick h a1 a2 = some y) : WT l yL_thick cL_thick 5 [(0, 10, 13, 18), (0, 10, 17, 13)] 10 2 g B [.ref (gA g 0), .int a1, .int a2, .ref (gA g 395)] h y.1 y.2 := by
  refine WT.of pn_L (Nat.le_of_ble_eq_true rfl) ?_
  intro p e s m below meth c hr htb F
  have F : Fx p s m _ meth c cL_thick 5 "DustParishLaw" 396 g B := F
  refine V_lv (lv' := [(0, .ref (gA g 0)), (1, .int a1), (2, .int a2), (3, .ref (gA g 395))]) rfl ?_
  unfold fL_thick at hf
  obtain ⟨r, e1, hf⟩ := bnd_some hf
  refine v_aload_n (pc := 0) (j := 3) F dL_thick_0 rfl rfl ?_
  refine v_iconst (pc := 1) (v := 0) F dL_thick_1 ic_0 ?_
  refine v_aload_n (pc := 2) (j := 0) F dL_thick_2 rfl rfl ?_
  refine v_iload_n (pc := 3) (j := 1) F dL_thick_3 rfl rfl ?_
  refine v_iload_n (pc := 4) (j := 2) F dL_thick_4 rfl rfl ?_
  unfold wrp at hf
  obtain ⟨r1, h1⟩ := r
  rcases r1 with v | kx
  · have hf := sm_l hf
    refine w_callI (pc := 5) (As := [.int a1, .int a2]) F cl_L_52 dL_thick_5 (kX10_thick hT e1) rfl rfl rfl (Nat.le_of_ble_eq_true rfl) (by decide) (by decide) ?_
    refine v_i2l (pc := 8) F dL_thick_8 rfl ?_
    refine w_last (pc := 9) F dL_thick_9 ?_
    refine v_goto (pc := 10) (tgt := 21) F dL_thick_10 (by decide) ?_
    refine v_iconst (pc := 21) (v := 0) F dL_thick_21 ic_0 ?_
    exact v_iret (pc := 22) F hr dL_thick_22 (some_fst hf) (some_snd hf) (by decide)
  · have hf := sm_r hf
    obtain ⟨x9, ex, hf⟩ := bnd_some hf
    unfold cdB at ex
    by_cases hk : kx = 1
    · subst hk
      have ex := Option.some.inj (ite_t ex rfl)
      subst ex
      refine w_callX (pc := 5) (As := [.int a1, .int a2]) (name := xNS) F cl_L_52 dL_thick_5 (kX10_thick hT e1) rfl rfl rfl (Nat.le_of_ble_eq_true rfl) (by decide) (by decide) ((tableOf [])) (⟨0, 10, 13, 18⟩) (tableOf [(0, 10, 17, 13)]) (by rw [htb]; rfl) (fun z hz => by cases hz) (by decide) (by decide) tw_931 (F.2.2.2.2.2.1.2.2.2.2.1 _ (by decide)) (fun q => ?_)
      refine v_astore (pc := 13) (lv' := [(0, .ref (gA g 0)), (1, .int a1), (2, .int a2), (3, .ref (gA g 395)), (4, .ref q)]) F dL_thick_13 (by decide) rfl ?_
      refine v_iconst (pc := 15) (v := 1) F dL_thick_15 ic_1 ?_
      exact v_iret (pc := 16) F hr dL_thick_16 (some_fst hf) (some_snd hf) (by decide)
    · have ex := Option.some.inj (ite_f ex hk)
      subst ex
      have hq : exn kx = xIA := by unfold exn; rw [if_neg hk]
      refine w_callX (pc := 5) (As := [.int a1, .int a2]) (name := xIA) F cl_L_52 dL_thick_5 (exn_to hq (kX10_thick hT e1)) rfl rfl rfl (Nat.le_of_ble_eq_true rfl) (by decide) (by decide) ((tableOf [(0, 10, 13, 18)])) (⟨0, 10, 17, 13⟩) (tableOf []) (by rw [htb]; rfl) (fun z hz => Or.inr (by
        have hz : z = ⟨0, 10, 13, 18⟩ := by simpa [tableOf] using hz
        subst hz
        exact ⟨by decide, xNS, F.w tw_931, F.2.2.2.2.2.1.2.2.2.2.2⟩)) (by decide) (by decide) tw_562 (F.2.2.2.2.2.1.2.2.2.2.1 _ (by decide)) (fun q => ?_)
      refine v_astore (pc := 17) (lv' := [(0, .ref (gA g 0)), (1, .int a1), (2, .int a2), (3, .ref (gA g 395)), (4, .ref q)]) F dL_thick_17 (by decide) rfl ?_
      refine v_iconst (pc := 19) (v := 2) F dL_thick_19 ic_2 ?_
      exact v_iret (pc := 20) F hr dL_thick_20 (some_fst hf) (some_snd hf) (by decide)
def fL_order (h : ST) (a1 : Int32) (a2 : Int32) : Option (Int32 × ST) :=
  bnd (fX10_order h a1 a2) fun r => wrp cdN h r.1 r.2
set_option maxRecDepth 100000 in
set_option maxHeartbeats 4000000 in
theorem kL_order {l : Launch} {g : GE} {B : Nat} {h : ST} {a1 : Int32} {a2 : Int32} {y : Int32 × ST} (hT : l.stackTraces = false) (hf : fL_order h a1 a2 = some y) : WT l yL_order cL_order 5 [(0, 10, 13, 18)] 10 2 g B [.ref (gA g 0), .int a1, .int a2, .ref (gA g 395)] h y.1 y.2 := by
  refine WT.of pn_L (Nat.le_of_ble_eq_true rfl) ?_
  intro p e s m below meth c hr htb F
  have F : Fx p s m _ meth c cL_order 5 "DustParishLaw" 396 g B := F
  refine V_lv (lv' := [(0, .ref (gA g 0)), (1, .int a1), (2, .int a2), (3, .ref (gA g 395))]) rfl ?_
  unfold fL_order at hf
  obtain ⟨r, e1, hf⟩ := bnd_some hf
  refine v_aload_n (pc := 0) (j := 3) F dL_order_0 rfl rfl ?_
  refine v_iconst (pc := 1) (v := 0) F dL_order_1 ic_0 ?_
  refine v_aload_n (pc := 2) (j := 0) F dL_order_2 rfl rfl ?_
  refine v_iload_n (pc := 3) (j := 1) F dL_order_3 rfl rfl ?_
  refine v_iload_n (pc := 4) (j := 2) F dL_order_4 rfl rfl ?_
  unfold wrp at hf
  obtain ⟨r1, h1⟩ := r
  rcases r1 with v | kx
  · have hf := sm_l hf
    refine w_callI (pc := 5) (As := [.int a1, .int a2]) F cl_L_55 dL_order_5 (kX10_order hT e1) rfl rfl rfl (Nat.le_of_ble_eq_true rfl) (by decide) (by decide) ?_
    refine v_i2l (pc := 8) F dL_order_8 rfl ?_
    refine w_last (pc := 9) F dL_order_9 ?_
    refine v_goto (pc := 10) (tgt := 17) F dL_order_10 (by decide) ?_
    refine v_iconst (pc := 17) (v := 0) F dL_order_17 ic_0 ?_
    exact v_iret (pc := 18) F hr dL_order_18 (some_fst hf) (some_snd hf) (by decide)
  · have hf := sm_r hf
    obtain ⟨x9, ex, hf⟩ := bnd_some hf
    unfold cdN at ex
    by_cases hk : kx = 1
    · subst hk
      have ex := Option.some.inj (ite_t ex rfl)
      subst ex
      refine w_callX (pc := 5) (As := [.int a1, .int a2]) (name := xNS) F cl_L_55 dL_order_5 (kX10_order hT e1) rfl rfl rfl (Nat.le_of_ble_eq_true rfl) (by decide) (by decide) ((tableOf [])) (⟨0, 10, 13, 18⟩) (tableOf []) (by rw [htb]; rfl) (fun z hz => by cases hz) (by decide) (by decide) tw_931 (F.2.2.2.2.2.1.2.2.2.2.1 _ (by decide)) (fun q => ?_)
      refine v_astore (pc := 13) (lv' := [(0, .ref (gA g 0)), (1, .int a1), (2, .int a2), (3, .ref (gA g 395)), (4, .ref q)]) F dL_order_13 (by decide) rfl ?_
      refine v_iconst (pc := 15) (v := 1) F dL_order_15 ic_1 ?_
      exact v_iret (pc := 16) F hr dL_order_16 (some_fst hf) (some_snd hf) (by decide)
    · cases ite_f ex hk
def fL_round (h : ST) (a1 : Int32) (a2 : Int32) : Option (Int32 × ST) :=
  bnd (fX10_round h a1 a2) fun r => wrp cdB h r.1 r.2
set_option maxRecDepth 100000 in
set_option maxHeartbeats 4000000 in
theorem kL_round {l : Launch} {g : GE} {B : Nat} {h : ST} {a1 : Int32} {a2 : Int32} {y : Int32 × ST} (hT : l.stackTraces = false) (hf : fL_round h a1 a2 = some y) : WT l yL_round cL_round 5 [(0, 10, 13, 18), (0, 10, 17, 13)] 10 2 g B [.ref (gA g 0), .int a1, .int a2, .ref (gA g 395)] h y.1 y.2 := by
  refine WT.of pn_L (Nat.le_of_ble_eq_true rfl) ?_
  intro p e s m below meth c hr htb F
  have F : Fx p s m _ meth c cL_round 5 "DustParishLaw" 396 g B := F
  refine V_lv (lv' := [(0, .ref (gA g 0)), (1, .int a1), (2, .int a2), (3, .ref (gA g 395))]) rfl ?_
  unfold fL_round at hf
  obtain ⟨r, e1, hf⟩ := bnd_some hf
  refine v_aload_n (pc := 0) (j := 3) F dL_round_0 rfl rfl ?_
  refine v_iconst (pc := 1) (v := 0) F dL_round_1 ic_0 ?_
  refine v_aload_n (pc := 2) (j := 0) F dL_round_2 rfl rfl ?_
  refine v_iload_n (pc := 3) (j := 1) F dL_round_3 rfl rfl ?_
  refine v_iload_n (pc := 4) (j := 2) F dL_round_4 rfl rfl ?_
  unfold wrp at hf
  obtain ⟨r1, h1⟩ := r
  rcases r1 with v | kx
  · have hf := sm_l hf
    refine w_callI (pc := 5) (As := [.int a1, .int a2]) F cl_L_58 dL_round_5 (kX10_round hT e1) rfl rfl rfl (Nat.le_of_ble_eq_true rfl) (by decide) (by decide) ?_
    refine v_i2l (pc := 8) F dL_round_8 rfl ?_
    refine w_last (pc := 9) F dL_round_9 ?_
    refine v_goto (pc := 10) (tgt := 21) F dL_round_10 (by decide) ?_
    refine v_iconst (pc := 21) (v := 0) F dL_round_21 ic_0 ?_
    exact v_iret (pc := 22) F hr dL_round_22 (some_fst hf) (some_snd hf) (by decide)
  · have hf := sm_r hf
    obtain ⟨x9, ex, hf⟩ := bnd_some hf
    unfold cdB at ex
    by_cases hk : kx = 1
    · subst hk
      have ex := Option.some.inj (ite_t ex rfl)
      subst ex
      refine w_callX (pc := 5) (As := [.int a1, .int a2]) (name := xNS) F cl_L_58 dL_round_5 (kX10_round hT e1) rfl rfl rfl (Nat.le_of_ble_eq_true rfl) (by decide) (by decide) ((tableOf [])) (⟨0, 10, 13, 18⟩) (tableOf [(0, 10, 17, 13)]) (by rw [htb]; rfl) (fun z hz => by cases hz) (by decide) (by decide) tw_931 (F.2.2.2.2.2.1.2.2.2.2.1 _ (by decide)) (fun q => ?_)
      refine v_astore (pc := 13) (lv' := [(0, .ref (gA g 0)), (1, .int a1), (2, .int a2), (3, .ref (gA g 395)), (4, .ref q)]) F dL_round_13 (by decide) rfl ?_
      refine v_iconst (pc := 15) (v := 1) F dL_round_15 ic_1 ?_
      exact v_iret (pc := 16) F hr dL_round_16 (some_fst hf) (some_snd hf) (by decide)
    · have ex := Option.some.inj (ite_f ex hk)
      subst ex
      have hq : exn kx = xIA := by unfold exn; rw [if_neg hk]
      refine w_callX (pc := 5) (As := [.int a1, .int a2]) (name := xIA) F cl_L_58 dL_round_5 (exn_to hq (kX10_round hT e1)) rfl rfl rfl (Nat.le_of_ble_eq_true rfl) (by decide) (by decide) ((tableOf [(0, 10, 13, 18)])) (⟨0, 10, 17, 13⟩) (tableOf []) (by rw [htb]; rfl) (fun z hz => Or.inr (by
        have hz : z = ⟨0, 10, 13, 18⟩ := by simpa [tableOf] using hz
        subst hz
        exact ⟨by decide, xNS, F.w tw_931, F.2.2.2.2.2.1.2.2.2.2.2⟩)) (by decide) (by decide) tw_562 (F.2.2.2.2.2.1.2.2.2.2.1 _ (by decide)) (fun q => ?_)
      refine v_astore (pc := 17) (lv' := [(0, .ref (gA g 0)), (1, .int a1), (2, .int a2), (3, .ref (gA g 395)), (4, .ref q)]) F dL_round_17 (by decide) rfl ?_
      refine v_iconst (pc := 19) (v := 2) F dL_round_19 ic_2 ?_
      exact v_iret (pc := 20) F hr dL_round_20 (some_fst hf) (some_snd hf) (by decide)
def fL_shares (h : ST) (a1 : Int32) : Option (Int32 × ST) :=
  bnd (fX10_shares h a1) fun r => wrp cdI h r.1 r.2
set_option maxRecDepth 100000 in
set_option maxHeartbeats 4000000 in
theorem kL_shares {l : Launch} {g : GE} {B : Nat} {h : ST} {a1 : Int32} {y : Int32 × ST} (hT : l.stackTraces = false) (hf : fL_shares h a1 = some y) : WT l yL_shares cL_shares 4 [(0, 9, 12, 13)] 16 1 g B [.ref (gA g 0), .int a1, .ref (gA g 395)] h y.1 y.2 := by
  refine WT.of pn_L (Nat.le_of_ble_eq_true rfl) ?_
  intro p e s m below meth c hr htb F
  have F : Fx p s m _ meth c cL_shares 4 "DustParishLaw" 396 g B := F
  refine V_lv (lv' := [(0, .ref (gA g 0)), (1, .int a1), (2, .ref (gA g 395))]) rfl ?_
  unfold fL_shares at hf
  obtain ⟨r, e1, hf⟩ := bnd_some hf
  refine v_aload_n (pc := 0) (j := 2) F dL_shares_0 rfl rfl ?_
  refine v_iconst (pc := 1) (v := 0) F dL_shares_1 ic_0 ?_
  refine v_aload_n (pc := 2) (j := 0) F dL_shares_2 rfl rfl ?_
  refine v_iload_n (pc := 3) (j := 1) F dL_shares_3 rfl rfl ?_
  unfold wrp at hf
  obtain ⟨r1, h1⟩ := r
  rcases r1 with v | kx
  · have hf := sm_l hf
    refine w_callI (pc := 4) (As := [.int a1]) F cl_L_61 dL_shares_4 (kX10_shares hT e1) rfl rfl rfl (Nat.le_of_ble_eq_true rfl) (by decide) (by decide) ?_
    refine v_i2l (pc := 7) F dL_shares_7 rfl ?_
    refine w_last (pc := 8) F dL_shares_8 ?_
    refine v_goto (pc := 9) (tgt := 15) F dL_shares_9 (by decide) ?_
    refine v_iconst (pc := 15) (v := 0) F dL_shares_15 ic_0 ?_
    exact v_iret (pc := 16) F hr dL_shares_16 (some_fst hf) (some_snd hf) (by decide)
  · have hf := sm_r hf
    obtain ⟨x9, ex, hf⟩ := bnd_some hf
    unfold cdI at ex
    by_cases hk : kx = 1
    · cases ite_t ex hk
    · have ex := Option.some.inj (ite_f ex hk)
      subst ex
      have hq : exn kx = xIA := by unfold exn; rw [if_neg hk]
      have e1 := e1
      refine w_callX (pc := 4) (As := [.int a1]) (name := xIA) F cl_L_61 dL_shares_4 (exn_to hq (kX10_shares hT e1)) rfl rfl rfl (Nat.le_of_ble_eq_true rfl) (by decide) (by decide) ((tableOf [])) (⟨0, 9, 12, 13⟩) (tableOf []) (by rw [htb]; rfl) (fun z hz => by cases hz) (by decide) (by decide) tw_562 (F.2.2.2.2.2.1.2.2.2.2.1 _ (by decide)) (fun q => ?_)
      refine v_astore_n (pc := 12) (lv' := [(0, .ref (gA g 0)), (1, .int a1), (2, .ref (gA g 395)), (3, .ref q)]) F dL_shares_12 rfl (by decide) rfl ?_
      refine v_iconst (pc := 13) (v := 1) F dL_shares_13 ic_1 ?_
      exact v_iret (pc := 14) F hr dL_shares_14 (some_fst hf) (some_snd hf) (by decide)
def fL_from (h : ST) (a1 : Int32) (a2 : Int32) (a3 : Int32) : Option (Int32 × ST) :=
  bnd (fX10_from h a1 a2 a3) fun r => wrp cdB h r.1 r.2
set_option maxRecDepth 100000 in
set_option maxHeartbeats 4000000 in
theorem kL_from {l : Launch} {g : GE} {B : Nat} {h : ST} {a1 : Int32} {a2 : Int32} {a3 : Int32} {y : Int32 × ST} (hT : l.stackTraces = false) (hf : fL_from h a1 a2 a3 = some y) : WT l yL_from cL_from 6 [(0, 12, 15, 18), (0, 12, 19, 13)] 10 3 g B [.ref (gA g 0), .int a1, .int a2, .int a3, .ref (gA g 395)] h y.1 y.2 := by
  refine WT.of pn_L (Nat.le_of_ble_eq_true rfl) ?_
  intro p e s m below meth c hr htb F
  have F : Fx p s m _ meth c cL_from 6 "DustParishLaw" 396 g B := F
  refine V_lv (lv' := [(0, .ref (gA g 0)), (1, .int a1), (2, .int a2), (3, .int a3), (4, .ref (gA g 395))]) rfl ?_
  unfold fL_from at hf
  obtain ⟨r, e1, hf⟩ := bnd_some hf
  refine v_aload (pc := 0) (j := 4) F dL_from_0 rfl ?_
  refine v_iconst (pc := 2) (v := 0) F dL_from_2 ic_0 ?_
  refine v_aload_n (pc := 3) (j := 0) F dL_from_3 rfl rfl ?_
  refine v_iload_n (pc := 4) (j := 1) F dL_from_4 rfl rfl ?_
  refine v_iload_n (pc := 5) (j := 2) F dL_from_5 rfl rfl ?_
  refine v_iload_n (pc := 6) (j := 3) F dL_from_6 rfl rfl ?_
  unfold wrp at hf
  obtain ⟨r1, h1⟩ := r
  rcases r1 with v | kx
  · have hf := sm_l hf
    refine w_callI (pc := 7) (As := [.int a1, .int a2, .int a3]) F cl_L_64 dL_from_7 (kX10_from hT e1) rfl rfl rfl (Nat.le_of_ble_eq_true rfl) (by decide) (by decide) ?_
    refine v_i2l (pc := 10) F dL_from_10 rfl ?_
    refine w_last (pc := 11) F dL_from_11 ?_
    refine v_goto (pc := 12) (tgt := 23) F dL_from_12 (by decide) ?_
    refine v_iconst (pc := 23) (v := 0) F dL_from_23 ic_0 ?_
    exact v_iret (pc := 24) F hr dL_from_24 (some_fst hf) (some_snd hf) (by decide)
  · have hf := sm_r hf
    obtain ⟨x9, ex, hf⟩ := bnd_some hf
    unfold cdB at ex
    by_cases hk : kx = 1
    · subst hk
      have ex := Option.some.inj (ite_t ex rfl)
      subst ex
      refine w_callX (pc := 7) (As := [.int a1, .int a2, .int a3]) (name := xNS) F cl_L_64 dL_from_7 (kX10_from hT e1) rfl rfl rfl (Nat.le_of_ble_eq_true rfl) (by decide) (by decide) ((tableOf [])) (⟨0, 12, 15, 18⟩) (tableOf [(0, 12, 19, 13)]) (by rw [htb]; rfl) (fun z hz => by cases hz) (by decide) (by decide) tw_931 (F.2.2.2.2.2.1.2.2.2.2.1 _ (by decide)) (fun q => ?_)
      refine v_astore (pc := 15) (lv' := [(0, .ref (gA g 0)), (1, .int a1), (2, .int a2), (3, .int a3), (4, .ref (gA g 395)), (5, .ref q)]) F dL_from_15 (by decide) rfl ?_
      refine v_iconst (pc := 17) (v := 1) F dL_from_17 ic_1 ?_
      exact v_iret (pc := 18) F hr dL_from_18 (some_fst hf) (some_snd hf) (by decide)
    · have ex := Option.some.inj (ite_f ex hk)
      subst ex
      have hq : exn kx = xIA := by unfold exn; rw [if_neg hk]
      refine w_callX (pc := 7) (As := [.int a1, .int a2, .int a3]) (name := xIA) F cl_L_64 dL_from_7 (exn_to hq (kX10_from hT e1)) rfl rfl rfl (Nat.le_of_ble_eq_true rfl) (by decide) (by decide) ((tableOf [(0, 12, 15, 18)])) (⟨0, 12, 19, 13⟩) (tableOf []) (by rw [htb]; rfl) (fun z hz => Or.inr (by
        have hz : z = ⟨0, 12, 15, 18⟩ := by simpa [tableOf] using hz
        subst hz
        exact ⟨by decide, xNS, F.w tw_931, F.2.2.2.2.2.1.2.2.2.2.2⟩)) (by decide) (by decide) tw_562 (F.2.2.2.2.2.1.2.2.2.2.1 _ (by decide)) (fun q => ?_)
      refine v_astore (pc := 19) (lv' := [(0, .ref (gA g 0)), (1, .int a1), (2, .int a2), (3, .int a3), (4, .ref (gA g 395)), (5, .ref q)]) F dL_from_19 (by decide) rfl ?_
      refine v_iconst (pc := 21) (v := 2) F dL_from_21 ic_2 ?_
      exact v_iret (pc := 22) F hr dL_from_22 (some_fst hf) (some_snd hf) (by decide)
def fL_poorest (h : ST) (a1 : Int32) : Option (Int32 × ST) :=
  bnd (fX10_poorest h a1) fun r => wrp cdI h r.1 r.2
set_option maxRecDepth 100000 in
set_option maxHeartbeats 4000000 in
theorem kL_poorest {l : Launch} {g : GE} {B : Nat} {h : ST} {a1 : Int32} {y : Int32 × ST} (hT : l.stackTraces = false) (hf : fL_poorest h a1 = some y) : WT l yL_poorest cL_poorest 4 [(0, 9, 12, 13)] 10 1 g B [.ref (gA g 0), .int a1, .ref (gA g 395)] h y.1 y.2 := by
  refine WT.of pn_L (Nat.le_of_ble_eq_true rfl) ?_
  intro p e s m below meth c hr htb F
  have F : Fx p s m _ meth c cL_poorest 4 "DustParishLaw" 396 g B := F
  refine V_lv (lv' := [(0, .ref (gA g 0)), (1, .int a1), (2, .ref (gA g 395))]) rfl ?_
  unfold fL_poorest at hf
  obtain ⟨r, e1, hf⟩ := bnd_some hf
  refine v_aload_n (pc := 0) (j := 2) F dL_poorest_0 rfl rfl ?_
  refine v_iconst (pc := 1) (v := 0) F dL_poorest_1 ic_0 ?_
  refine v_aload_n (pc := 2) (j := 0) F dL_poorest_2 rfl rfl ?_
  refine v_iload_n (pc := 3) (j := 1) F dL_poorest_3 rfl rfl ?_
  unfold wrp at hf
  obtain ⟨r1, h1⟩ := r
  rcases r1 with v | kx
  · have hf := sm_l hf
    refine w_callI (pc := 4) (As := [.int a1]) F cl_L_67 dL_poorest_4 (kX10_poorest hT e1) rfl rfl rfl (Nat.le_of_ble_eq_true rfl) (by decide) (by decide) ?_
    refine v_i2l (pc := 7) F dL_poorest_7 rfl ?_
    refine w_last (pc := 8) F dL_poorest_8 ?_
    refine v_goto (pc := 9) (tgt := 15) F dL_poorest_9 (by decide) ?_
    refine v_iconst (pc := 15) (v := 0) F dL_poorest_15 ic_0 ?_
    exact v_iret (pc := 16) F hr dL_poorest_16 (some_fst hf) (some_snd hf) (by decide)
  · have hf := sm_r hf
    obtain ⟨x9, ex, hf⟩ := bnd_some hf
    unfold cdI at ex
    by_cases hk : kx = 1
    · cases ite_t ex hk
    · have ex := Option.some.inj (ite_f ex hk)
      subst ex
      have hq : exn kx = xIA := by unfold exn; rw [if_neg hk]
      have e1 := e1
      refine w_callX (pc := 4) (As := [.int a1]) (name := xIA) F cl_L_67 dL_poorest_4 (exn_to hq (kX10_poorest hT e1)) rfl rfl rfl (Nat.le_of_ble_eq_true rfl) (by decide) (by decide) ((tableOf [])) (⟨0, 9, 12, 13⟩) (tableOf []) (by rw [htb]; rfl) (fun z hz => by cases hz) (by decide) (by decide) tw_562 (F.2.2.2.2.2.1.2.2.2.2.1 _ (by decide)) (fun q => ?_)
      refine v_astore_n (pc := 12) (lv' := [(0, .ref (gA g 0)), (1, .int a1), (2, .ref (gA g 395)), (3, .ref q)]) F dL_poorest_12 rfl (by decide) rfl ?_
      refine v_iconst (pc := 13) (v := 1) F dL_poorest_13 ic_1 ?_
      exact v_iret (pc := 14) F hr dL_poorest_14 (some_fst hf) (some_snd hf) (by decide)
def fL_fullest (h : ST) (a1 : Int32) : Option (Int32 × ST) :=
  bnd (fX10_fullest h a1) fun r => wrp cdI h r.1 r.2
set_option maxRecDepth 100000 in
set_option maxHeartbeats 4000000 in
theorem kL_fullest {l : Launch} {g : GE} {B : Nat} {h : ST} {a1 : Int32} {y : Int32 × ST} (hT : l.stackTraces = false) (hf : fL_fullest h a1 = some y) : WT l yL_fullest cL_fullest 4 [(0, 9, 12, 13)] 10 1 g B [.ref (gA g 0), .int a1, .ref (gA g 395)] h y.1 y.2 := by
  refine WT.of pn_L (Nat.le_of_ble_eq_true rfl) ?_
  intro p e s m below meth c hr htb F
  have F : Fx p s m _ meth c cL_fullest 4 "DustParishLaw" 396 g B := F
  refine V_lv (lv' := [(0, .ref (gA g 0)), (1, .int a1), (2, .ref (gA g 395))]) rfl ?_
  unfold fL_fullest at hf
  obtain ⟨r, e1, hf⟩ := bnd_some hf
  refine v_aload_n (pc := 0) (j := 2) F dL_fullest_0 rfl rfl ?_
  refine v_iconst (pc := 1) (v := 0) F dL_fullest_1 ic_0 ?_
  refine v_aload_n (pc := 2) (j := 0) F dL_fullest_2 rfl rfl ?_
  refine v_iload_n (pc := 3) (j := 1) F dL_fullest_3 rfl rfl ?_
  unfold wrp at hf
  obtain ⟨r1, h1⟩ := r
  rcases r1 with v | kx
  · have hf := sm_l hf
    refine w_callI (pc := 4) (As := [.int a1]) F cl_L_70 dL_fullest_4 (kX10_fullest hT e1) rfl rfl rfl (Nat.le_of_ble_eq_true rfl) (by decide) (by decide) ?_
    refine v_i2l (pc := 7) F dL_fullest_7 rfl ?_
    refine w_last (pc := 8) F dL_fullest_8 ?_
    refine v_goto (pc := 9) (tgt := 15) F dL_fullest_9 (by decide) ?_
    refine v_iconst (pc := 15) (v := 0) F dL_fullest_15 ic_0 ?_
    exact v_iret (pc := 16) F hr dL_fullest_16 (some_fst hf) (some_snd hf) (by decide)
  · have hf := sm_r hf
    obtain ⟨x9, ex, hf⟩ := bnd_some hf
    unfold cdI at ex
    by_cases hk : kx = 1
    · cases ite_t ex hk
    · have ex := Option.some.inj (ite_f ex hk)
      subst ex
      have hq : exn kx = xIA := by unfold exn; rw [if_neg hk]
      have e1 := e1
      refine w_callX (pc := 4) (As := [.int a1]) (name := xIA) F cl_L_70 dL_fullest_4 (exn_to hq (kX10_fullest hT e1)) rfl rfl rfl (Nat.le_of_ble_eq_true rfl) (by decide) (by decide) ((tableOf [])) (⟨0, 9, 12, 13⟩) (tableOf []) (by rw [htb]; rfl) (fun z hz => by cases hz) (by decide) (by decide) tw_562 (F.2.2.2.2.2.1.2.2.2.2.1 _ (by decide)) (fun q => ?_)
      refine v_astore_n (pc := 12) (lv' := [(0, .ref (gA g 0)), (1, .int a1), (2, .ref (gA g 395)), (3, .ref q)]) F dL_fullest_12 rfl (by decide) rfl ?_
      refine v_iconst (pc := 13) (v := 1) F dL_fullest_13 ic_1 ?_
      exact v_iret (pc := 14) F hr dL_fullest_14 (some_fst hf) (some_snd hf) (by decide)
def fL_change (h : ST) (a1 : Int32) : Option (Int32 × ST) :=
  bnd (fX10_change h a1) fun r => wrp cdI h r.1 r.2
set_option maxRecDepth 100000 in
set_option maxHeartbeats 4000000 in
theorem kL_change {l : Launch} {g : GE} {B : Nat} {h : ST} {a1 : Int32} {y : Int32 × ST} (hT : l.stackTraces = false) (hf : fL_change h a1 = some y) : WT l yL_change cL_change 4 [(0, 9, 12, 13)] 10 1 g B [.ref (gA g 0), .int a1, .ref (gA g 395)] h y.1 y.2 := by
  refine WT.of pn_L (Nat.le_of_ble_eq_true rfl) ?_
  intro p e s m below meth c hr htb F
  have F : Fx p s m _ meth c cL_change 4 "DustParishLaw" 396 g B := F
  refine V_lv (lv' := [(0, .ref (gA g 0)), (1, .int a1), (2, .ref (gA g 395))]) rfl ?_
  unfold fL_change at hf
  obtain ⟨r, e1, hf⟩ := bnd_some hf
  refine v_aload_n (pc := 0) (j := 2) F dL_change_0 rfl rfl ?_
  refine v_iconst (pc := 1) (v := 0) F dL_change_1 ic_0 ?_
  refine v_aload_n (pc := 2) (j := 0) F dL_change_2 rfl rfl ?_
  refine v_iload_n (pc := 3) (j := 1) F dL_change_3 rfl rfl ?_
  unfold wrp at hf
  obtain ⟨r1, h1⟩ := r
  rcases r1 with v | kx
  · have hf := sm_l hf
    refine w_callI (pc := 4) (As := [.int a1]) F cl_L_73 dL_change_4 (kX10_change hT e1) rfl rfl rfl (Nat.le_of_ble_eq_true rfl) (by decide) (by decide) ?_
    refine v_i2l (pc := 7) F dL_change_7 rfl ?_
    refine w_last (pc := 8) F dL_change_8 ?_
    refine v_goto (pc := 9) (tgt := 15) F dL_change_9 (by decide) ?_
    refine v_iconst (pc := 15) (v := 0) F dL_change_15 ic_0 ?_
    exact v_iret (pc := 16) F hr dL_change_16 (some_fst hf) (some_snd hf) (by decide)
  · have hf := sm_r hf
    obtain ⟨x9, ex, hf⟩ := bnd_some hf
    unfold cdI at ex
    by_cases hk : kx = 1
    · cases ite_t ex hk
    · have ex := Option.some.inj (ite_f ex hk)
      subst ex
      have hq : exn kx = xIA := by unfold exn; rw [if_neg hk]
      have e1 := e1
      refine w_callX (pc := 4) (As := [.int a1]) (name := xIA) F cl_L_73 dL_change_4 (exn_to hq (kX10_change hT e1)) rfl rfl rfl (Nat.le_of_ble_eq_true rfl) (by decide) (by decide) ((tableOf [])) (⟨0, 9, 12, 13⟩) (tableOf []) (by rw [htb]; rfl) (fun z hz => by cases hz) (by decide) (by decide) tw_562 (F.2.2.2.2.2.1.2.2.2.2.1 _ (by decide)) (fun q => ?_)
      refine v_astore_n (pc := 12) (lv' := [(0, .ref (gA g 0)), (1, .int a1), (2, .ref (gA g 395)), (3, .ref q)]) F dL_change_12 rfl (by decide) rfl ?_
      refine v_iconst (pc := 13) (v := 1) F dL_change_13 ic_1 ?_
      exact v_iret (pc := 14) F hr dL_change_14 (some_fst hf) (some_snd hf) (by decide)
def fL_lend (h : ST) (a1 : Int32) : Option (Int32 × ST) :=
  bnd (fX10_lend h a1) fun r => wrp cdN h r h
set_option maxRecDepth 100000 in
set_option maxHeartbeats 4000000 in
theorem kL_lend {l : Launch} {g : GE} {B : Nat} {h : ST} {a1 : Int32} {y : Int32 × ST} (hT : l.stackTraces = false) (hf : fL_lend h a1 = some y) : WT l yL_lend cL_lend 4 [(0, 9, 12, 18)] 10 1 g B [.ref (gA g 0), .int a1, .ref (gA g 395)] h y.1 y.2 := by
  refine WT.of pn_L (Nat.le_of_ble_eq_true rfl) ?_
  intro p e s m below meth c hr htb F
  have F : Fx p s m _ meth c cL_lend 4 "DustParishLaw" 396 g B := F
  refine V_lv (lv' := [(0, .ref (gA g 0)), (1, .int a1), (2, .ref (gA g 395))]) rfl ?_
  unfold fL_lend at hf
  obtain ⟨r, e1, hf⟩ := bnd_some hf
  refine v_aload_n (pc := 0) (j := 2) F dL_lend_0 rfl rfl ?_
  refine v_iconst (pc := 1) (v := 0) F dL_lend_1 ic_0 ?_
  refine v_aload_n (pc := 2) (j := 0) F dL_lend_2 rfl rfl ?_
  refine v_iload_n (pc := 3) (j := 1) F dL_lend_3 rfl rfl ?_
  unfold wrp at hf
  obtain ⟨r1, er⟩ : ∃ q, q = r := ⟨_, rfl⟩
  subst er
  rcases r1 with v | kx
  · have hf := sm_l hf
    refine w_callI (pc := 4) (As := [.int a1]) F cl_L_76 dL_lend_4 (kX10_lend hT e1) rfl rfl rfl (Nat.le_of_ble_eq_true rfl) (by decide) (by decide) ?_
    refine v_i2l (pc := 7) F dL_lend_7 rfl ?_
    refine w_last (pc := 8) F dL_lend_8 ?_
    refine v_goto (pc := 9) (tgt := 15) F dL_lend_9 (by decide) ?_
    refine v_iconst (pc := 15) (v := 0) F dL_lend_15 ic_0 ?_
    exact v_iret (pc := 16) F hr dL_lend_16 (some_fst hf) (some_snd hf) (by decide)
  · have hf := sm_r hf
    obtain ⟨x9, ex, hf⟩ := bnd_some hf
    unfold cdN at ex
    by_cases hk : kx = 1
    · subst hk
      have ex := Option.some.inj (ite_t ex rfl)
      subst ex
      refine w_callX (pc := 4) (As := [.int a1]) (name := xNS) F cl_L_76 dL_lend_4 (kX10_lend hT e1) rfl rfl rfl (Nat.le_of_ble_eq_true rfl) (by decide) (by decide) ((tableOf [])) (⟨0, 9, 12, 18⟩) (tableOf []) (by rw [htb]; rfl) (fun z hz => by cases hz) (by decide) (by decide) tw_931 (F.2.2.2.2.2.1.2.2.2.2.1 _ (by decide)) (fun q => ?_)
      refine v_astore_n (pc := 12) (lv' := [(0, .ref (gA g 0)), (1, .int a1), (2, .ref (gA g 395)), (3, .ref q)]) F dL_lend_12 rfl (by decide) rfl ?_
      refine v_iconst (pc := 13) (v := 1) F dL_lend_13 ic_1 ?_
      exact v_iret (pc := 14) F hr dL_lend_14 (some_fst hf) (some_snd hf) (by decide)
    · cases ite_f ex hk
def fL_often (h : ST) (a1 : Int32) : Option (Int32 × ST) :=
  bnd (fX10_often h a1) fun r => wrp cdI h r.1 r.2
set_option maxRecDepth 100000 in
set_option maxHeartbeats 4000000 in
theorem kL_often {l : Launch} {g : GE} {B : Nat} {h : ST} {a1 : Int32} {y : Int32 × ST} (hT : l.stackTraces = false) (hf : fL_often h a1 = some y) : WT l yL_often cL_often 4 [(0, 9, 12, 13)] 10 1 g B [.ref (gA g 0), .int a1, .ref (gA g 395)] h y.1 y.2 := by
  refine WT.of pn_L (Nat.le_of_ble_eq_true rfl) ?_
  intro p e s m below meth c hr htb F
  have F : Fx p s m _ meth c cL_often 4 "DustParishLaw" 396 g B := F
  refine V_lv (lv' := [(0, .ref (gA g 0)), (1, .int a1), (2, .ref (gA g 395))]) rfl ?_
  unfold fL_often at hf
  obtain ⟨r, e1, hf⟩ := bnd_some hf
  refine v_aload_n (pc := 0) (j := 2) F dL_often_0 rfl rfl ?_
  refine v_iconst (pc := 1) (v := 0) F dL_often_1 ic_0 ?_
  refine v_aload_n (pc := 2) (j := 0) F dL_often_2 rfl rfl ?_
  refine v_iload_n (pc := 3) (j := 1) F dL_often_3 rfl rfl ?_
  unfold wrp at hf
  obtain ⟨r1, h1⟩ := r
  rcases r1 with v | kx
  · have hf := sm_l hf
    refine w_callI (pc := 4) (As := [.int a1]) F cl_L_79 dL_often_4 (kX10_often hT e1) rfl rfl rfl (Nat.le_of_ble_eq_true rfl) (by decide) (by decide) ?_
    refine v_i2l (pc := 7) F dL_often_7 rfl ?_
    refine w_last (pc := 8) F dL_often_8 ?_
    refine v_goto (pc := 9) (tgt := 15) F dL_often_9 (by decide) ?_
    refine v_iconst (pc := 15) (v := 0) F dL_often_15 ic_0 ?_
    exact v_iret (pc := 16) F hr dL_often_16 (some_fst hf) (some_snd hf) (by decide)
  · have hf := sm_r hf
    obtain ⟨x9, ex, hf⟩ := bnd_some hf
    unfold cdI at ex
    by_cases hk : kx = 1
    · cases ite_t ex hk
    · have ex := Option.some.inj (ite_f ex hk)
      subst ex
      have hq : exn kx = xIA := by unfold exn; rw [if_neg hk]
      have e1 := e1
      refine w_callX (pc := 4) (As := [.int a1]) (name := xIA) F cl_L_79 dL_often_4 (exn_to hq (kX10_often hT e1)) rfl rfl rfl (Nat.le_of_ble_eq_true rfl) (by decide) (by decide) ((tableOf [])) (⟨0, 9, 12, 13⟩) (tableOf []) (by rw [htb]; rfl) (fun z hz => by cases hz) (by decide) (by decide) tw_562 (F.2.2.2.2.2.1.2.2.2.2.1 _ (by decide)) (fun q => ?_)
      refine v_astore_n (pc := 12) (lv' := [(0, .ref (gA g 0)), (1, .int a1), (2, .ref (gA g 395)), (3, .ref q)]) F dL_often_12 rfl (by decide) rfl ?_
      refine v_iconst (pc := 13) (v := 1) F dL_often_13 ic_1 ?_
      exact v_iret (pc := 14) F hr dL_often_14 (some_fst hf) (some_snd hf) (by decide)
def fL_riches (h : ST) (a1 : Int32) : Option (Int32 × ST) :=
  bnd (fX10_riches h a1) fun r => wrp cdN h r h
set_option maxRecDepth 100000 in
set_option maxHeartbeats 4000000 in
theorem kL_riches {l : Launch} {g : GE} {B : Nat} {h : ST} {a1 : Int32} {y : Int32 × ST} (hT : l.stackTraces = false) (hf : fL_riches h a1 = some y) : WT l yL_riches cL_riches 4 [(0, 9, 12, 18)] 9 1 g B [.ref (gA g 0), .int a1, .ref (gA g 395)] h y.1 y.2 := by
  refine WT.of pn_L (Nat.le_of_ble_eq_true rfl) ?_
  intro p e s m below meth c hr htb F
  have F : Fx p s m _ meth c cL_riches 4 "DustParishLaw" 396 g B := F
  refine V_lv (lv' := [(0, .ref (gA g 0)), (1, .int a1), (2, .ref (gA g 395))]) rfl ?_
  unfold fL_riches at hf
  obtain ⟨r, e1, hf⟩ := bnd_some hf
  refine v_aload_n (pc := 0) (j := 2) F dL_riches_0 rfl rfl ?_
  refine v_iconst (pc := 1) (v := 0) F dL_riches_1 ic_0 ?_
  refine v_aload_n (pc := 2) (j := 0) F dL_riches_2 rfl rfl ?_
  refine v_iload_n (pc := 3) (j := 1) F dL_riches_3 rfl rfl ?_
  unfold wrp at hf
  obtain ⟨r1, er⟩ : ∃ q, q = r := ⟨_, rfl⟩
  subst er
  rcases r1 with v | kx
  · have hf := sm_l hf
    refine w_callI (pc := 4) (As := [.int a1]) F cl_L_82 dL_riches_4 (kX10_riches hT e1) rfl rfl rfl (Nat.le_of_ble_eq_true rfl) (by decide) (by decide) ?_
    refine v_i2l (pc := 7) F dL_riches_7 rfl ?_
    refine w_last (pc := 8) F dL_riches_8 ?_
    refine v_goto (pc := 9) (tgt := 15) F dL_riches_9 (by decide) ?_
    refine v_iconst (pc := 15) (v := 0) F dL_riches_15 ic_0 ?_
    exact v_iret (pc := 16) F hr dL_riches_16 (some_fst hf) (some_snd hf) (by decide)
  · have hf := sm_r hf
    obtain ⟨x9, ex, hf⟩ := bnd_some hf
    unfold cdN at ex
    by_cases hk : kx = 1
    · subst hk
      have ex := Option.some.inj (ite_t ex rfl)
      subst ex
      refine w_callX (pc := 4) (As := [.int a1]) (name := xNS) F cl_L_82 dL_riches_4 (kX10_riches hT e1) rfl rfl rfl (Nat.le_of_ble_eq_true rfl) (by decide) (by decide) ((tableOf [])) (⟨0, 9, 12, 18⟩) (tableOf []) (by rw [htb]; rfl) (fun z hz => by cases hz) (by decide) (by decide) tw_931 (F.2.2.2.2.2.1.2.2.2.2.1 _ (by decide)) (fun q => ?_)
      refine v_astore_n (pc := 12) (lv' := [(0, .ref (gA g 0)), (1, .int a1), (2, .ref (gA g 395)), (3, .ref q)]) F dL_riches_12 rfl (by decide) rfl ?_
      refine v_iconst (pc := 13) (v := 1) F dL_riches_13 ic_1 ?_
      exact v_iret (pc := 14) F hr dL_riches_14 (some_fst hf) (some_snd hf) (by decide)
    · cases ite_f ex hk
def fL_lost (h : ST) (a1 : Int32) : Option (Int32 × ST) :=
  bnd (fX10_lost h a1) fun r => wrp cdI h r.1 r.2
set_option maxRecDepth 100000 in
set_option maxHeartbeats 4000000 in
theorem kL_lost {l : Launch} {g : GE} {B : Nat} {h : ST} {a1 : Int32} {y : Int32 × ST} (hT : l.stackTraces = false) (hf : fL_lost h a1 = some y) : WT l yL_lost cL_lost 4 [(0, 9, 12, 13)] 10 1 g B [.ref (gA g 0), .int a1, .ref (gA g 395)] h y.1 y.2 := by
  refine WT.of pn_L (Nat.le_of_ble_eq_true rfl) ?_
  intro p e s m below meth c hr htb F
  have F : Fx p s m _ meth c cL_lost 4 "DustParishLaw" 396 g B := F
  refine V_lv (lv' := [(0, .ref (gA g 0)), (1, .int a1), (2, .ref (gA g 395))]) rfl ?_
  unfold fL_lost at hf
  obtain ⟨r, e1, hf⟩ := bnd_some hf
  refine v_aload_n (pc := 0) (j := 2) F dL_lost_0 rfl rfl ?_
  refine v_iconst (pc := 1) (v := 0) F dL_lost_1 ic_0 ?_
  refine v_aload_n (pc := 2) (j := 0) F dL_lost_2 rfl rfl ?_
  refine v_iload_n (pc := 3) (j := 1) F dL_lost_3 rfl rfl ?_
  unfold wrp at hf
  obtain ⟨r1, h1⟩ := r
  rcases r1 with v | kx
  · have hf := sm_l hf
    refine w_callI (pc := 4) (As := [.int a1]) F cl_L_85 dL_lost_4 (kX10_lost hT e1) rfl rfl rfl (Nat.le_of_ble_eq_true rfl) (by decide) (by decide) ?_
    refine v_i2l (pc := 7) F dL_lost_7 rfl ?_
    refine w_last (pc := 8) F dL_lost_8 ?_
    refine v_goto (pc := 9) (tgt := 15) F dL_lost_9 (by decide) ?_
    refine v_iconst (pc := 15) (v := 0) F dL_lost_15 ic_0 ?_
    exact v_iret (pc := 16) F hr dL_lost_16 (some_fst hf) (some_snd hf) (by decide)
  · have hf := sm_r hf
    obtain ⟨x9, ex, hf⟩ := bnd_some hf
    unfold cdI at ex
    by_cases hk : kx = 1
    · cases ite_t ex hk
    · have ex := Option.some.inj (ite_f ex hk)
      subst ex
      have hq : exn kx = xIA := by unfold exn; rw [if_neg hk]
      have e1 := e1
      refine w_callX (pc := 4) (As := [.int a1]) (name := xIA) F cl_L_85 dL_lost_4 (exn_to hq (kX10_lost hT e1)) rfl rfl rfl (Nat.le_of_ble_eq_true rfl) (by decide) (by decide) ((tableOf [])) (⟨0, 9, 12, 13⟩) (tableOf []) (by rw [htb]; rfl) (fun z hz => by cases hz) (by decide) (by decide) tw_562 (F.2.2.2.2.2.1.2.2.2.2.1 _ (by decide)) (fun q => ?_)
      refine v_astore_n (pc := 12) (lv' := [(0, .ref (gA g 0)), (1, .int a1), (2, .ref (gA g 395)), (3, .ref q)]) F dL_lost_12 rfl (by decide) rfl ?_
      refine v_iconst (pc := 13) (v := 1) F dL_lost_13 ic_1 ?_
      exact v_iret (pc := 14) F hr dL_lost_14 (some_fst hf) (some_snd hf) (by decide)
def fL_see (h : ST) (a1 : Int32) (a2 : Int32) (a3 : Int32) : Option (Int32 × ST) :=
  bnd (fX10_see h a1 a2 a3) fun r => wrp cdN h r.1 r.2
set_option maxRecDepth 100000 in
set_option maxHeartbeats 4000000 in
theorem kL_see {l : Launch} {g : GE} {B : Nat} {h : ST} {a1 : Int32} {a2 : Int32} {a3 : Int32} {y : Int32 × ST} (hT : l.stackTraces = false) (hf : fL_see h a1 a2 a3 = some y) : WT l yL_see cL_see 6 [(0, 12, 15, 18)] 10 1 g B [.ref (gA g 0), .int a1, .int a2, .int a3, .ref (gA g 395)] h y.1 y.2 := by
  refine WT.of pn_L (Nat.le_of_ble_eq_true rfl) ?_
  intro p e s m below meth c hr htb F
  have F : Fx p s m _ meth c cL_see 6 "DustParishLaw" 396 g B := F
  refine V_lv (lv' := [(0, .ref (gA g 0)), (1, .int a1), (2, .int a2), (3, .int a3), (4, .ref (gA g 395))]) rfl ?_
  unfold fL_see at hf
  obtain ⟨r, e1, hf⟩ := bnd_some hf
  refine v_aload (pc := 0) (j := 4) F dL_see_0 rfl ?_
  refine v_iconst (pc := 2) (v := 0) F dL_see_2 ic_0 ?_
  refine v_aload_n (pc := 3) (j := 0) F dL_see_3 rfl rfl ?_
  refine v_iload_n (pc := 4) (j := 1) F dL_see_4 rfl rfl ?_
  refine v_iload_n (pc := 5) (j := 2) F dL_see_5 rfl rfl ?_
  refine v_iload_n (pc := 6) (j := 3) F dL_see_6 rfl rfl ?_
  unfold wrp at hf
  obtain ⟨r1, h1⟩ := r
  rcases r1 with v | kx
  · have hf := sm_l hf
    refine w_callI (pc := 7) (As := [.int a1, .int a2, .int a3]) F cl_L_88 dL_see_7 (kX10_see hT e1) rfl rfl rfl (Nat.le_of_ble_eq_true rfl) (by decide) (by decide) ?_
    refine v_i2l (pc := 10) F dL_see_10 rfl ?_
    refine w_last (pc := 11) F dL_see_11 ?_
    refine v_goto (pc := 12) (tgt := 19) F dL_see_12 (by decide) ?_
    refine v_iconst (pc := 19) (v := 0) F dL_see_19 ic_0 ?_
    exact v_iret (pc := 20) F hr dL_see_20 (some_fst hf) (some_snd hf) (by decide)
  · have hf := sm_r hf
    obtain ⟨x9, ex, hf⟩ := bnd_some hf
    unfold cdN at ex
    by_cases hk : kx = 1
    · subst hk
      have ex := Option.some.inj (ite_t ex rfl)
      subst ex
      refine w_callX (pc := 7) (As := [.int a1, .int a2, .int a3]) (name := xNS) F cl_L_88 dL_see_7 (kX10_see hT e1) rfl rfl rfl (Nat.le_of_ble_eq_true rfl) (by decide) (by decide) ((tableOf [])) (⟨0, 12, 15, 18⟩) (tableOf []) (by rw [htb]; rfl) (fun z hz => by cases hz) (by decide) (by decide) tw_931 (F.2.2.2.2.2.1.2.2.2.2.1 _ (by decide)) (fun q => ?_)
      refine v_astore (pc := 15) (lv' := [(0, .ref (gA g 0)), (1, .int a1), (2, .int a2), (3, .int a3), (4, .ref (gA g 395)), (5, .ref q)]) F dL_see_15 (by decide) rfl ?_
      refine v_iconst (pc := 17) (v := 1) F dL_see_17 ic_1 ?_
      exact v_iret (pc := 18) F hr dL_see_18 (some_fst hf) (some_snd hf) (by decide)
    · cases ite_f ex hk
def fL_hand (h : ST) (a1 : Int32) : Option (Int32 × ST) :=
  bnd (fX10_hand h a1) fun r => wrp cdN h r.1 r.2
set_option maxRecDepth 100000 in
set_option maxHeartbeats 4000000 in
theorem kL_hand {l : Launch} {g : GE} {B : Nat} {h : ST} {a1 : Int32} {y : Int32 × ST} (hT : l.stackTraces = false) (hf : fL_hand h a1 = some y) : WT l yL_hand cL_hand 4 [(0, 9, 12, 18)] 9 1 g B [.ref (gA g 0), .int a1, .ref (gA g 395)] h y.1 y.2 := by
  refine WT.of pn_L (Nat.le_of_ble_eq_true rfl) ?_
  intro p e s m below meth c hr htb F
  have F : Fx p s m _ meth c cL_hand 4 "DustParishLaw" 396 g B := F
  refine V_lv (lv' := [(0, .ref (gA g 0)), (1, .int a1), (2, .ref (gA g 395))]) rfl ?_
  unfold fL_hand at hf
  obtain ⟨r, e1, hf⟩ := bnd_some hf
  refine v_aload_n (pc := 0) (j := 2) F dL_hand_0 rfl rfl ?_
  refine v_iconst (pc := 1) (v := 0) F dL_hand_1 ic_0 ?_
  refine v_aload_n (pc := 2) (j := 0) F dL_hand_2 rfl rfl ?_
  refine v_iload_n (pc := 3) (j := 1) F dL_hand_3 rfl rfl ?_
  unfold wrp at hf
  obtain ⟨r1, h1⟩ := r
  rcases r1 with v | kx
  · have hf := sm_l hf
    refine w_callI (pc := 4) (As := [.int a1]) F cl_L_91 dL_hand_4 (kX10_hand hT e1) rfl rfl rfl (Nat.le_of_ble_eq_true rfl) (by decide) (by decide) ?_
    refine v_i2l (pc := 7) F dL_hand_7 rfl ?_
    refine w_last (pc := 8) F dL_hand_8 ?_
    refine v_goto (pc := 9) (tgt := 15) F dL_hand_9 (by decide) ?_
    refine v_iconst (pc := 15) (v := 0) F dL_hand_15 ic_0 ?_
    exact v_iret (pc := 16) F hr dL_hand_16 (some_fst hf) (some_snd hf) (by decide)
  · have hf := sm_r hf
    obtain ⟨x9, ex, hf⟩ := bnd_some hf
    unfold cdN at ex
    by_cases hk : kx = 1
    · subst hk
      have ex := Option.some.inj (ite_t ex rfl)
      subst ex
      refine w_callX (pc := 4) (As := [.int a1]) (name := xNS) F cl_L_91 dL_hand_4 (kX10_hand hT e1) rfl rfl rfl (Nat.le_of_ble_eq_true rfl) (by decide) (by decide) ((tableOf [])) (⟨0, 9, 12, 18⟩) (tableOf []) (by rw [htb]; rfl) (fun z hz => by cases hz) (by decide) (by decide) tw_931 (F.2.2.2.2.2.1.2.2.2.2.1 _ (by decide)) (fun q => ?_)
      refine v_astore_n (pc := 12) (lv' := [(0, .ref (gA g 0)), (1, .int a1), (2, .ref (gA g 395)), (3, .ref q)]) F dL_hand_12 rfl (by decide) rfl ?_
      refine v_iconst (pc := 13) (v := 1) F dL_hand_13 ic_1 ?_
      exact v_iret (pc := 14) F hr dL_hand_14 (some_fst hf) (some_snd hf) (by decide)
    · cases ite_f ex hk
def fL_game (h : ST) (a1 : Int32) (a2 : Int32) (a3 : Int32) : Option (Int32 × ST) :=
  bnd (fX10_game h a1 a2 a3) fun r => wrp cdB h r h
set_option maxRecDepth 100000 in
set_option maxHeartbeats 4000000 in
theorem kL_game {l : Launch} {g : GE} {B : Nat} {h : ST} {a1 : Int32} {a2 : Int32} {a3 : Int32} {y : Int32 × ST} (hT : l.stackTraces = false) (hf : fL_game h a1 a2 a3 = some y) : WT l yL_game cL_game 6 [(0, 12, 15, 18), (0, 12, 19, 13)] 9 1 g B [.ref (gA g 0), .int a1, .int a2, .int a3, .ref (gA g 395)] h y.1 y.2 := by
  refine WT.of pn_L (Nat.le_of_ble_eq_true rfl) ?_
  intro p e s m below meth c hr htb F
  have F : Fx p s m _ meth c cL_game 6 "DustParishLaw" 396 g B := F
  refine V_lv (lv' := [(0, .ref (gA g 0)), (1, .int a1), (2, .int a2), (3, .int a3), (4, .ref (gA g 395))]) rfl ?_
  unfold fL_game at hf
  obtain ⟨r, e1, hf⟩ := bnd_some hf
  refine v_aload (pc := 0) (j := 4) F dL_game_0 rfl ?_
  refine v_iconst (pc := 2) (v := 0) F dL_game_2 ic_0 ?_
  refine v_aload_n (pc := 3) (j := 0) F dL_game_3 rfl rfl ?_
  refine v_iload_n (pc := 4) (j := 1) F dL_game_4 rfl rfl ?_
  refine v_iload_n (pc := 5) (j := 2) F dL_game_5 rfl rfl ?_
  refine v_iload_n (pc := 6) (j := 3) F dL_game_6 rfl rfl ?_
  unfold wrp at hf
  obtain ⟨r1, er⟩ : ∃ q, q = r := ⟨_, rfl⟩
  subst er
  rcases r1 with v | kx
  · have hf := sm_l hf
    refine w_callI (pc := 7) (As := [.int a1, .int a2, .int a3]) F cl_L_94 dL_game_7 (kX10_game hT e1) rfl rfl rfl (Nat.le_of_ble_eq_true rfl) (by decide) (by decide) ?_
    refine v_i2l (pc := 10) F dL_game_10 rfl ?_
    refine w_last (pc := 11) F dL_game_11 ?_
    refine v_goto (pc := 12) (tgt := 23) F dL_game_12 (by decide) ?_
    refine v_iconst (pc := 23) (v := 0) F dL_game_23 ic_0 ?_
    exact v_iret (pc := 24) F hr dL_game_24 (some_fst hf) (some_snd hf) (by decide)
  · have hf := sm_r hf
    obtain ⟨x9, ex, hf⟩ := bnd_some hf
    unfold cdB at ex
    by_cases hk : kx = 1
    · subst hk
      have ex := Option.some.inj (ite_t ex rfl)
      subst ex
      refine w_callX (pc := 7) (As := [.int a1, .int a2, .int a3]) (name := xNS) F cl_L_94 dL_game_7 (kX10_game hT e1) rfl rfl rfl (Nat.le_of_ble_eq_true rfl) (by decide) (by decide) ((tableOf [])) (⟨0, 12, 15, 18⟩) (tableOf [(0, 12, 19, 13)]) (by rw [htb]; rfl) (fun z hz => by cases hz) (by decide) (by decide) tw_931 (F.2.2.2.2.2.1.2.2.2.2.1 _ (by decide)) (fun q => ?_)
      refine v_astore (pc := 15) (lv' := [(0, .ref (gA g 0)), (1, .int a1), (2, .int a2), (3, .int a3), (4, .ref (gA g 395)), (5, .ref q)]) F dL_game_15 (by decide) rfl ?_
      refine v_iconst (pc := 17) (v := 1) F dL_game_17 ic_1 ?_
      exact v_iret (pc := 18) F hr dL_game_18 (some_fst hf) (some_snd hf) (by decide)
    · have ex := Option.some.inj (ite_f ex hk)
      subst ex
      have hq : exn kx = xIA := by unfold exn; rw [if_neg hk]
      refine w_callX (pc := 7) (As := [.int a1, .int a2, .int a3]) (name := xIA) F cl_L_94 dL_game_7 (exn_to hq (kX10_game hT e1)) rfl rfl rfl (Nat.le_of_ble_eq_true rfl) (by decide) (by decide) ((tableOf [(0, 12, 15, 18)])) (⟨0, 12, 19, 13⟩) (tableOf []) (by rw [htb]; rfl) (fun z hz => Or.inr (by
        have hz : z = ⟨0, 12, 15, 18⟩ := by simpa [tableOf] using hz
        subst hz
        exact ⟨by decide, xNS, F.w tw_931, F.2.2.2.2.2.1.2.2.2.2.2⟩)) (by decide) (by decide) tw_562 (F.2.2.2.2.2.1.2.2.2.2.1 _ (by decide)) (fun q => ?_)
      refine v_astore (pc := 19) (lv' := [(0, .ref (gA g 0)), (1, .int a1), (2, .int a2), (3, .int a3), (4, .ref (gA g 395)), (5, .ref q)]) F dL_game_19 (by decide) rfl ?_
      refine v_iconst (pc := 21) (v := 2) F dL_game_21 ic_2 ?_
      exact v_iret (pc := 22) F hr dL_game_22 (some_fst hf) (some_snd hf) (by decide)
def fL_years (h : ST) (a1 : Int32) (a2 : Int32) (a3 : Int32) : Option (Int32 × ST) :=
  bnd (fX10_years h a1 a2 a3) fun r => wrp cdB h r.1 r.2
set_option maxRecDepth 100000 in
set_option maxHeartbeats 4000000 in
theorem kL_years {l : Launch} {g : GE} {B : Nat} {h : ST} {a1 : Int32} {a2 : Int32} {a3 : Int32} {y : Int32 × ST} (hT : l.stackTraces = false) (hf : fL_years h a1 a2 a3 = some y) : WT l yL_years cL_years 6 [(0, 12, 15, 18), (0, 12, 19, 13)] 9 1 g B [.ref (gA g 0), .int a1, .int a2, .int a3, .ref (gA g 395)] h y.1 y.2 := by
  refine WT.of pn_L (Nat.le_of_ble_eq_true rfl) ?_
  intro p e s m below meth c hr htb F
  have F : Fx p s m _ meth c cL_years 6 "DustParishLaw" 396 g B := F
  refine V_lv (lv' := [(0, .ref (gA g 0)), (1, .int a1), (2, .int a2), (3, .int a3), (4, .ref (gA g 395))]) rfl ?_
  unfold fL_years at hf
  obtain ⟨r, e1, hf⟩ := bnd_some hf
  refine v_aload (pc := 0) (j := 4) F dL_years_0 rfl ?_
  refine v_iconst (pc := 2) (v := 0) F dL_years_2 ic_0 ?_
  refine v_aload_n (pc := 3) (j := 0) F dL_years_3 rfl rfl ?_
  refine v_iload_n (pc := 4) (j := 1) F dL_years_4 rfl rfl ?_
  refine v_iload_n (pc := 5) (j := 2) F dL_years_5 rfl rfl ?_
  refine v_iload_n (pc := 6) (j := 3) F dL_years_6 rfl rfl ?_
  unfold wrp at hf
  obtain ⟨r1, h1⟩ := r
  rcases r1 with v | kx
  · have hf := sm_l hf
    refine w_callI (pc := 7) (As := [.int a1, .int a2, .int a3]) F cl_L_97 dL_years_7 (kX10_years hT e1) rfl rfl rfl (Nat.le_of_ble_eq_true rfl) (by decide) (by decide) ?_
    refine v_i2l (pc := 10) F dL_years_10 rfl ?_
    refine w_last (pc := 11) F dL_years_11 ?_
    refine v_goto (pc := 12) (tgt := 23) F dL_years_12 (by decide) ?_
    refine v_iconst (pc := 23) (v := 0) F dL_years_23 ic_0 ?_
    exact v_iret (pc := 24) F hr dL_years_24 (some_fst hf) (some_snd hf) (by decide)
  · have hf := sm_r hf
    obtain ⟨x9, ex, hf⟩ := bnd_some hf
    unfold cdB at ex
    by_cases hk : kx = 1
    · subst hk
      have ex := Option.some.inj (ite_t ex rfl)
      subst ex
      refine w_callX (pc := 7) (As := [.int a1, .int a2, .int a3]) (name := xNS) F cl_L_97 dL_years_7 (kX10_years hT e1) rfl rfl rfl (Nat.le_of_ble_eq_true rfl) (by decide) (by decide) ((tableOf [])) (⟨0, 12, 15, 18⟩) (tableOf [(0, 12, 19, 13)]) (by rw [htb]; rfl) (fun z hz => by cases hz) (by decide) (by decide) tw_931 (F.2.2.2.2.2.1.2.2.2.2.1 _ (by decide)) (fun q => ?_)
      refine v_astore (pc := 15) (lv' := [(0, .ref (gA g 0)), (1, .int a1), (2, .int a2), (3, .int a3), (4, .ref (gA g 395)), (5, .ref q)]) F dL_years_15 (by decide) rfl ?_
      refine v_iconst (pc := 17) (v := 1) F dL_years_17 ic_1 ?_
      exact v_iret (pc := 18) F hr dL_years_18 (some_fst hf) (some_snd hf) (by decide)
    · have ex := Option.some.inj (ite_f ex hk)
      subst ex
      have hq : exn kx = xIA := by unfold exn; rw [if_neg hk]
      refine w_callX (pc := 7) (As := [.int a1, .int a2, .int a3]) (name := xIA) F cl_L_97 dL_years_7 (exn_to hq (kX10_years hT e1)) rfl rfl rfl (Nat.le_of_ble_eq_true rfl) (by decide) (by decide) ((tableOf [(0, 12, 15, 18)])) (⟨0, 12, 19, 13⟩) (tableOf []) (by rw [htb]; rfl) (fun z hz => Or.inr (by
        have hz : z = ⟨0, 12, 15, 18⟩ := by simpa [tableOf] using hz
        subst hz
        exact ⟨by decide, xNS, F.w tw_931, F.2.2.2.2.2.1.2.2.2.2.2⟩)) (by decide) (by decide) tw_562 (F.2.2.2.2.2.1.2.2.2.2.1 _ (by decide)) (fun q => ?_)
      refine v_astore (pc := 19) (lv' := [(0, .ref (gA g 0)), (1, .int a1), (2, .int a2), (3, .int a3), (4, .ref (gA g 395)), (5, .ref q)]) F dL_years_19 (by decide) rfl ?_
      refine v_iconst (pc := 21) (v := 2) F dL_years_21 ic_2 ?_
      exact v_iret (pc := 22) F hr dL_years_22 (some_fst hf) (some_snd hf) (by decide)
