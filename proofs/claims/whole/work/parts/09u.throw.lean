/-! ===== methods that may throw ===== -/
def exn (k : Nat) : String := if k = 1 then xNS else xIA
/-- an int or a throw; nothing or a throw -/
def ocI (r : Int32 ⊕ Nat) : Option Value ⊕ String := match r with
  | .inl x => .inl (some (.int x))
  | .inr k => .inr (exn k)
def ocV (r : Unit ⊕ Nat) : Option Value ⊕ String := match r with
  | .inl _ => .inl none
  | .inr k => .inr (exn k)
def QX (KD : Nat → Nat × Nat) (n : Nat) (g : GE) (oc : Option Value ⊕ String) (h : ST) : Array Value → State → Outcome → State → Prop := match oc with
  | .inl ov => QO KD n g ov h
  | .inr _ => fun _ _ _ _ => False
def XX (KD : Nat → Nat × Nat) (n : Nat) (g : GE) (oc : Option Value ⊕ String) (h : ST) : String → State → State → Prop := match oc with
  | .inl _ => fun _ _ _ => False
  | .inr E => fun E' st t => E' = E ∧ WO KD n g zT h t.heap ∧ FR n g st t
def XT (l : Launch) (y : MethodName) (bytes : ByteArray) (maxL : Nat) (ret : Option FieldType) (d K : Nat) (KD : Nat → Nat × Nat) (n : Nat) (g : GE) (B : Nat) (av : List Value) (h : ST) (oc : Option Value ⊕ String) (h' : ST) : Prop :=
  vx_Met l y (Cond.code y bytes maxL ret :: TBG) (RM d K) (PC KD n g B av h) (QX KD n g oc h') (XX KD n g oc h') K (6 * K) (WA n g)
/-- the words of 'throw new E()' -/
def XW (own : String) (ik ic : Nat) (E : String) : Prop :=
  Cond.classLink own ik E ∈ TBG ∧ Cond.initialized E ∈ TBG ∧ (∀ w ∈ (vx_at0 own ic E ["java/lang/RuntimeException", "java/lang/Exception"]).filter goodWord, w ∈ TBG) ∧ (∀ w ∈ (vx_at0 own ic E ["java/lang/RuntimeException", "java/lang/Exception"]).filter (fun w => !goodWord w), w ∈ CW) ∧ Bundle.fit E = true ∧
  ∀ w ∈ Cond.classLink own ik E :: Cond.initialized E :: vx_at0 own ic E ["java/lang/RuntimeException", "java/lang/Exception"], vx_ot w = true
section VX
variable {p : Program} {l : Launch} {e : Env} {D1 K1 : Nat} {s : State} {m : MethodId} {args : Array Value} {below : List Frame} {meth : Method} {c : Code} {Q : State → Prop} {KD : Nat → Nat × Nat} {n : Nat} {g : GE} {B nL k : Nat} {h : ST} {pc : Nat} {lv : List (Nat × Value)} {st : List Value} {cc : ByteArray} {own : String}
theorem V_widen {k' : Nat} (hk : k ≤ k') (kk : V p l e D1 K1 s m args below meth c Q KD n g B nL k' h pc lv st) : V p l e D1 K1 s m args below meth c Q KD n g B nL k h pc lv st := fun ls H locs h1 h2 h3 => W.widen hk (by omega) (kk ls H locs h1 h2 h3)
theorem XT.of {y : MethodName} {maxL : Nat} {ret : Option FieldType} {d K : Nat} {av : List Value} {oc : Option Value ⊕ String} {h' : ST} (hy : plainName y.cls = true) (hm : (lg_sl av).length ≤ maxL)
    (body : ∀ (p : Program) (e : Env) (s : State) (m : MethodId) (below : List Frame) (meth : Method) (c : Code), meth.sig.returnType = ret → (∀ x ∈ c.exceptionTable.toList, False) → Fx p s m av.toArray meth c cc maxL y.cls n g B →
      V p l e d K s m av.toArray below meth c (vx_MQ below (QX KD n g oc h') (XX KD n g oc h') av.toArray s K (6 * K) (WA n g)) KD n g B maxL 0 h 0 (lv_args 0 av) []) : XT l y cc maxL ret d K KD n g B av h oc h' := by
  refine vx_ofW (cc := cc) (maxL := maxL) (ret := ret) hy rfl ?_
  intro p e s m args below meth c s₁ BL hml hex hv
  obtain ⟨rfl, hw, hE, hH, hB⟩ := hv
  have hts := atoms_spec (ws := Cond.code y cc maxL ret :: TBG) BL.pre
  have F : Fx p s m av.toArray meth c cc maxL y.cls n g B := ⟨BL.exec, BL.bytes, hml, findClass_of_methodNamed BL.named, fun w hw => hts w (List.mem_cons_of_mem _ hw), hE, hH, hB, BL.notSynchronized⟩
  have hl := lv_entry av (n := maxL) hm
  rw [lg_entry_eq]
  exact body p e s m below meth c BL.returns hex F _ _ _ hl hw SV.rf
theorem v_xiret (F : Fx p s m args meth c cc nL own n g B) {x : Int32} {r : Int32 ⊕ Nat} {h' : ST} (hr : meth.sig.returnType = some .int) (hdg : decode cc pc = .ok (.ireturn, 1)) (he : Sum.inl x = r) (hh : h = h') (hkk : k ≤ K1) :
    V p l e D1 K1 s m args below meth c (vx_MQ below (QX KD n g (ocI r) h') (XX KD n g (ocI r) h') args s K1 (6 * K1) (WA n g)) KD n g B nL k h pc lv [.int x] := by
  subst he; subst hh
  intro ls H locs hl hw hs
  exact vx_ret (W.widen (k := K1) (n := 6 * K1) hkk (by omega) (W.iret F.1 F.2.1 hr (fun t ht _ => ⟨rfl, by rw [ht]; exact hw, V.fr (B := B) hs ht⟩) hs.2.2 hdg (hlocks := F.2.2.2.2.2.2.2.2)))
theorem v_xvret (F : Fx p s m args meth c cc nL own n g B) {r : Unit ⊕ Nat} {h' : ST} (hr : meth.sig.returnType = none) (hdg : decode cc pc = .ok (.return_, 1)) (he : Sum.inl () = r) (hh : h = h') (hkk : k ≤ K1) :
    V p l e D1 K1 s m args below meth c (vx_MQ below (QX KD n g (ocV r) h') (XX KD n g (ocV r) h') args s K1 (6 * K1) (WA n g)) KD n g B nL k h pc lv [] := by
  subst he; subst hh
  intro ls H locs hl hw hs
  exact vx_ret (W.widen (k := K1) (n := 6 * K1) hkk (by omega) (W.vret F.1 F.2.1 hr (fun t ht _ => ⟨rfl, by rw [ht]; exact hw, V.fr (B := B) hs ht⟩) hs.2.2 hdg (hlocks := F.2.2.2.2.2.2.2.2)))
/-- throw new E() -/
theorem v_throw0 (F : Fx p s m args meth c cc nL own n g B) (hT : l.stackTraces = false) {ik ic : Nat} {E : String} {oc : Option Value ⊕ String} {h' : ST} (w : XW own ik ic E) (hex : ∀ x ∈ c.exceptionTable.toList, False)
    (d0 : decode cc pc = .ok (.new ik, 3)) (d3 : decode cc (pc + 3) = .ok (.dup, 1)) (d4 : decode cc (pc + 4) = .ok (.invokespecial ic, 3)) (d7 : decode cc (pc + 7) = .ok (.athrow, 1)) (he : Sum.inr E = oc) (hh : h = h') (hD : 6 ≤ D1) (hW : (st.map fun v => v.category).sum ≤ 8) (hk : k + 1 ≤ K1) :
    V p l e D1 K1 s m args below meth c (vx_MQ below (QX KD n g oc h') (XX KD n g oc h') args s K1 (6 * K1) (WA n g)) KD n g B nL k h pc lv st := by
  subst he; subst hh
  intro ls H locs hl hw hs
  obtain ⟨w1, w2, w3, w4, w5, w6⟩ := w
  refine vx_throw0 F.1 F.2.1 hT (names := ["java/lang/RuntimeException", "java/lang/Exception"]) (A := AW n g s.heap.size) F.2.2.2.1 w5 (by decide +kernel) (F.w w1) (F.w w2) (vx_hat (fun w hw => F.w (w3 w hw)) w4 (fun w hw => va_Nw.use (by
      simp only [CW, List.mem_cons, List.not_mem_nil, or_false] at hw
      rcases hw with rfl | rfl | rfl | rfl | rfl <;> rfl) (F.2.2.2.2.2.1.2.2.2.2.1 w hw))) w6 F.2.2.2.2.2.2.1.2.2.1 F.2.2.2.2.2.2.1.2.2.2.1 hs.S (by rw [hl.1]; exact F.2.2.1.symm) d0 d3 d4 d7 (fun x hx => (hex x hx).elim)
      (by show 2 + 3 < D1; omega) (by show _ + (13 * 3 + 42) ≤ 200 * D1; omega) (by show k + 1 ≤ K1; omega) (by show 6 * k + 6 ≤ 6 * K1; omega) F.2.2.2.2.2.2.2.2 ?_ hs.2.2 hk (by omega)
  intro t hvm hz hq
  refine ⟨rfl, hw.kept (fun i hi => hq _ ?_), ?_, fun q h1 h2 => ?_⟩
  · by_cases h9 : (KD i).1 < 20
    · obtain ⟨cell, q1, -⟩ := (hw.1 i hi).1 h9
      exact (Array.getElem?_eq_some_iff.mp q1).1
    · exact (Array.getElem?_eq_some_iff.mp ((hw.1 i hi).2 (by omega))).1
  · exact Nat.le_trans hs.1 hz
  · rw [hq q (Nat.lt_of_lt_of_le h1 hs.1)]
    exact hs.2.1 q h1 h2
theorem CLK.callBx (F : Fx p s m args meth c cc nL own n g B) {idx : Nat} {y : MethodName} {bytes : ByteArray} {maxL : Nat} {ret : Option FieldType} {na d K : Nat} (cl : CLK own idx y bytes maxL ret na) (hd : d + 1 ≤ D1) :
    CallB (RM D1 K1) s args own idx y bytes maxL ret (Cond.code y bytes maxL ret :: TBG) (RM d K) K (6 * K) na := by
  obtain ⟨c1, c2, c3, c4, c5, c6, c7⟩ := cl
  exact callB_of na F.2.2.2.2.1 (goodT c3) rfl rfl rfl (F.w c2) (F.w c1) ⟨c5, c6, c7⟩ ⟨hd, by show 8 + (maxL + 11) + 200 * d ≤ 200 * D1; omega⟩
theorem v_afterX {ov : Option Value} {h' : ST} {av : Array Value} {K : Nat} {H : Heap} {locs : List Loc} {ls : Array Slot} {st0 : List Value}
    (hr : vx_Run p l e (RM D1 K1) s m args below meth c H locs k (6 * k) K (6 * K) (F0 m pc ls st0) st (QX KD n g (.inl ov) h' av) (XX KD n g (.inl ov) h') (WA n g)) (hl : lv_has ls nL lv) (hs : SV n g B s.heap H locs)
    (kk : V p l e D1 K1 s m args below meth c Q KD n g B nL (k + K) h' (pc + 3) lv (ov.toList ++ st)) : W p l e (RM D1 K1) s m args below meth c H locs k (6 * k) Q (F0 m pc ls st0) := by
  intro T hT X
  rcases hr T hT X with ⟨v, st₀, t, T', L, h0, X', hL, e1, e2, ⟨ho, hw, hz, hk⟩, stp⟩ | ⟨q, st₀, t, T', L, E, ce, h0, X', hL, e1, e2, hx, -⟩
  · cases ho
    rw [h0] at hz hk
    obtain ⟨t2, a1, b1⟩ := kk ls T'.heap (locs ++ L) hl (by rw [e1]; exact hw) ⟨Nat.le_trans hs.1 (by rw [e1]; exact hz), fun q h1 h2 => by rw [e1, hk q (Nat.lt_of_lt_of_le h1 hs.1) h2]; exact hs.2.1 q h1 h2, fun q hq => by
        rcases List.mem_append.mp hq with h9 | h9
        · exact hs.2.2 q h9
        · exact hL q h9⟩ T' rfl (by rw [Nat.mul_add]; exact X')
    exact ⟨t2, stp t2 a1, b1⟩
  · exact absurd hx (fun h => h)
theorem v_outX {E : String} {h' : ST} {av : Array Value} {K : Nat} {H : Heap} {locs : List Loc} {ls : Array Slot} {st0 : List Value} {oc : Option Value ⊕ String} (he : Sum.inr E = oc) (F : Fx p s m args meth c cc nL own n g B) (hex : ∀ x ∈ c.exceptionTable.toList, False) (hk1 : k + K ≤ K1)
    (hr : vx_Run p l e (RM D1 K1) s m args below meth c H locs k (6 * k) K (6 * K) (F0 m pc ls st0) st (QX KD n g (.inr E) h' av) (XX KD n g (.inr E) h') (WA n g)) (hs : SV n g B s.heap H locs) :
    W p l e (RM D1 K1) s m args below meth c H locs k (6 * k) (vx_MQ below (QX KD n g oc h') (XX KD n g oc h') args s K1 (6 * K1) (WA n g)) (F0 m pc ls st0) := by
  subst he
  intro T hT X
  rcases hr T hT X with ⟨v, st₀, t, T', L, h0, X', hL, e1, e2, hx, -⟩ | ⟨q, st₀, t, T', L, E', ce, h0, X', hL, e1, e2, ⟨hE, hw, hz, hk⟩, hce, hcv, hcl, stp⟩
  · exact absurd hx (fun h => h)
  · subst hE
    rw [h0] at hz hk
    obtain ⟨t2, a1, b1⟩ := vx_out (l := l) (Qc := QX KD n g (.inr E') h') (XC := XX KD n g (.inr E') h') (free := WA n g) (mc := K1) (ms := 6 * K1) (H := T'.heap) (pc := pc) (ls := ls) (rest := st) (fun x hx => (hex x hx).elim) F.2.2.2.2.2.2.2.2 (E := E') (ce := ce) (q := q) (by rw [e1]; exact hce) hcv hcl
      (fun u hu _ => ⟨rfl, by rw [hu, e1]; exact hw, by rw [hu, e1]; exact Nat.le_trans hs.1 hz, fun q h1 h2 => by rw [hu, e1, hk q (Nat.lt_of_lt_of_le h1 hs.1) h2]; exact hs.2.1 q h1 h2⟩)
      (fun z hz9 => by
        rcases List.mem_append.mp hz9 with h9 | h9
        · exact hs.2.2 z h9
        · exact hL z h9) (by omega) (by omega) T' rfl X'
    exact ⟨t2, stp.trans a1, b1⟩
theorem cell_of (F : Fx p s m args meth c cc nL own n g B) {o ci : Nat} {y : MethodName} {H : Heap} (hw : WO KD n g zT h H) (ho : o < n) (hk : KD o = (ci, 0)) (hc : (vwCl[ci]?).map (fun q => q.1) = some y.cls ∧ ci < 20) : ∃ cellB : Cell, H[gA g o]? = some cellB ∧ cellB.vm.isStatics = false ∧ s.vm.findClass y.cls = some cellB.cls := by
  obtain ⟨hc, hci⟩ := hc
  have hk : (KD o).1 = ci := by rw [hk]
  obtain ⟨cell, h1, h2, h3, -⟩ := (hw.1 o ho).1 (by rw [hk]; exact hci)
  cases hq : vwCl[ci]? with
  | none => rw [hq] at hc; cases hc
  | some q =>
    rw [hq] at hc
    have h9 : q.1 = y.cls := Option.some.inj hc
    refine ⟨cell, h1, by rw [h3]; rfl, ?_⟩
    rw [h2, hk, ← h9]
    exact (F.2.2.2.2.2.1.1 ci q hq).2.1
/-- a call of a method that may throw, and doesn't -/
theorem v_xcallV (F : Fx p s m args meth c cc nL own n g B) {idx o ci : Nat} {y : MethodName} {bytes : ByteArray} {maxL : Nat} {ret : Option FieldType} {na d K : Nat} {As : List Value} {h' : ST} {st0 : List Value} (cl : CLV own idx y bytes maxL ret na) (hdg : decode cc pc = .ok (.invokevirtual idx, 3)) (hM : XT l y bytes maxL ret d K KD n g B (.ref (gA g o) :: As) h (.inl none) h') (ho : o < n) (hk : KD o = (ci, 0)) (hc : (vwCl[ci]?).map (fun q => q.1) = some y.cls ∧ ci < 20) (hn : As.length = na) (hst : st0 = As.reverse ++ .ref (gA g o) :: st) (hW : (st.map fun v => v.category).sum ≤ 8) (hd : d + 1 ≤ D1) (hkk : k + K ≤ K1)
    (kk : V p l e D1 K1 s m args below meth c Q KD n g B nL (k + K) h' (pc + 3) lv st) : V p l e D1 K1 s m args below meth c Q KD n g B nL k h pc lv st0 := by
  intro ls H locs hl hw hs
  exact v_afterX (vx_runV (As := As) (rest := st) (C := y.cls) ⟨F.1, F.2.1, F.2.2.1, F.2.2.2.1, F.2.2.2.2.1⟩ hM ⟨cl.1.callBx F hd, F.w cl.2.1, F.w cl.2.2⟩ ⟨PC.blind, cell_of F hw ho hk hc, F.pre hw hs _⟩ rfl hn hl.1 hst (by show 2 * 0 + _ ≤ 8; omega) hdg ⟨hkk, by show 6 * k + 6 * K ≤ 6 * K1; omega⟩) hl hs kk
/-- .. and does: so does the caller -/
theorem v_xcallX (F : Fx p s m args meth c cc nL own n g B) {idx o ci : Nat} {y : MethodName} {bytes : ByteArray} {maxL : Nat} {ret : Option FieldType} {na d K : Nat} {As : List Value} {h' : ST} {st0 : List Value} {E : String} {oc : Option Value ⊕ String} (cl : CLV own idx y bytes maxL ret na) (hdg : decode cc pc = .ok (.invokevirtual idx, 3)) (hM : XT l y bytes maxL ret d K KD n g B (.ref (gA g o) :: As) h (.inr E) h') (ho : o < n) (hk : KD o = (ci, 0)) (hc : (vwCl[ci]?).map (fun q => q.1) = some y.cls ∧ ci < 20) (hn : As.length = na) (hst : st0 = As.reverse ++ .ref (gA g o) :: st) (hW : (st.map fun v => v.category).sum ≤ 8) (hd : d + 1 ≤ D1) (hkk : k + K ≤ K1) (hex : ∀ x ∈ c.exceptionTable.toList, False) (he : Sum.inr E = oc) {h2 : ST} (hh : h' = h2) :
    V p l e D1 K1 s m args below meth c (vx_MQ below (QX KD n g oc h2) (XX KD n g oc h2) args s K1 (6 * K1) (WA n g)) KD n g B nL k h pc lv st0 := by
  subst hh
  intro ls H locs hl hw hs
  exact v_outX he F hex hkk (vx_runV (As := As) (rest := st) (C := y.cls) ⟨F.1, F.2.1, F.2.2.1, F.2.2.2.1, F.2.2.2.2.1⟩ hM ⟨cl.1.callBx F hd, F.w cl.2.1, F.w cl.2.2⟩ ⟨PC.blind, cell_of F hw ho hk hc, F.pre hw hs _⟩ rfl hn hl.1 hst (by show 2 * 0 + _ ≤ 8; omega) hdg ⟨hkk, by show 6 * k + 6 * K ≤ 6 * K1; omega⟩) hs
/-- the same of static ones -/
theorem v_xcallS (F : Fx p s m args meth c cc nL own n g B) {idx : Nat} {y : MethodName} {bytes : ByteArray} {maxL : Nat} {ret : Option FieldType} {na d K : Nat} {As : List Value} {h' : ST} {st0 : List Value} (cl : CLS own idx y bytes maxL ret na) (hdg : decode cc pc = .ok (.invokestatic idx, 3)) (hM : XT l y bytes maxL ret d K KD n g B As h (.inl none) h') (hn : As.length = na) (hst : st0 = As.reverse ++ st) (hW : (st.map fun v => v.category).sum ≤ 8) (hd : d + 1 ≤ D1) (hkk : k + K ≤ K1)
    (kk : V p l e D1 K1 s m args below meth c Q KD n g B nL (k + K) h' (pc + 3) lv st) : V p l e D1 K1 s m args below meth c Q KD n g B nL k h pc lv st0 := by
  intro ls H locs hl hw hs
  exact v_afterX (vx_runS (As := As) (rest := st) ⟨F.1, F.2.1, F.2.2.1, F.2.2.2.1, F.2.2.2.2.1⟩ hM ⟨cl.1.callBx F hd, F.w cl.2⟩ ⟨PC.blind, F.pre hw hs _⟩ rfl hn hl.1 hst (by show 2 * 0 + _ ≤ 8; omega) hdg ⟨hkk, by show 6 * k + 6 * K ≤ 6 * K1; omega⟩) hl hs kk
theorem v_xcallSX (F : Fx p s m args meth c cc nL own n g B) {idx : Nat} {y : MethodName} {bytes : ByteArray} {maxL : Nat} {ret : Option FieldType} {na d K : Nat} {As : List Value} {h' : ST} {st0 : List Value} {E : String} {oc : Option Value ⊕ String} (cl : CLS own idx y bytes maxL ret na) (hdg : decode cc pc = .ok (.invokestatic idx, 3)) (hM : XT l y bytes maxL ret d K KD n g B As h (.inr E) h') (hn : As.length = na) (hst : st0 = As.reverse ++ st) (hW : (st.map fun v => v.category).sum ≤ 8) (hd : d + 1 ≤ D1) (hkk : k + K ≤ K1) (hex : ∀ x ∈ c.exceptionTable.toList, False) (he : Sum.inr E = oc) {h2 : ST} (hh : h' = h2) :
    V p l e D1 K1 s m args below meth c (vx_MQ below (QX KD n g oc h2) (XX KD n g oc h2) args s K1 (6 * K1) (WA n g)) KD n g B nL k h pc lv st0 := by
  subst hh
  intro ls H locs hl hw hs
  exact v_outX he F hex hkk (vx_runS (As := As) (rest := st) ⟨F.1, F.2.1, F.2.2.1, F.2.2.2.1, F.2.2.2.2.1⟩ hM ⟨cl.1.callBx F hd, F.w cl.2⟩ ⟨PC.blind, F.pre hw hs _⟩ rfl hn hl.1 hst (by show 2 * 0 + _ ≤ 8; omega) hdg ⟨hkk, by show 6 * k + 6 * K ≤ 6 * K1; omega⟩) hs
end VX
theorem xw_IA : XW "DustParish" 83 85 xIA := ⟨tw_567, tw_16, by decide +kernel, by decide +kernel, by decide +kernel, by decide +kernel⟩
theorem xw_NS : XW "DustParish" 159 161 xNS := ⟨tw_939, tw_25, by decide +kernel, by decide +kernel, by decide +kernel, by decide +kernel⟩
