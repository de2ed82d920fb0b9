def R_law : String := "DustParishLaw"
def lw_P (b : Addr) (xs : List Int32) (args : Array Value) (s : State) : Prop := args = #[.ref b] ∧ s.IntsAt b xs ∧ xs.length ≤ 3072 ∧ (Jvm.Cond.and given_1 narrow_1).before args s = true
def lw_Q (_ : Array Value) (s : State) (o : Outcome) (t : State) : Prop := o = .returned (some (.int 1)) ∧ Framed s o t [] 601024 7293034
def lw_Z (below : List Frame) (a : Array Value) (s : State) : State → Prop := fun t => ∃ o, t.status = .running ∧ Ended t below o ∧ lw_Q a s o t
/-- the law's own end, with 1 on the stack, nothing written that was there before, its room as the claim has it -/
theorem lw_ret {p : Program} {l : Launch} {e : Env} {s : State} {m : MethodId} {below : List Frame} {meth : Method} {c : Code} {b : Nat} (hx : p.tables.exec = Jvm.exec) (hb : c.code = code) (hr : meth.sig.returnType = ret) (hlocks : meth.locks = false) {pc : Nat} {H : Heap} {ls : Array Slot} (hdg : decode code pc = .ok (.ireturn, 1)) : W p l e room_1 s m #[Value.ref b] below meth c H [] 601024 7293034 (lw_Z below #[Value.ref b] s) (F0 m pc ls [.int 1]) := by
  intro T hT X
  obtain ⟨fs, hret, hrun, hended, hW, hframe⟩ := X.leave (v := some (.int 1)) (hlocks := hlocks) (fun h => by rw [hr] at h; cases h)
  have hmeth' : T.vm.method? m = some meth := X.method'
  refine ⟨T.setFrames fs, ?_, .returned (some (.int 1)), hrun, hended, rfl, ⟨_, rfl⟩, hW, hframe⟩
  jvm_step X.here [X.here.top, hx, hb, hdg, hmeth', hr, ret, narrow_b1]
  (try refine ⟨rfl, ?_⟩); (try refine ⟨rfl, ?_⟩)
  first | (intro acts; rw [hret _ acts rfl rfl rfl]) | rw [hret _ _ rfl rfl rfl]
  exact Steps.refl _
/-- what holds at the law's entry: the machine, the code, the tables' words (any of lw_tbl by 'hts w (by decide +kernel)'), the script of L ints xs at the cell b, what the Statement gives of the start (any of its parts by flat_of_before) -/
def lw_At (p : Program) (s : State) (m : MethodId) (meth : Method) (c : Code) (b L : Nat) (xs : Nat → Int32) : Prop :=
  p.tables.exec = Jvm.exec ∧ c.code = code ∧ meth.sig.returnType = ret ∧ c.maxLocals = 7 ∧ s.vm.findClass R_law = some m.cls ∧ (∀ w ∈ lw_tbl, w.before #[Value.ref b] s = true) ∧ va_X b L xs s s.heap ∧ b < s.heap.size ∧ meth.locks = false ∧ (Jvm.Cond.and given_1 narrow_1).before #[Value.ref b] s = true
theorem zf0 : zf zT 0 = zT := by funext i k; unfold zf; split <;> rfl
set_option maxHeartbeats 4000000 in
set_option maxRecDepth 100000 in
theorem whole_start {p : Program} {e : Env} {s : State} {m : MethodId} {below : List Frame} {meth : Method} {c : Code} (l : Launch) (hT : l.stackTraces = false) (Inv : Nat → ST → ST → Prop) (hI0 : Inv 0 hc0 hm0) (hstep : ∀ n hc hm k a1 a2 a3 a4 a5, n < 512 → Inv n hc hm → ∃ y, lawStep k hc hm a1 a2 a3 a4 a5 = some y ∧ Inv (n + 1) y.1 y.2) {b L : Nat} {xs : Nat → Int32} (hL : L ≤ 3072) (C0 : lw_At p s m meth c b L xs) : W p l e room_1 s m #[Value.ref b] below meth c s.heap [] 0 0 (lw_Z below #[Value.ref b] s) (entryFrame m ([Value.ref b] : List Value).toArray 7) := by
  obtain ⟨hx, hb, hr, hml, hown, hts, hX, hbl, hlocks, hgv⟩ := id C0
  have hs := flat_of_before _ hgv
  obtain ⟨dC, dI, dR, dK, dV, hW⟩ := law_world hts hs
  obtain ⟨ao1, ao2⟩ := ao_state hts
  have hg : ∀ w ∈ TBG, w.before #[Value.ref b] s = true := fun w hw => hts w (TBG_sub hw)
  have hl := lv_entry ([.ref b]) (n := 7) (Nat.le_of_ble_eq_true rfl)
  rw [lg_entry_eq]
  generalize (lg_sl ([.ref b]) ++ List.replicate (7 - (lg_sl ([.ref b])).length) Slot.unset).toArray = ls at hl ⊢
  have hl : lv_has ls 7 [(0, .ref b)] := hl
  have hgB : ∀ i, gA (dC, dI, dR, (fun i => s.heap.size + i), dK, dV) i = s.heap.size + i := fun _ => rfl
  refine s_new (KD := KC) (g := (dC, dI, dR, (fun i => s.heap.size + i), dK, dV)) (b0 := s.heap.size) (pc := 0) hx hb hown hg (hW _).1 hgB rfl nwk_L_8 dL_law_0 rfl (by decide) (by decide) (fun H1 w1 z1 o1 => ?_)
  refine lv_dup hx hb dL_law_3 rfl ?_
  refine s_ctor (pc := 4) (b0 := s.heap.size) hx hb hml hown hg ci_L_100 rfl dL_law_4 (fun a s o t h => h.1) (kX10_init hc0_ok) hl.1 (Nat.le_of_ble_eq_true rfl) (by decide) (fun U hU hWm => ⟨rfl, by rw [hU]; exact w1, by rw [hU]; exact z1, EV.warm hWm (hW _).1, by rw [hU]; exact EH.moved hWm.alike ((hW _).2.kept (fun a h1 h2 => o1 a h1)), hgB, ao1.moved hWm.alike, ao2.moved hWm.alike⟩) (by decide) (by decide) (fun st1 t1 L1 H2 i1 i2 hq hL1 => ?_)
  obtain ⟨-, w2, z2, o2⟩ := hq
  rw [i2] at w2 z2 o2
  rw [i1] at z2 o2
  have hb1 : s.heap.size + 1 ≤ H2.size := by omega
  refine lv_astore_n (lv' := [(1, .ref s.heap.size), (0, .ref b)]) hx hb dL_law_7 rfl hl (by decide) rfl (fun ls hl => ?_)
  have hgM : ∀ i, gA (dC, dI, dR, (fun i => H2.size + i), dK, dV) i = H2.size + i := fun _ => rfl
  have oo2 : ∀ q : Nat, q < s.heap.size → H2[q]? = s.heap[q]? := fun q h => (o2 q h).trans (o1 q h)
  refine s_new (KD := KM) (g := (dC, dI, dR, (fun i => H2.size + i), dK, dV)) (b0 := H2.size) (pc := 8) hx hb hown hg (hW _).1 hgM rfl nwk_L_101 dL_law_8 rfl (by decide) (by decide) (fun H3 w3 z3 o3 => ?_)
  refine lv_dup hx hb dL_law_11 rfl ?_
  refine s_ctor (pc := 12) (b0 := H2.size) hx hb hml hown hg ci_L_103 rfl dL_law_12 (fun a s o t h => h.1) (kX11_init hm0_ok) hl.1 (Nat.le_of_ble_eq_true rfl) (by decide) (fun U hU hWm => ⟨rfl, by rw [hU]; exact w3, by rw [hU]; exact z3, EV.warm hWm (hW _).1, by rw [hU]; exact EH.moved hWm.alike (((hW _).2.kept (H1 := H3) (fun a h1 h2 => by rw [o3 a (by omega)]; exact oo2 a h1)).narrow (fun q hq => by show s.heap.size ≤ q; have hq : H2.size ≤ q := hq; omega)), hgM, ao1.moved hWm.alike, ao2.moved hWm.alike⟩) (by decide) (by decide) (fun st2 t2 L2 H4 i3 i4 hq hL2 => ?_)
  obtain ⟨-, w4, z4, o4⟩ := hq
  rw [i4] at w4 z4 o4
  rw [i3] at o4
  rw [zf0] at w4
  refine lv_astore_n (lv' := [(2, .ref H2.size), (1, .ref s.heap.size), (0, .ref b)]) hx hb dL_law_15 rfl hl (by decide) rfl (fun ls hl => ?_)
  refine lv_iconst (v := 1) hx hb dL_law_16 ic_1 ?_
  refine va_newaK (atype := .long) hx hb (hg _ tw_1912) rfl dL_law_17 rfl (by decide) (N := 1) (by decide) (by decide) (by decide) (by decide) z4 fun H5 cA e5 z5 o5 hAr hNm => ?_
  have hRA : s.vm.findClass ("[" ++ (FieldType.long).toString) = some (dR 22) := ((hW (fun _ => 0)).1.2.1 22 (by decide) (by decide)).2
  have hcA : cA = dR 22 := Option.some.inj (hNm.symm.trans hRA)
  subst hcA
  refine lv_astore_n (lv' := [(3, .ref (H2.size + 43)), (2, .ref H2.size), (1, .ref s.heap.size), (0, .ref b)]) hx hb dL_law_19 rfl hl (by decide) rfl (fun ls hl => ?_)
  refine lv_iconst (v := 0) hx hb dL_law_20 ic_0 ?_
  refine lv_istore (lv' := [(4, .int 0), (3, .ref (H2.size + 43)), (2, .ref H2.size), (1, .ref s.heap.size), (0, .ref b)]) hx hb dL_law_21 hl (by decide) rfl (fun ls hl => ?_)
  have hA9 : ∀ i, i ≠ 395 → (fun i => if i = 395 then H2.size + 43 else s.heap.size + i) i = (fun i => s.heap.size + i) i := fun i h => if_neg h
  have hlt : ∀ i, i < 395 → s.heap.size + i < H2.size := fun i hi => wo_lt w2 hi
  have k24 : ∀ q : Nat, q < H2.size → H4[q]? = H2[q]? := fun q h => (o4 q (by omega)).trans (o3 q h)
  have w5 : WO KW 396 (dC, dI, dR, (fun i => if i = 395 then H2.size + 43 else s.heap.size + i), dK, dV) zT hc0 H5 := by
    refine WO_remap (dA := fun i => s.heap.size + i) hA9 (fun i hi k hk h9 => ?_) (w2.kept (fun i hi => ?_)) ?_ (fun i hi => ?_)
    · obtain ⟨r1, r2, r3, r4⟩ := hc0_refs
      rcases (ft_1 i hi k hk).resolve_left (fun h => h h9) with ⟨rfl, rfl⟩ | ⟨rfl, rfl⟩ | ⟨rfl, rfl⟩ | ⟨rfl, rfl⟩ <;> omega
    · have := hlt i hi
      exact (o5 _ (by show s.heap.size + i < _; omega)).trans (k24 _ this)
    · show H5[if (395 : Nat) = 395 then H2.size + 43 else s.heap.size + 395]? = _
      rw [if_pos rfl, e5]
      refine congrArg some (arrV_congr (fun j hj => ?_))
      rw [show j = 0 by omega, hc0_out]
      rfl
    · have := hlt i hi
      show s.heap.size + i ≠ if (395 : Nat) = 395 then H2.size + 43 else s.heap.size + 395
      rw [if_pos rfl]; omega
  have w6 : WO KM 43 (dC, dI, dR, (fun i => H2.size + i), dK, dV) zT hm0 H5 := w4.kept (fun i hi => o5 _ (by show H2.size + i < _; omega))
  have F : FL p s m #[Value.ref b] meth c (dC, dI, dR, (fun i => if i = 395 then H2.size + 43 else s.heap.size + i), dK, dV) (dC, dI, dR, (fun i => H2.size + i), dK, dV) b L xs := ⟨hx, hb, hml, hown, hg, (hW _).1, (hW _).1, (hW _).2, (hW _).2, hlocks, hX, hbl, hL⟩
  have hPL : PL (dC, dI, dR, (fun i => if i = 395 then H2.size + 43 else s.heap.size + i), dK, dV) (dC, dI, dR, (fun i => H2.size + i), dK, dV) s hc0 hm0 H5 (([] ++ L1) ++ L2) := by
    refine ⟨w5, w6, fun i j hi hj => ?_, fun i hi => ?_, fun j hj => ?_, by omega, fun q hq => ?_, fun q hq => ?_⟩
    · show (if i = 395 then H2.size + 43 else s.heap.size + i) ≠ H2.size + j
      by_cases h9 : i = 395
      · rw [if_pos h9]; omega
      · rw [if_neg h9]; have := hlt i (by omega); omega
    · show s.heap.size ≤ (if i = 395 then H2.size + 43 else s.heap.size + i)
      by_cases h9 : i = 395
      · rw [if_pos h9]; omega
      · rw [if_neg h9]; omega
    · show s.heap.size ≤ H2.size + j; omega
    · rw [o5 q (by omega), k24 q (by omega)]; exact oo2 q hq
    · rcases List.mem_append.mp hq with h9 | h9
      · exact hL1 q (by simpa using h9)
      · have := hL2 q h9; omega
  have hlp := law_loop (p := p) (e := e) (below := below) (Q := lw_Z below #[Value.ref b] s) hT F Inv hstep (fun cells slots hc hm i h1 h2 ls H locs hl hp => by
    refine lv_iconst (v := 1) hx hb dL_law_2256 ic_1 ?_
    exact va_forget hp.2.2.2.2.2.2.2 (W.widen h1 h2 (lw_ret hx hb hr hlocks dL_law_2257))) L 0 hc0 hm0 (by omega) hI0
  refine W.widen (by decide) (by decide) (hlp ls H5 _ ?_ hPL)
  exact lv_sub hl [4, 3, 2, 1, 0] rfl
set_option maxHeartbeats 4000000 in
theorem lw_walk (l : Launch) (hT : l.stackTraces = false) (Inv : Nat → ST → ST → Prop) (hI0 : Inv 0 hc0 hm0) (hstep : ∀ n hc hm k a1 a2 a3 a4 a5, n < 512 → Inv n hc hm → ∃ y, lawStep k hc hm a1 a2 a3 a4 a5 = some y ∧ Inv (n + 1) y.1 y.2) (b : Addr) (xs : List Int32) : MetFree l x (headSpec (Jvm.Cond.code x code maxLocals ret :: tables_1) room_1) (lw_P b xs) (fun _ _ _ _ _ => True) lw_Q := by
  refine MetFree.of_bodyS (code := code) (maxLocals := maxLocals) (ret := ret) (by decide) ?_ ?_
  · intro args s m h hn
    obtain ⟨meth, c, h1, h2, h3, h4, h5, h6, -, -⟩ := Cond.code_spec hn (atoms_spec (ws := Jvm.Cond.code x code maxLocals ret :: tables_1) h _ List.mem_cons_self)
    exact ⟨meth, c, h1, h2, h3, h4, h5, h6⟩
  · intro p e s m args below meth c s₁ B hml0 hP _
    obtain ⟨rfl, hx, hbd, hgv⟩ := hP
    obtain ⟨scr, harrAt, hlist, hof, hsmall⟩ := hx
    obtain ⟨hcb, hkn, -, -⟩ := State.arrayAt?_spec harrAt
    have hown : s.vm.findClass R_law = some m.cls := findClass_of_methodNamed B.named
    have hts0 : ∀ c ∈ (Jvm.Cond.code x code maxLocals ret :: tables_1), c.before #[Value.ref b] s = true := atoms_spec (ws := Jvm.Cond.code x code maxLocals ret :: tables_1) B.pre
    have hts : ∀ w ∈ lw_tbl, w.before #[Value.ref b] s = true := k2_hts_sels lw_privs (fun w hw => hts0 w (List.mem_cons_of_mem _ hw)) lw_privs_ok
    have hml : c.maxLocals = 7 := B.maxLocals_eq (hts0 _ List.mem_cons_self)
    have X₀ : Stand p l e room_1 s m #[Value.ref b] below meth c s₁ [] 0 0 := Stand.of_body B
    have hh0 : s₁.heap = s.heap := by rw [B.state]; rfl
    have hsz : scr.slots.size = xs.length := by rw [← Array.length_toList, hlist, List.length_map]
    have hval : ∀ j : Nat, j < xs.length → scr.slots[j]? = some (.int (xs.getD j 0)) := fun j hj => by
      rw [← Array.getElem?_toList, hlist]
      simp [hj]
    have hbl : b < s.heap.size := (Array.getElem?_eq_some_iff.mp hcb).1
    have hX : va_X b xs.length (fun j => xs.getD j 0) s s.heap := ⟨scr, hcb, hof, hkn, hsz, hval⟩
    have K : W p l e room_1 s m #[Value.ref b] below meth c s₁.heap [] 0 0 (lw_Z below #[Value.ref b] s) (entryFrame m ([Value.ref b] : List Value).toArray 7) := by
      rw [hh0]
      exact whole_start l hT Inv hI0 hstep hbd ⟨B.exec, B.bytes, B.returns, hml, hown, hts, hX, hbl, B.notSynchronized, hgv⟩
    obtain ⟨t, a1, o, b1, b2, b3⟩ := K s₁ rfl X₀
    exact ⟨t, o, a1, b1, b2, b3⟩
theorem lw_pre_spec {args : Array Value} {s : State} (h : (Jvm.Cond.and given_1 narrow_1).before args s = true) (hr : rest_1_c.before args s = true) : ∃ (b : Addr) (xs : List Int32), lw_P b xs args s := by
  have hs := flat_of_before _ h
  have hq := flat_of_before _ hr
  have hc : (Cond.count 1).before args s = true := hs _ (by decide +kernel)
  have harr : (Cond.arrayOf (.arg 0) .int).before args s = true := hs _ (by decide +kernel)
  have hle : (Cond.le (.length (.arg 0)) (.int 3072)).before args s = true := hs _ (by decide +kernel)
  have hlen : (Cond.isInt (.length (.arg 0))).before args s = true := hq _ (by decide +kernel)
  have hall : (Cond.all (.arg 0) (.isInt (.elem (.arg 0) (.index 0)))).before args s = true := hq _ (by decide +kernel)
  obtain ⟨b, xs, hb, hx⟩ := State.ints_of_pre rfl harr hlen hall
  have hsm : xs.length < 2 ^ 31 := hx.choose_spec.2.2.2
  have hev : (Term.length (.arg 0)).eval args s none [] s = some (.int xs.length.toInt32) := hx.length_eval hb
  have hv := Cond.le_ints hev (show (Term.int 3072).eval args s none [] s = some (.int 3072) from rfl)
  have hd : xs.length.toInt32 ≤ 3072 := by
    simpa [Cond.before, Cond.holds, hv] using hle
  have hN : xs.length ≤ 3072 := (Int32.ofNat_le_ofNat hsm (by decide)).mp (show Int32.ofNat xs.length ≤ Int32.ofNat 3072 from hd)
  exact ⟨b, xs, Cond.one_arg hc (show args[0]? = some (.ref b) from hb), hx, hN, h⟩
theorem lw_comes (l : Launch) (hT : l.stackTraces = false) (Inv : Nat → ST → ST → Prop) (hI0 : Inv 0 hc0 hm0) (hstep : ∀ n hc hm k a1 a2 a3 a4 a5, n < 512 → Inv n hc hm → ∃ y, lawStep k hc hm a1 a2 a3 a4 a5 = some y ∧ Inv (n + 1) y.1 y.2) : Comes l x (Jvm.Cond.code x code maxLocals ret :: tables_1) room_1 (fun tb e args s => Calls_1 tb e args s ∧ rest_1 tb e args s ∧ Pre_1 tb e args s)
    (fun _ _ args s o t => lw_Q args s o t) := by
  intro p e ha hc hk s m args below hf hfit hheap happ hpre
  obtain ⟨b, xs, hP⟩ := lw_pre_spec hpre.2.2 hpre.2.1
  obtain ⟨k, o, h1, h2, h3, hQ⟩ := lw_walk l hT Inv hI0 hstep b xs p e ha hc hk s m args below hf ((Spec.applies_iff_loose hf).mp happ).1 hP trivial
  exact ⟨k, o, h1, h2, h3, hQ⟩
theorem lw_frame {s t : State} {o : Outcome} {args : Array Value} (h : Framed s o t [] 601024 7293034) :
    Framed s o t (fieldLocs frame_1_writes args s ++ arrayLocs frame_1_arrays args s ++ staticLocs frame_1_statics s) 601024 7293034 := h
theorem lw_limb (Inv : Nat → ST → ST → Prop) (hI0 : Inv 0 hc0 hm0) (hstep : ∀ n hc hm k a1 a2 a3 a4 a5, n < 512 → Inv n hc hm → ∃ y, lawStep k hc hm a1 a2 a3 a4 a5 = some y ∧ Inv (n + 1) y.1 y.2) (L : Cond) (hL : ∀ (args : Array Value) (s t : State), L.after args s (.returned (some (.int 1))) t = true) :
    ArmFor flags0 classFile x code maxLocals ret World_1 tables_1 room_1 Calls_1 rest_1 Pre_1
      (fun tb e a s o t => postC L tb e a s o t ∧ Framed s o t (fieldLocs frame_1_writes a s ++ arrayLocs frame_1_arrays a s ++ staticLocs frame_1_statics s) 601024 7293034) := by
  intro l hfl _ _ p e ha hc hk s m args below hf hfit hheap happ hpre
  obtain ⟨k, o, h1, h2, h3, rfl, hF⟩ := lw_comes l (by unfold Launch.stackTraces; rw [hfl]; decide +kernel) Inv hI0 hstep p e ha hc hk s m args below hf hfit hheap happ hpre
  exact ⟨k, _, h1, h2, h3, hL args s _, lw_frame hF⟩
theorem i_vc_of (Inv : Nat → ST → ST → Prop) (hI0 : Inv 0 hc0 hm0) (hstep : ∀ n hc hm k a1 a2 a3 a4 a5, n < 512 → Inv n hc hm → ∃ y, lawStep k hc hm a1 a2 a3 a4 a5 = some y ∧ Inv (n + 1) y.1 y.2) : Claimed_1_1 ∧ Claimed_1_2 := ⟨lw_limb Inv hI0 hstep limb_1_1 (fun args s t => by simp [limb_1_1, Cond.after, Cond.holds, Cond.value]), lw_limb Inv hI0 hstep limb_1_2 (fun args s t => Cond.after_iff.mpr (by
  first | (rw [show limb_1_2 = Cond.eq .result (.int 1) from rfl, Cond.eq_ints (x := 1) (y := 1) rfl rfl]; simp; done) | (simp [limb_1_2, Cond.value, Term.eval]; done)))⟩
