def fX10_wouldBeSo_86 (h : ST) (l3 : Int32) (l4 : Int32) : Option ((ST × Int32) ⊕ (ST ⊕ ST)) :=
  some (.inl (h, l4 + 1))
def fX10_wouldBeSo_41 (l3 : Int32) (s1 : (ST × Int32)) : Option ((ST × Int32) ⊕ (ST ⊕ ST)) :=
  if l3 < s1.2 then
  some (.inr (.inr s1.1))
  else
  bnd (fX7_areSo s1.1 209 s1.2 386) fun r10 =>
    if r10 = 0 then
    some (.inr (.inl s1.1))
    else
    if l3 ≤ s1.2 then
      fX10_wouldBeSo_86 s1.1 l3 s1.2
      else
      bnd (rf KC 395 1 (s1.1 0 3)) fun f14 =>
        bnd (fX1_passMany s1.1 f14 386 1) fun r16 =>
        fX10_wouldBeSo_86 r16 l3 s1.2
def fX10_wouldBeSo (h : ST) (a1 : Int32) (a2 : Int32) : Option (Int32 × ST) :=
  bnd (fX8_copy h 386 43) fun r1 =>
  bnd (rd 9 (r1 387) a1) fun v3 =>
  bnd (wr 9 r1 387 a1 (v3 - a2)) fun h5 =>
  bnd (fX7_lastDay h5 209) fun r7 =>
  bnd (lp FU (fX10_wouldBeSo_41 r7) (h5, 0)) fun x18 =>
  sm x18 (fun v => some (0, v)) (fun v => some (1, v))
set_option maxRecDepth 100000 in
set_option maxHeartbeats 4000000 in
theorem tX10_wouldBeSo_86 {p : Program} {l : Launch} {e : Env} {s : State} {m : MethodId} {args : Array Value} {below : List Frame} {meth : Method} {c : Code} {g : GE} {B : Nat} {h : ST}  {l3 : Int32} {l4 : Int32} (F : Fx p s m args meth c cX10_wouldBeSo 5 "DustParish" 395 g B)
    {Q : State → Prop} {y : (ST × Int32) ⊕ (ST ⊕ ST)} (hk : ∀ v : (ST × Int32), y = Sum.inl v → V p l e 7 0 s m args below meth c Q KC 395 g B 5 0 v.1 41 [(0, .ref (gA g 0)), (3, .int l3), (4, .int v.2)] []) (hx0 : ∀ v : ST, y = Sum.inr (.inl v) → V p l e 7 0 s m args below meth c Q KC 395 g B 5 0 v 66 [] []) (hx1 : ∀ v : ST, y = Sum.inr (.inr v) → V p l e 7 0 s m args below meth c Q KC 395 g B 5 0 v 92 [] []) (hf : fX10_wouldBeSo_86 h l3 l4 = some y) : V p l e 7 0 s m args below meth c Q KC 395 g B 5 0 h 86 [(0, .ref (gA g 0)), (3, .int l3), (4, .int l4)] [] := by
  unfold fX10_wouldBeSo_86 at hf
  refine v_iinc (pc := 86) (j := 2) (v := l4 + 1) (lv' := [(0, .ref (gA g 0)), (3, .int l3), (4, .int (l4 + 1))]) F dX10_wouldBeSo_86 rfl (congrArg (fun z => l4 + z) ic_1) (by decide) rfl ?_
  refine v_goto (pc := 89) (tgt := 41) F dX10_wouldBeSo_89 (by decide) ?_
  exact hk (h, l4 + 1) (Option.some.inj hf).symm
set_option maxRecDepth 100000 in
set_option maxHeartbeats 4000000 in
theorem tX10_wouldBeSo_41 {p : Program} {l : Launch} {e : Env} {s : State} {m : MethodId} {args : Array Value} {below : List Frame} {meth : Method} {c : Code} {g : GE} {B : Nat}   {l3 : Int32} {Q : State → Prop} {x : (ST ⊕ ST)} {nf : Nat} {s0 : (ST × Int32)} (F : Fx p s m args meth c cX10_wouldBeSo 5 "DustParish" 395 g B) (hX0 : ∀ v : ST, x = (.inl v) → V p l e 7 0 s m args below meth c Q KC 395 g B 5 0 v 66 [] []) (hX1 : ∀ v : ST, x = (.inr v) → V p l e 7 0 s m args below meth c Q KC 395 g B 5 0 v 92 [] []) (hl : lp nf (fX10_wouldBeSo_41 l3) s0 = some x) : V p l e 7 0 s m args below meth c Q KC 395 g B 5 0 s0.1 41 [(0, .ref (gA g 0)), (3, .int l3), (4, .int s0.2)] [] := by
  refine lp_ind (P := fun s0 => V p l e 7 0 s m args below meth c Q KC 395 g B 5 0 s0.1 41 [(0, .ref (gA g 0)), (3, .int l3), (4, .int s0.2)] []) ?_ nf s0 hl
  intro s1 y hf hk hx
  have hx0 : ∀ v : ST, y = Sum.inr (.inl v) → V p l e 7 0 s m args below meth c Q KC 395 g B 5 0 v 66 [] [] := fun v e9 => hX0 v (hx _ e9).symm
  have hx1 : ∀ v : ST, y = Sum.inr (.inr v) → V p l e 7 0 s m args below meth c Q KC 395 g B 5 0 v 92 [] [] := fun v e9 => hX1 v (hx _ e9).symm
  unfold fX10_wouldBeSo_41 at hf
  refine v_iload (pc := 41) (j := 2) F dX10_wouldBeSo_41 rfl ?_
  refine v_iload_n (pc := 43) (j := 1) F dX10_wouldBeSo_43 rfl rfl ?_
  refine v_icmp_gt (pc := 44) (tgt := 92) F dX10_wouldBeSo_44 (by decide) (fun c9 => ?_) (fun c9 => ?_)
  · have hf := ite_t hf c9
    refine V.sub (lv' := []) [] rfl ?_
    exact hx1 s1.1 (Option.some.inj hf).symm
  · have hf := ite_f hf c9
    refine v_aload_n (pc := 47) (j := 0) F dX10_wouldBeSo_47 rfl rfl ?_
    refine v_ifl (pc := 48) F fl_X10_42 dX10_wouldBeSo_48 kc_0.1 kc_0.2 fv_9_6 ?_
    refine v_ifl (pc := 51) F fl_X10_152 dX10_wouldBeSo_51 kc_42.1 kc_42.2 fv_2_2 ?_
    refine v_iload (pc := 54) (j := 2) F dX10_wouldBeSo_54 rfl ?_
    refine v_aload_n (pc := 56) (j := 0) F dX10_wouldBeSo_56 rfl rfl ?_
    refine v_ifl (pc := 57) F fl_X10_56 dX10_wouldBeSo_57 kc_0.1 kc_0.2 fv_9_9 ?_
    obtain ⟨r10, e11, hf⟩ := bnd_some hf
    refine v_callVi (pc := 60) (As := [.int s1.2, .ref (gA g 386)]) F cl_X10_318 dX10_wouldBeSo_60 (kX7_areSo kc_209.1 kc_209.2 kc_386.1 kc_386.2 e11) kc_209.1 kc_209.2 rc_6 rfl rfl (Nat.le_of_ble_eq_true rfl) (by decide) (Nat.zero_le _) ?_
    refine v_if_ne (pc := 63) (tgt := 68) F dX10_wouldBeSo_63 (by decide) (fun c12 => ?_) (fun c12 => ?_)
    · have hf := ite_f hf c12
      refine v_iload (pc := 68) (j := 2) F dX10_wouldBeSo_68 rfl ?_
      refine v_iload_n (pc := 70) (j := 1) F dX10_wouldBeSo_70 rfl rfl ?_
      refine v_icmp_ge (pc := 71) (tgt := 86) F dX10_wouldBeSo_71 (by decide) (fun c13 => ?_) (fun c13 => ?_)
      · have hf := ite_t hf c13
        exact tX10_wouldBeSo_86 F hk hx0 hx1 hf
      · have hf := ite_f hf c13
        refine v_aload_n (pc := 74) (j := 0) F dX10_wouldBeSo_74 rfl rfl ?_
        obtain ⟨f14, e15, hf⟩ := bnd_some hf
        obtain ⟨ho_f14, hk_f14, e15⟩ := rf_in e15
        refine v_ifl (pc := 75) F fl_X10_23 dX10_wouldBeSo_75 kc_0.1 kc_0.2 (fv_9_3 e15) ?_
        refine v_aload_n (pc := 78) (j := 0) F dX10_wouldBeSo_78 rfl rfl ?_
        refine v_ifl (pc := 79) F fl_X10_56 dX10_wouldBeSo_79 kc_0.1 kc_0.2 fv_9_9 ?_
        refine v_iconst (pc := 82) (v := 1) F dX10_wouldBeSo_82 ic_1 ?_
        obtain ⟨r16, e17, hf⟩ := bnd_some hf
        refine v_callSv (pc := 83) (As := [.ref (gA g f14), .ref (gA g 386), .int 1]) F cl_X10_214 dX10_wouldBeSo_83 (kX1_passMany ho_f14 hk_f14 kc_386.1 kc_386.2 e17) rfl rfl (Nat.le_of_ble_eq_true rfl) (by decide) (Nat.zero_le _) ?_
        exact tX10_wouldBeSo_86 F hk hx0 hx1 hf
    · have hf := ite_t hf c12
      refine V.sub (lv' := []) [] rfl ?_
      exact hx0 s1.1 (Option.some.inj hf).symm
set_option maxRecDepth 100000 in
set_option maxHeartbeats 4000000 in
theorem kX10_wouldBeSo {l : Launch} {g : GE} {B : Nat} {h : ST} {a1 : Int32} {a2 : Int32} {y : Int32 × ST} (hf : fX10_wouldBeSo h a1 a2 = some y) : CT l yX10_wouldBeSo cX10_wouldBeSo 5 (some .boolean) 7 KC 395 g B [.ref (gA g 0), .int a1, .int a2] h (some (.int y.1)) y.2 := by
  refine CT.of pn_X10 (Nat.le_of_ble_eq_true rfl) ?_
  intro p e s m below meth c hr F
  have F : Fx p s m _ meth c cX10_wouldBeSo 5 "DustParish" 395 g B := F
  refine V_lv (lv' := [(0, .ref (gA g 0)), (1, .int a1), (2, .int a2)]) rfl ?_
  unfold fX10_wouldBeSo at hf
  refine v_aload_n (pc := 0) (j := 0) F dX10_wouldBeSo_0 rfl rfl ?_
  refine v_ifl (pc := 1) F fl_X10_56 dX10_wouldBeSo_1 kc_0.1 kc_0.2 fv_9_9 ?_
  refine v_aload_n (pc := 4) (j := 0) F dX10_wouldBeSo_4 rfl rfl ?_
  refine v_ifl (pc := 5) F fl_X10_42 dX10_wouldBeSo_5 kc_0.1 kc_0.2 fv_9_6 ?_
  refine v_ifl (pc := 8) F fl_X10_122 dX10_wouldBeSo_8 kc_42.1 kc_42.2 fv_2_0 ?_
  obtain ⟨r1, e2, hf⟩ := bnd_some hf
  refine v_callVv (pc := 11) (As := [.ref (gA g 43)]) F cl_X10_241 dX10_wouldBeSo_11 (kX8_copy kc_386.1 kc_386.2 kc_43.1 kc_43.2 e2) kc_386.1 kc_386.2 rc_7 rfl rfl (Nat.le_of_ble_eq_true rfl) (by decide) (Nat.zero_le _) ?_
  refine v_aload_n (pc := 14) (j := 0) F dX10_wouldBeSo_14 rfl rfl ?_
  refine v_ifl (pc := 15) F fl_X10_56 dX10_wouldBeSo_15 kc_0.1 kc_0.2 fv_9_9 ?_
  refine v_ifl (pc := 18) F fl_X10_171 dX10_wouldBeSo_18 kc_386.1 kc_386.2 fv_7_3 ?_
  refine v_iload_n (pc := 21) (j := 1) F dX10_wouldBeSo_21 rfl rfl ?_
  refine v_dup2_11 (pc := 22) F dX10_wouldBeSo_22 rfl rfl ?_
  obtain ⟨v3, e4, hf⟩ := bnd_some hf
  refine v_iald (pc := 23) F dX10_wouldBeSo_23 kc_387.1 kc_387.2 e4 ?_
  refine v_iload_n (pc := 24) (j := 2) F dX10_wouldBeSo_24 rfl rfl ?_
  refine v_isub (pc := 25) F dX10_wouldBeSo_25 ?_
  obtain ⟨h5, e6, hf⟩ := bnd_some hf
  refine v_iast (pc := 26) F dX10_wouldBeSo_26 kc_387.1 kc_387.2 e6 ?_
  refine v_aload_n (pc := 27) (j := 0) F dX10_wouldBeSo_27 rfl rfl ?_
  refine v_ifl (pc := 28) F fl_X10_42 dX10_wouldBeSo_28 kc_0.1 kc_0.2 fv_9_6 ?_
  refine v_ifl (pc := 31) F fl_X10_152 dX10_wouldBeSo_31 kc_42.1 kc_42.2 fv_2_2 ?_
  obtain ⟨r7, e8, hf⟩ := bnd_some hf
  refine v_callVi (pc := 34) (As := []) F cl_X10_315 dX10_wouldBeSo_34 (kX7_lastDay kc_209.1 kc_209.2 e8) kc_209.1 kc_209.2 rc_6 rfl rfl (Nat.le_of_ble_eq_true rfl) (by decide) (Nat.zero_le _) ?_
  refine v_istore_n (pc := 37) (lv' := [(0, .ref (gA g 0)), (1, .int a1), (2, .int a2), (3, .int r7)]) F dX10_wouldBeSo_37 rfl (by decide) rfl ?_
  refine v_iconst (pc := 38) (v := 0) F dX10_wouldBeSo_38 ic_0 ?_
  refine v_istore (pc := 39) (lv' := [(0, .ref (gA g 0)), (1, .int a1), (2, .int a2), (3, .int r7), (4, .int 0)]) F dX10_wouldBeSo_39 (by decide) rfl ?_
  obtain ⟨x18, e19, hf⟩ := bnd_some hf
  refine V.sub (lv' := [(0, .ref (gA g 0)), (3, .int r7), (4, .int 0)]) [0, 3, 4] rfl ?_
  refine tX10_wouldBeSo_41 (s0 := (h5, 0)) F (fun v e9 => ?_) (fun v e9 => ?_) e19
  · subst e9
    have hf := sm_l hf
    refine v_iconst (pc := 66) (v := 0) F dX10_wouldBeSo_66 ic_0 ?_
    exact v_zret (pc := 67) F hr dX10_wouldBeSo_67 rfl (some_fst hf) (some_snd hf) (Nat.zero_le _)
  · subst e9
    have hf := sm_r hf
    refine v_iconst (pc := 92) (v := 1) F dX10_wouldBeSo_92 ic_1 ?_
    exact v_zret (pc := 93) F hr dX10_wouldBeSo_93 rfl (some_fst hf) (some_snd hf) (Nat.zero_le _)
def fX10_hand_9 (h : ST)  : Option ((Int32 ⊕ Nat) × ST) :=
  some (.inr 1, h)
def fX10_hand_110 (h : ST) (l1 : Int32) (l2 : Int32) (l3 : Int32) (l4 : Int32) (l5 : Int32) : Option ((ST × Int32 × Int32) ⊕ ((ST × Int32) ⊕ (ST × Int32))) :=
  some (.inl (h, l2, l5 + 1))
def fX10_hand_74 (l1 : Int32) (l3 : Int32) (l4 : Int32) (s1 : (ST × Int32 × Int32)) : Option ((ST × Int32 × Int32) ⊕ ((ST × Int32) ⊕ (ST × Int32))) :=
  if l4 < s1.2.2 then
  some (.inr (.inr (s1.1, s1.2.1)))
  else
  bnd (fX10_wouldBeSo s1.1 l3 s1.2.2) fun r10 =>
    if r10.1 = 0 then
    fX10_hand_110 r10.2 l1 s1.2.1 l3 l4 s1.2.2
    else
    if l1 = 1 then
      some (.inr (.inl (r10.2, s1.2.2)))
      else
      fX10_hand_110 r10.2 l1 (s1.2.1 + 1) l3 l4 s1.2.2
def fX10_hand_41 (l1 : Int32) (s1 : (ST × Int32 × Int32)) : Option ((ST × Int32 × Int32) ⊕ ((ST × Int32 × Int32) ⊕ (ST × Int32))) :=
  bnd (rf KC 395 1 (s1.1 0 3)) fun f4 =>
  if (s1.1 f4 0) ≤ s1.2.2 then
  some (.inr (.inr (s1.1, s1.2.1)))
  else
  bnd (rd 9 (s1.1 44) s1.2.2) fun v7 =>
    bnd (lp FU (fX10_hand_74 l1 s1.2.2 (if v7 < 99 then v7 else 99)) (s1.1, s1.2.1, 1)) fun x14 =>
    sm x14 (fun v => some (.inr (.inl (v.1, s1.2.2, v.2)))) (fun v => some (.inl (v.1, v.2, s1.2.2 + 1)))
def fX10_hand_131 (h : ST) (q0 : Int32) : Option ((Int32 ⊕ Nat) × ST) :=
  some (.inl q0, h)
def fX10_hand_36 (h : ST) (q0 : Int32) : Option ((Int32 ⊕ Nat) × ST) :=
  some (.inl q0, h)
def fX10_hand (h : ST) (a1 : Int32) : Option ((Int32 ⊕ Nat) × ST) :=
  if a1 < 0 then
  fX10_hand_9 h 
  else
  if a1 ≤ 2 then
    if a1 = 2 then
      bnd (fX10_wouldBeSo h 0 0) fun r19 =>
        if r19.1 = 0 then
        fX10_hand_36 r19.2 0
        else
        fX10_hand_36 r19.2 1
      else
      bnd (lp FU (fX10_hand_41 a1) (h, 0, 0)) fun x16 =>
        sm x16 (fun v => some (.inl ((100 * v.2.1) + v.2.2), v.1)) (fun v => if a1 = 0 then
        fX10_hand_131 v.1 v.2
        else
        fX10_hand_131 v.1 (-1))
    else
    fX10_hand_9 h 
set_option maxRecDepth 100000 in
set_option maxHeartbeats 4000000 in
theorem tX10_hand_9 {p : Program} {l : Launch} {e : Env} {s : State} {m : MethodId} {args : Array Value} {below : List Frame} {meth : Method} {c : Code} {g : GE} {B : Nat} {h : ST}  (F : Fx p s m args meth c cX10_hand 6 "DustParish" 395 g B)
    {y : (Int32 ⊕ Nat) × ST} (hr : meth.sig.returnType = (some .int)) (hT : l.stackTraces = false) (hex : ∀ x ∈ c.exceptionTable.toList, False) (hf : fX10_hand_9 h  = some y) : V p l e 8 1 s m args below meth c (vx_MQ below (QX KC 395 g (ocI y.1) y.2) (XX KC 395 g (ocI y.1) y.2) args s 1 (6 * 1) (WA 395 g)) KC 395 g B 6 0 h 9 [] [] := by
  unfold fX10_hand_9 at hf
  exact v_throw0 (pc := 9) (E := xNS) F hT xw_NS hex dX10_hand_9 dX10_hand_12 dX10_hand_13 dX10_hand_16 (congrArg ocI (some_fst hf)) (some_snd hf) (by decide) (Nat.le_of_ble_eq_true rfl) (by decide)
set_option maxRecDepth 100000 in
set_option maxHeartbeats 4000000 in
theorem tX10_hand_110 {p : Program} {l : Launch} {e : Env} {s : State} {m : MethodId} {args : Array Value} {below : List Frame} {meth : Method} {c : Code} {g : GE} {B : Nat} {h : ST}  {l1 : Int32} {l2 : Int32} {l3 : Int32} {l4 : Int32} {l5 : Int32} (F : Fx p s m args meth c cX10_hand 6 "DustParish" 395 g B)
    {Q : State → Prop} {y : (ST × Int32 × Int32) ⊕ ((ST × Int32) ⊕ (ST × Int32))} (hk : ∀ v : (ST × Int32 × Int32), y = Sum.inl v → V p l e 8 1 s m args below meth c Q KC 395 g B 6 0 v.1 74 [(0, .ref (gA g 0)), (1, .int l1), (2, .int v.2.1), (3, .int l3), (4, .int l4), (5, .int v.2.2)] []) (hx0 : ∀ v : (ST × Int32), y = Sum.inr (.inl v) → V p l e 8 1 s m args below meth c Q KC 395 g B 6 0 v.1 99 [(3, .int l3), (5, .int v.2)] []) (hx1 : ∀ v : (ST × Int32), y = Sum.inr (.inr v) → V p l e 8 1 s m args below meth c Q KC 395 g B 6 0 v.1 116 [(0, .ref (gA g 0)), (1, .int l1), (2, .int v.2), (3, .int l3)] []) (hf : fX10_hand_110 h l1 l2 l3 l4 l5 = some y) : V p l e 8 1 s m args below meth c Q KC 395 g B 6 0 h 110 [(0, .ref (gA g 0)), (1, .int l1), (2, .int l2), (3, .int l3), (4, .int l4), (5, .int l5)] [] := by
  unfold fX10_hand_110 at hf
  refine v_iinc (pc := 110) (j := 5) (v := l5 + 1) (lv' := [(0, .ref (gA g 0)), (1, .int l1), (2, .int l2), (3, .int l3), (4, .int l4), (5, .int (l5 + 1))]) F dX10_hand_110 rfl (congrArg (fun z => l5 + z) ic_1) (by decide) rfl ?_
  refine v_goto (pc := 113) (tgt := 74) F dX10_hand_113 (by decide) ?_
  exact hk (h, l2, l5 + 1) (Option.some.inj hf).symm
set_option maxRecDepth 100000 in
set_option maxHeartbeats 4000000 in
theorem tX10_hand_74 {p : Program} {l : Launch} {e : Env} {s : State} {m : MethodId} {args : Array Value} {below : List Frame} {meth : Method} {c : Code} {g : GE} {B : Nat}   {l1 : Int32} {l3 : Int32} {l4 : Int32} {Q : State → Prop} {x : ((ST × Int32) ⊕ (ST × Int32))} {nf : Nat} {s0 : (ST × Int32 × Int32)} (F : Fx p s m args meth c cX10_hand 6 "DustParish" 395 g B) (hX0 : ∀ v : (ST × Int32), x = (.inl v) → V p l e 8 1 s m args below meth c Q KC 395 g B 6 0 v.1 99 [(3, .int l3), (5, .int v.2)] []) (hX1 : ∀ v : (ST × Int32), x = (.inr v) → V p l e 8 1 s m args below meth c Q KC 395 g B 6 0 v.1 116 [(0, .ref (gA g 0)), (1, .int l1), (2, .int v.2), (3, .int l3)] []) (hl : lp nf (fX10_hand_74 l1 l3 l4) s0 = some x) : V p l e 8 1 s m args below meth c Q KC 395 g B 6 0 s0.1 74 [(0, .ref (gA g 0)), (1, .int l1), (2, .int s0.2.1), (3, .int l3), (4, .int l4), (5, .int s0.2.2)] [] := by
  refine lp_ind (P := fun s0 => V p l e 8 1 s m args below meth c Q KC 395 g B 6 0 s0.1 74 [(0, .ref (gA g 0)), (1, .int l1), (2, .int s0.2.1), (3, .int l3), (4, .int l4), (5, .int s0.2.2)] []) ?_ nf s0 hl
  intro s1 y hf hk hx
  have hx0 : ∀ v : (ST × Int32), y = Sum.inr (.inl v) → V p l e 8 1 s m args below meth c Q KC 395 g B 6 0 v.1 99 [(3, .int l3), (5, .int v.2)] [] := fun v e9 => hX0 v (hx _ e9).symm
  have hx1 : ∀ v : (ST × Int32), y = Sum.inr (.inr v) → V p l e 8 1 s m args below meth c Q KC 395 g B 6 0 v.1 116 [(0, .ref (gA g 0)), (1, .int l1), (2, .int v.2), (3, .int l3)] [] := fun v e9 => hX1 v (hx _ e9).symm
  unfold fX10_hand_74 at hf
  refine v_iload (pc := 74) (j := 5) F dX10_hand_74 rfl ?_
  refine v_iload (pc := 76) (j := 4) F dX10_hand_76 rfl ?_
  refine v_icmp_gt (pc := 78) (tgt := 116) F dX10_hand_78 (by decide) (fun c9 => ?_) (fun c9 => ?_)
  · have hf := ite_t hf c9
    refine V.sub (lv' := [(0, .ref (gA g 0)), (1, .int l1), (2, .int s1.2.1), (3, .int l3)]) [0, 1, 2, 3] rfl ?_
    exact hx1 (s1.1, s1.2.1) (Option.some.inj hf).symm
  · have hf := ite_f hf c9
    refine v_aload_n (pc := 81) (j := 0) F dX10_hand_81 rfl rfl ?_
    refine v_iload_n (pc := 82) (j := 3) F dX10_hand_82 rfl rfl ?_
    refine v_iload (pc := 83) (j := 5) F dX10_hand_83 rfl ?_
    obtain ⟨r10, e11, hf⟩ := bnd_some hf
    refine v_callVi (pc := 85) (As := [.int l3, .int s1.2.2]) F cl_X10_312 dX10_hand_85 (kX10_wouldBeSo e11) kc_0.1 kc_0.2 rc_9 rfl rfl (Nat.le_of_ble_eq_true rfl) (by decide) (Nat.zero_le _) ?_
    refine v_if_ne (pc := 88) (tgt := 94) F dX10_hand_88 (by decide) (fun c12 => ?_) (fun c12 => ?_)
    · have hf := ite_f hf c12
      refine v_iload_n (pc := 94) (j := 1) F dX10_hand_94 rfl rfl ?_
      refine v_iconst (pc := 95) (v := 1) F dX10_hand_95 ic_1 ?_
      refine v_icmp_ne (pc := 96) (tgt := 107) F dX10_hand_96 (by decide) (fun c13 => ?_) (fun c13 => ?_)
      · have hf := ite_f hf c13
        refine v_iinc (pc := 107) (j := 2) (v := s1.2.1 + 1) (lv' := [(0, .ref (gA g 0)), (1, .int l1), (2, .int (s1.2.1 + 1)), (3, .int l3), (4, .int l4), (5, .int s1.2.2)]) F dX10_hand_107 rfl (congrArg (fun z => s1.2.1 + z) ic_1) (by decide) rfl ?_
        exact tX10_hand_110 F hk hx0 hx1 hf
      · have hf := ite_t hf c13
        refine V.sub (lv' := [(3, .int l3), (5, .int s1.2.2)]) [3, 5] rfl ?_
        exact hx0 (r10.2, s1.2.2) (Option.some.inj hf).symm
    · have hf := ite_t hf c12
      refine v_goto (pc := 91) (tgt := 110) F dX10_hand_91 (by decide) ?_
      exact tX10_hand_110 F hk hx0 hx1 hf
set_option maxRecDepth 100000 in
set_option maxHeartbeats 4000000 in
theorem tX10_hand_41 {p : Program} {l : Launch} {e : Env} {s : State} {m : MethodId} {args : Array Value} {below : List Frame} {meth : Method} {c : Code} {g : GE} {B : Nat}   {l1 : Int32} {Q : State → Prop} {x : ((ST × Int32 × Int32) ⊕ (ST × Int32))} {nf : Nat} {s0 : (ST × Int32 × Int32)} (F : Fx p s m args meth c cX10_hand 6 "DustParish" 395 g B) (hX0 : ∀ v : (ST × Int32 × Int32), x = (.inl v) → V p l e 8 1 s m args below meth c Q KC 395 g B 6 0 v.1 99 [(3, .int v.2.1), (5, .int v.2.2)] []) (hX1 : ∀ v : (ST × Int32), x = (.inr v) → V p l e 8 1 s m args below meth c Q KC 395 g B 6 0 v.1 122 [(1, .int l1), (2, .int v.2)] []) (hl : lp nf (fX10_hand_41 l1) s0 = some x) : V p l e 8 1 s m args below meth c Q KC 395 g B 6 0 s0.1 41 [(0, .ref (gA g 0)), (1, .int l1), (2, .int s0.2.1), (3, .int s0.2.2)] [] := by
  refine lp_ind (P := fun s0 => V p l e 8 1 s m args below meth c Q KC 395 g B 6 0 s0.1 41 [(0, .ref (gA g 0)), (1, .int l1), (2, .int s0.2.1), (3, .int s0.2.2)] []) ?_ nf s0 hl
  intro s1 y hf hk hx
  have hx0 : ∀ v : (ST × Int32 × Int32), y = Sum.inr (.inl v) → V p l e 8 1 s m args below meth c Q KC 395 g B 6 0 v.1 99 [(3, .int v.2.1), (5, .int v.2.2)] [] := fun v e9 => hX0 v (hx _ e9).symm
  have hx1 : ∀ v : (ST × Int32), y = Sum.inr (.inr v) → V p l e 8 1 s m args below meth c Q KC 395 g B 6 0 v.1 122 [(1, .int l1), (2, .int v.2)] [] := fun v e9 => hX1 v (hx _ e9).symm
  unfold fX10_hand_41 at hf
  refine v_iload_n (pc := 41) (j := 3) F dX10_hand_41 rfl rfl ?_
  refine v_aload_n (pc := 42) (j := 0) F dX10_hand_42 rfl rfl ?_
  obtain ⟨f4, e5, hf⟩ := bnd_some hf
  obtain ⟨ho_f4, hk_f4, e5⟩ := rf_in e5
  refine v_ifl (pc := 43) F fl_X10_23 dX10_hand_43 kc_0.1 kc_0.2 (fv_9_3 e5) ?_
  refine v_ifl (pc := 46) F fl_X10_104 dX10_hand_46 ho_f4 hk_f4 fv_1_0 ?_
  refine v_icmp_ge (pc := 49) (tgt := 122) F dX10_hand_49 (by decide) (fun c6 => ?_) (fun c6 => ?_)
  · have hf := ite_t hf c6
    refine V.sub (lv' := [(1, .int l1), (2, .int s1.2.1)]) [1, 2] rfl ?_
    exact hx1 (s1.1, s1.2.1) (Option.some.inj hf).symm
  · have hf := ite_f hf c6
    refine v_bipush (pc := 52) (v := 99) F dX10_hand_52 bp_99 ?_
    refine v_aload_n (pc := 54) (j := 0) F dX10_hand_54 rfl rfl ?_
    refine v_ifl (pc := 55) F fl_X10_42 dX10_hand_55 kc_0.1 kc_0.2 fv_9_6 ?_
    refine v_ifl (pc := 58) F fl_X10_122 dX10_hand_58 kc_42.1 kc_42.2 fv_2_0 ?_
    refine v_ifl (pc := 61) F fl_X10_171 dX10_hand_61 kc_43.1 kc_43.2 fv_7_3 ?_
    refine v_iload_n (pc := 64) (j := 3) F dX10_hand_64 rfl rfl ?_
    obtain ⟨v7, e8, hf⟩ := bnd_some hf
    refine v_iald (pc := 65) F dX10_hand_65 kc_44.1 kc_44.2 e8 ?_
    refine v_mmin (pc := 66) F tw_918 mminW dX10_hand_66 (by decide) (Nat.le_of_ble_eq_true rfl) (Nat.zero_le _) ?_
    refine v_istore (pc := 69) (lv' := [(0, .ref (gA g 0)), (1, .int l1), (2, .int s1.2.1), (3, .int s1.2.2), (4, .int (if v7 < 99 then v7 else 99))]) F dX10_hand_69 (by decide) rfl ?_
    refine v_iconst (pc := 71) (v := 1) F dX10_hand_71 ic_1 ?_
    refine v_istore (pc := 72) (lv' := [(0, .ref (gA g 0)), (1, .int l1), (2, .int s1.2.1), (3, .int s1.2.2), (4, .int (if v7 < 99 then v7 else 99)), (5, .int 1)]) F dX10_hand_72 (by decide) rfl ?_
    obtain ⟨x14, e15, hf⟩ := bnd_some hf
    refine tX10_hand_74 (s0 := (s1.1, s1.2.1, 1)) F (fun v e9 => ?_) (fun v e9 => ?_) e15
    · subst e9
      have hf := sm_l hf
      exact hx0 (v.1, s1.2.2, v.2) (Option.some.inj hf).symm
    · subst e9
      have hf := sm_r hf
      refine v_iinc (pc := 116) (j := 3) (v := s1.2.2 + 1) (lv' := [(0, .ref (gA g 0)), (1, .int l1), (2, .int v.2), (3, .int (s1.2.2 + 1))]) F dX10_hand_116 rfl (congrArg (fun z => s1.2.2 + z) ic_1) (by decide) rfl ?_
      refine v_goto (pc := 119) (tgt := 41) F dX10_hand_119 (by decide) ?_
      exact hk (v.1, v.2, s1.2.2 + 1) (Option.some.inj hf).symm
set_option maxRecDepth 100000 in
set_option maxHeartbeats 4000000 in
theorem tX10_hand_131 {p : Program} {l : Launch} {e : Env} {s : State} {m : MethodId} {args : Array Value} {below : List Frame} {meth : Method} {c : Code} {g : GE} {B : Nat} {h : ST}  {q0 : Int32} (F : Fx p s m args meth c cX10_hand 6 "DustParish" 395 g B)
    {y : (Int32 ⊕ Nat) × ST} (hr : meth.sig.returnType = (some .int)) (hT : l.stackTraces = false) (hex : ∀ x ∈ c.exceptionTable.toList, False) (hf : fX10_hand_131 h q0 = some y) : V p l e 8 1 s m args below meth c (vx_MQ below (QX KC 395 g (ocI y.1) y.2) (XX KC 395 g (ocI y.1) y.2) args s 1 (6 * 1) (WA 395 g)) KC 395 g B 6 0 h 131 [] [.int q0] := by
  unfold fX10_hand_131 at hf
  exact v_xiret (pc := 131) F hr dX10_hand_131 (some_fst hf) (some_snd hf) (by decide)
set_option maxRecDepth 100000 in
set_option maxHeartbeats 4000000 in
theorem tX10_hand_36 {p : Program} {l : Launch} {e : Env} {s : State} {m : MethodId} {args : Array Value} {below : List Frame} {meth : Method} {c : Code} {g : GE} {B : Nat} {h : ST}  {q0 : Int32} (F : Fx p s m args meth c cX10_hand 6 "DustParish" 395 g B)
    {y : (Int32 ⊕ Nat) × ST} (hr : meth.sig.returnType = (some .int)) (hT : l.stackTraces = false) (hex : ∀ x ∈ c.exceptionTable.toList, False) (hf : fX10_hand_36 h q0 = some y) : V p l e 8 1 s m args below meth c (vx_MQ below (QX KC 395 g (ocI y.1) y.2) (XX KC 395 g (ocI y.1) y.2) args s 1 (6 * 1) (WA 395 g)) KC 395 g B 6 0 h 36 [] [.int q0] := by
  unfold fX10_hand_36 at hf
  exact v_xiret (pc := 36) F hr dX10_hand_36 (some_fst hf) (some_snd hf) (by decide)
set_option maxRecDepth 100000 in
set_option maxHeartbeats 4000000 in
theorem kX10_hand {l : Launch} {g : GE} {B : Nat} {h : ST} {a1 : Int32} {y : (Int32 ⊕ Nat) × ST} (hT : l.stackTraces = false) (hf : fX10_hand h a1 = some y) : XT l yX10_hand cX10_hand 6 (some .int) 8 1 KC 395 g B [.ref (gA g 0), .int a1] h (ocI y.1) y.2 := by
  refine XT.of pn_X10 (Nat.le_of_ble_eq_true rfl) ?_
  intro p e s m below meth c hr hex F
  have F : Fx p s m _ meth c cX10_hand 6 "DustParish" 395 g B := F
  refine V_lv (lv' := [(0, .ref (gA g 0)), (1, .int a1)]) rfl ?_
  unfold fX10_hand at hf
  refine v_iload_n (pc := 0) (j := 1) F dX10_hand_0 rfl rfl ?_
  refine v_if_lt (pc := 1) (tgt := 9) F dX10_hand_1 (by decide) (fun c1 => ?_) (fun c1 => ?_)
  · have hf := ite_t hf c1
    refine V.sub (lv' := []) [] rfl ?_
    exact tX10_hand_9 F hr hT hex hf
  · have hf := ite_f hf c1
    refine v_iload_n (pc := 4) (j := 1) F dX10_hand_4 rfl rfl ?_
    refine v_iconst (pc := 5) (v := 2) F dX10_hand_5 ic_2 ?_
    refine v_icmp_le (pc := 6) (tgt := 17) F dX10_hand_6 (by decide) (fun c2 => ?_) (fun c2 => ?_)
    · have hf := ite_t hf c2
      refine v_iload_n (pc := 17) (j := 1) F dX10_hand_17 rfl rfl ?_
      refine v_iconst (pc := 18) (v := 2) F dX10_hand_18 ic_2 ?_
      refine v_icmp_ne (pc := 19) (tgt := 37) F dX10_hand_19 (by decide) (fun c3 => ?_) (fun c3 => ?_)
      · have hf := ite_f hf c3
        refine v_iconst (pc := 37) (v := 0) F dX10_hand_37 ic_0 ?_
        refine v_istore_n (pc := 38) (lv' := [(0, .ref (gA g 0)), (1, .int a1), (2, .int 0)]) F dX10_hand_38 rfl (by decide) rfl ?_
        refine v_iconst (pc := 39) (v := 0) F dX10_hand_39 ic_0 ?_
        refine v_istore_n (pc := 40) (lv' := [(0, .ref (gA g 0)), (1, .int a1), (2, .int 0), (3, .int 0)]) F dX10_hand_40 rfl (by decide) rfl ?_
        obtain ⟨x16, e17, hf⟩ := bnd_some hf
        refine tX10_hand_41 (s0 := (h, 0, 0)) F (fun v e9 => ?_) (fun v e9 => ?_) e17
        · subst e9
          have hf := sm_l hf
          refine v_bipush (pc := 99) (v := 100) F dX10_hand_99 bp_100 ?_
          refine v_iload_n (pc := 101) (j := 0) F dX10_hand_101 rfl rfl ?_
          refine v_imul (pc := 102) F dX10_hand_102 ?_
          refine v_iload (pc := 103) (j := 1) F dX10_hand_103 rfl ?_
          refine v_iadd (pc := 105) F dX10_hand_105 ?_
          exact v_xiret (pc := 106) F hr dX10_hand_106 (some_fst hf) (some_snd hf) (by decide)
        · subst e9
          have hf := sm_r hf
          refine v_iload_n (pc := 122) (j := 0) F dX10_hand_122 rfl rfl ?_
          refine v_if_ne (pc := 123) (tgt := 130) F dX10_hand_123 (by decide) (fun c18 => ?_) (fun c18 => ?_)
          · have hf := ite_f hf c18
            refine v_iconst (pc := 130) (v := (-1)) F dX10_hand_130 ic_m1 ?_
            refine V.sub (lv' := []) [] rfl ?_
            exact tX10_hand_131 F hr hT hex hf
          · have hf := ite_t hf c18
            refine v_iload_n (pc := 126) (j := 1) F dX10_hand_126 rfl rfl ?_
            refine v_goto (pc := 127) (tgt := 131) F dX10_hand_127 (by decide) ?_
            refine V.sub (lv' := []) [] rfl ?_
            exact tX10_hand_131 F hr hT hex hf
      · have hf := ite_t hf c3
        refine v_aload_n (pc := 22) (j := 0) F dX10_hand_22 rfl rfl ?_
        refine v_iconst (pc := 23) (v := 0) F dX10_hand_23 ic_0 ?_
        refine v_iconst (pc := 24) (v := 0) F dX10_hand_24 ic_0 ?_
        obtain ⟨r19, e20, hf⟩ := bnd_some hf
        refine v_callVi (pc := 25) (As := [.int 0, .int 0]) F cl_X10_312 dX10_hand_25 (kX10_wouldBeSo e20) kc_0.1 kc_0.2 rc_9 rfl rfl (Nat.le_of_ble_eq_true rfl) (by decide) (Nat.zero_le _) ?_
        refine v_if_eq (pc := 28) (tgt := 35) F dX10_hand_28 (by decide) (fun c21 => ?_) (fun c21 => ?_)
        · have hf := ite_t hf c21
          refine v_iconst (pc := 35) (v := 0) F dX10_hand_35 ic_0 ?_
          refine V.sub (lv' := []) [] rfl ?_
          exact tX10_hand_36 F hr hT hex hf
        · have hf := ite_f hf c21
          refine v_iconst (pc := 31) (v := 1) F dX10_hand_31 ic_1 ?_
          refine v_goto (pc := 32) (tgt := 36) F dX10_hand_32 (by decide) ?_
          refine V.sub (lv' := []) [] rfl ?_
          exact tX10_hand_36 F hr hT hex hf
    · have hf := ite_f hf c2
      refine V.sub (lv' := []) [] rfl ?_
      exact tX10_hand_9 F hr hT hex hf
def fX8_steal (h : ST) (o : Nat) (a1 : Int32) (a2 : Int32) : Option (Int32 × ST) :=
  bnd (rd 9 (h (o + 1)) a1) fun v1 =>
  bnd (rd 9 (h (o + 1)) a1) fun v3 =>
  bnd (wr 9 h (o + 1) a1 (v3 - (if v1 < a2 then v1 else a2))) fun h5 =>
  bnd (pw h5 o 2 ((h5 o 2) + (if v1 < a2 then v1 else a2))) fun h7 =>
  some ((if v1 < a2 then v1 else a2), h7)
set_option maxRecDepth 100000 in
set_option maxHeartbeats 4000000 in
theorem kX8_steal {l : Launch} {g : GE} {B : Nat} {h : ST} {o : Nat} (ho_o : o < 395) (hk_o : KC o = (7, 0)) {a1 : Int32} {a2 : Int32} {y : Int32 × ST} (hf : fX8_steal h o a1 a2 = some y) : CT l yX8_steal cX8_steal 4 (some .int) 1 KC 395 g B [.ref (gA g o), .int a1, .int a2] h (some (.int y.1)) y.2 := by
  refine CT.of pn_X8 (Nat.le_of_ble_eq_true rfl) ?_
  intro p e s m below meth c hr F
  have F : Fx p s m _ meth c cX8_steal 4 "DustParish$State" 395 g B := F
  refine V_lv (lv' := [(0, .ref (gA g o)), (1, .int a1), (2, .int a2)]) rfl ?_
  unfold fX8_steal at hf
  refine v_iload_n (pc := 0) (j := 2) F dX8_steal_0 rfl rfl ?_
  refine v_aload_n (pc := 1) (j := 0) F dX8_steal_1 rfl rfl ?_
  refine v_ifl (pc := 2) F fl_X8_9 dX8_steal_2 ho_o hk_o fv_7_3 ?_
  refine v_iload_n (pc := 5) (j := 1) F dX8_steal_5 rfl rfl ?_
  obtain ⟨v1, e2, hf⟩ := bnd_some hf
  refine v_iald (pc := 6) F dX8_steal_6 (ly_7_3 ho_o hk_o).1 (ly_7_3 ho_o hk_o).2 e2 ?_
  refine v_mmin (pc := 7) F tw_473 mminW dX8_steal_7 (by decide) (Nat.le_of_ble_eq_true rfl) (Nat.zero_le _) ?_
  refine v_istore_n (pc := 10) (lv' := [(0, .ref (gA g o)), (1, .int a1), (2, .int a2), (3, .int (if v1 < a2 then v1 else a2))]) F dX8_steal_10 rfl (by decide) rfl ?_
  refine v_aload_n (pc := 11) (j := 0) F dX8_steal_11 rfl rfl ?_
  refine v_ifl (pc := 12) F fl_X8_9 dX8_steal_12 ho_o hk_o fv_7_3 ?_
  refine v_iload_n (pc := 15) (j := 1) F dX8_steal_15 rfl rfl ?_
  refine v_dup2_11 (pc := 16) F dX8_steal_16 rfl rfl ?_
  obtain ⟨v3, e4, hf⟩ := bnd_some hf
  refine v_iald (pc := 17) F dX8_steal_17 (ly_7_3 ho_o hk_o).1 (ly_7_3 ho_o hk_o).2 e4 ?_
  refine v_iload_n (pc := 18) (j := 3) F dX8_steal_18 rfl rfl ?_
  refine v_isub (pc := 19) F dX8_steal_19 ?_
  obtain ⟨h5, e6, hf⟩ := bnd_some hf
  refine v_iast (pc := 20) F dX8_steal_20 (ly_7_3 ho_o hk_o).1 (ly_7_3 ho_o hk_o).2 e6 ?_
  refine v_aload_n (pc := 21) (j := 0) F dX8_steal_21 rfl rfl ?_
  refine v_dup (pc := 22) F dX8_steal_22 rfl ?_
  refine v_ifl (pc := 23) F fl_X8_28 dX8_steal_23 ho_o hk_o fv_7_2 ?_
  refine v_iload_n (pc := 26) (j := 3) F dX8_steal_26 rfl rfl ?_
  refine v_iadd (pc := 27) F dX8_steal_27 ?_
  obtain ⟨h7, e8, hf⟩ := bnd_some hf
  refine v_pfl (pc := 28) F fl_X8_28 pl_7_2 dX8_steal_28 ho_o hk_o fv_7_2 rfl rfl e8 ?_
  refine v_iload_n (pc := 31) (j := 3) F dX8_steal_31 rfl rfl ?_
  exact v_iret (pc := 32) F hr dX8_steal_32 (some_fst hf) (some_snd hf) (Nat.zero_le _)
def fX2_behind_37 (h : ST) (q0 : Int32) : Option (Int32) :=
  some q0
def fX2_behind (h : ST) (o : Nat) (a1 : Int32) (a2 : Int32) : Option (Int32) :=
  bnd (rd 14 (h (o + 5)) a1) fun v1 =>
  if v1 = a2 then
  bnd (rd 14 (h (o + 6)) a1) fun v9 =>
    some v9
  else
  bnd (rd 14 (h (o + 6)) a1) fun v4 =>
    if v4 = a2 then
    bnd (rd 14 (h (o + 5)) a1) fun v7 =>
      fX2_behind_37 h v7
    else
    fX2_behind_37 h (-1)
set_option maxRecDepth 100000 in
set_option maxHeartbeats 4000000 in
theorem tX2_behind_37 {p : Program} {l : Launch} {e : Env} {s : State} {m : MethodId} {args : Array Value} {below : List Frame} {meth : Method} {c : Code} {g : GE} {B : Nat} {h : ST}  {q0 : Int32} (F : Fx p s m args meth c cX2_behind 3 "DustParish$Facts" 395 g B)
    {y : Int32} (hr : meth.sig.returnType = (some .int)) (hf : fX2_behind_37 h q0 = some y) : V p l e 1 0 s m args below meth c (MQ below (QO KC 395 g (some (.int y)) h) args s 0 (6 * 0) (WA 395 g)) KC 395 g B 3 0 h 37 [] [.int q0] := by
  unfold fX2_behind_37 at hf
  exact v_iret (pc := 37) F hr dX2_behind_37 (Option.some.inj hf) rfl (Nat.zero_le _)
set_option maxRecDepth 100000 in
set_option maxHeartbeats 4000000 in
theorem kX2_behind {l : Launch} {g : GE} {B : Nat} {h : ST} {o : Nat} (ho_o : o < 395) (hk_o : KC o = (1, 0)) {a1 : Int32} {a2 : Int32} {y : Int32} (hf : fX2_behind h o a1 a2 = some y) : CT l yX2_behind cX2_behind 3 (some .int) 1 KC 395 g B [.ref (gA g o), .int a1, .int a2] h (some (.int y)) h := by
  refine CT.of pn_X2 (Nat.le_of_ble_eq_true rfl) ?_
  intro p e s m below meth c hr F
  have F : Fx p s m _ meth c cX2_behind 3 "DustParish$Facts" 395 g B := F
  refine V_lv (lv' := [(0, .ref (gA g o)), (1, .int a1), (2, .int a2)]) rfl ?_
  unfold fX2_behind at hf
  refine v_aload_n (pc := 0) (j := 0) F dX2_behind_0 rfl rfl ?_
  refine v_ifl (pc := 1) F fl_X2_24 dX2_behind_1 ho_o hk_o fv_1_6 ?_
  refine v_iload_n (pc := 4) (j := 1) F dX2_behind_4 rfl rfl ?_
  obtain ⟨v1, e2, hf⟩ := bnd_some hf
  refine v_iald (pc := 5) F dX2_behind_5 (ly_1_6 ho_o hk_o).1 (ly_1_6 ho_o hk_o).2 e2 ?_
  refine v_iload_n (pc := 6) (j := 2) F dX2_behind_6 rfl rfl ?_
  refine v_icmp_ne (pc := 7) (tgt := 17) F dX2_behind_7 (by decide) (fun c3 => ?_) (fun c3 => ?_)
  · have hf := ite_f hf c3
    refine v_aload_n (pc := 17) (j := 0) F dX2_behind_17 rfl rfl ?_
    refine v_ifl (pc := 18) F fl_X2_27 dX2_behind_18 ho_o hk_o fv_1_7 ?_
    refine v_iload_n (pc := 21) (j := 1) F dX2_behind_21 rfl rfl ?_
    obtain ⟨v4, e5, hf⟩ := bnd_some hf
    refine v_iald (pc := 22) F dX2_behind_22 (ly_1_7 ho_o hk_o).1 (ly_1_7 ho_o hk_o).2 e5 ?_
    refine v_iload_n (pc := 23) (j := 2) F dX2_behind_23 rfl rfl ?_
    refine v_icmp_ne (pc := 24) (tgt := 36) F dX2_behind_24 (by decide) (fun c6 => ?_) (fun c6 => ?_)
    · have hf := ite_f hf c6
      refine v_iconst (pc := 36) (v := (-1)) F dX2_behind_36 ic_m1 ?_
      refine V.sub (lv' := []) [] rfl ?_
      exact tX2_behind_37 F hr hf
    · have hf := ite_t hf c6
      refine v_aload_n (pc := 27) (j := 0) F dX2_behind_27 rfl rfl ?_
      refine v_ifl (pc := 28) F fl_X2_24 dX2_behind_28 ho_o hk_o fv_1_6 ?_
      refine v_iload_n (pc := 31) (j := 1) F dX2_behind_31 rfl rfl ?_
      obtain ⟨v7, e8, hf⟩ := bnd_some hf
      refine v_iald (pc := 32) F dX2_behind_32 (ly_1_6 ho_o hk_o).1 (ly_1_6 ho_o hk_o).2 e8 ?_
      refine v_goto (pc := 33) (tgt := 37) F dX2_behind_33 (by decide) ?_
      refine V.sub (lv' := []) [] rfl ?_
      exact tX2_behind_37 F hr hf
  · have hf := ite_t hf c3
    refine v_aload_n (pc := 10) (j := 0) F dX2_behind_10 rfl rfl ?_
    refine v_ifl (pc := 11) F fl_X2_27 dX2_behind_11 ho_o hk_o fv_1_7 ?_
    refine v_iload_n (pc := 14) (j := 1) F dX2_behind_14 rfl rfl ?_
    obtain ⟨v9, e10, hf⟩ := bnd_some hf
    refine v_iald (pc := 15) F dX2_behind_15 (ly_1_7 ho_o hk_o).1 (ly_1_7 ho_o hk_o).2 e10 ?_
    exact v_iret (pc := 16) F hr dX2_behind_16 (Option.some.inj hf) rfl (Nat.zero_le _)
def fX2_behindFirstDoor_2 (h : ST) (o : Nat) (l1 : Int32) (s1 : Int32) : Option (Int32 ⊕ (Int32 ⊕ Unit)) :=
  if (h o 5) ≤ s1 then
  some (.inr (.inr ()))
  else
  bnd (fX2_behind h o s1 l1) fun r2 =>
    if r2 = (-1) then
    some (.inl (s1 + 1))
    else
    some (.inr (.inl s1))
def fX2_behindFirstDoor (h : ST) (o : Nat) (a1 : Int32) : Option (Int32) :=
  bnd (lp FU (fX2_behindFirstDoor_2 h o a1) 0) fun x5 =>
  sm x5 (fun v => bnd (fX2_behind h o v a1) fun r7 =>
  some r7) (fun v => some (-1))
set_option maxRecDepth 100000 in
set_option maxHeartbeats 4000000 in
theorem tX2_behindFirstDoor_2 {p : Program} {l : Launch} {e : Env} {s : State} {m : MethodId} {args : Array Value} {below : List Frame} {meth : Method} {c : Code} {g : GE} {B : Nat}  {h : ST} {o : Nat} (ho_o : o < 395) (hk_o : KC o = (1, 0)) {l1 : Int32} {Q : State → Prop} {x : (Int32 ⊕ Unit)} {nf : Nat} {s0 : Int32} (F : Fx p s m args meth c cX2_behindFirstDoor 3 "DustParish$Facts" 395 g B) (hX0 : ∀ v : Int32, x = (.inl v) → V p l e 2 0 s m args below meth c Q KC 395 g B 3 0 h 20 [(0, .ref (gA g o)), (1, .int l1), (2, .int v)] []) (hX1 : ∀ v : Unit, x = (.inr v) → V p l e 2 0 s m args below meth c Q KC 395 g B 3 0 h 33 [] []) (hl : lp nf (fX2_behindFirstDoor_2 h o l1) s0 = some x) : V p l e 2 0 s m args below meth c Q KC 395 g B 3 0 h 2 [(0, .ref (gA g o)), (1, .int l1), (2, .int s0)] [] := by
  refine lp_ind (P := fun s0 => V p l e 2 0 s m args below meth c Q KC 395 g B 3 0 h 2 [(0, .ref (gA g o)), (1, .int l1), (2, .int s0)] []) ?_ nf s0 hl
  intro s1 y hf hk hx
  have hx0 : ∀ v : Int32, y = Sum.inr (.inl v) → V p l e 2 0 s m args below meth c Q KC 395 g B 3 0 h 20 [(0, .ref (gA g o)), (1, .int l1), (2, .int v)] [] := fun v e9 => hX0 v (hx _ e9).symm
  have hx1 : ∀ v : Unit, y = Sum.inr (.inr v) → V p l e 2 0 s m args below meth c Q KC 395 g B 3 0 h 33 [] [] := fun v e9 => hX1 v (hx _ e9).symm
  unfold fX2_behindFirstDoor_2 at hf
  refine v_iload_n (pc := 2) (j := 2) F dX2_behindFirstDoor_2 rfl rfl ?_
  refine v_aload_n (pc := 3) (j := 0) F dX2_behindFirstDoor_3 rfl rfl ?_
  refine v_ifl (pc := 4) F fl_X2_62 dX2_behindFirstDoor_4 ho_o hk_o fv_1_5 ?_
  refine v_icmp_ge (pc := 7) (tgt := 33) F dX2_behindFirstDoor_7 (by decide) (fun c1 => ?_) (fun c1 => ?_)
  · have hf := ite_t hf c1
    refine V.sub (lv' := []) [] rfl ?_
    exact hx1 () (Option.some.inj hf).symm
  · have hf := ite_f hf c1
    refine v_aload_n (pc := 10) (j := 0) F dX2_behindFirstDoor_10 rfl rfl ?_
    refine v_iload_n (pc := 11) (j := 2) F dX2_behindFirstDoor_11 rfl rfl ?_
    refine v_iload_n (pc := 12) (j := 1) F dX2_behindFirstDoor_12 rfl rfl ?_
    obtain ⟨r2, e3, hf⟩ := bnd_some hf
    refine v_callVi (pc := 13) (As := [.int s1, .int l1]) F cl_X2_94 dX2_behindFirstDoor_13 (kX2_behind ho_o hk_o e3) ho_o hk_o rc_1 rfl rfl (Nat.le_of_ble_eq_true rfl) (by decide) (Nat.zero_le _) ?_
    refine v_iconst (pc := 16) (v := (-1)) F dX2_behindFirstDoor_16 ic_m1 ?_
    refine v_icmp_eq (pc := 17) (tgt := 27) F dX2_behindFirstDoor_17 (by decide) (fun c4 => ?_) (fun c4 => ?_)
    · have hf := ite_t hf c4
      refine v_iinc (pc := 27) (j := 2) (v := s1 + 1) (lv' := [(0, .ref (gA g o)), (1, .int l1), (2, .int (s1 + 1))]) F dX2_behindFirstDoor_27 rfl (congrArg (fun z => s1 + z) ic_1) (by decide) rfl ?_
      refine v_goto (pc := 30) (tgt := 2) F dX2_behindFirstDoor_30 (by decide) ?_
      exact hk (s1 + 1) (Option.some.inj hf).symm
    · have hf := ite_f hf c4
      exact hx0 s1 (Option.some.inj hf).symm
set_option maxRecDepth 100000 in
set_option maxHeartbeats 4000000 in
theorem kX2_behindFirstDoor {l : Launch} {g : GE} {B : Nat} {h : ST} {o : Nat} (ho_o : o < 395) (hk_o : KC o = (1, 0)) {a1 : Int32} {y : Int32} (hf : fX2_behindFirstDoor h o a1 = some y) : CT l yX2_behindFirstDoor cX2_behindFirstDoor 3 (some .int) 2 KC 395 g B [.ref (gA g o), .int a1] h (some (.int y)) h := by
  refine CT.of pn_X2 (Nat.le_of_ble_eq_true rfl) ?_
  intro p e s m below meth c hr F
  have F : Fx p s m _ meth c cX2_behindFirstDoor 3 "DustParish$Facts" 395 g B := F
  refine V_lv (lv' := [(0, .ref (gA g o)), (1, .int a1)]) rfl ?_
  unfold fX2_behindFirstDoor at hf
  refine v_iconst (pc := 0) (v := 0) F dX2_behindFirstDoor_0 ic_0 ?_
  refine v_istore_n (pc := 1) (lv' := [(0, .ref (gA g o)), (1, .int a1), (2, .int 0)]) F dX2_behindFirstDoor_1 rfl (by decide) rfl ?_
  obtain ⟨x5, e6, hf⟩ := bnd_some hf
  refine tX2_behindFirstDoor_2 (s0 := 0) ho_o hk_o F (fun v e9 => ?_) (fun v e9 => ?_) e6
  · subst e9
    have hf := sm_l hf
    refine v_aload_n (pc := 20) (j := 0) F dX2_behindFirstDoor_20 rfl rfl ?_
    refine v_iload_n (pc := 21) (j := 2) F dX2_behindFirstDoor_21 rfl rfl ?_
    refine v_iload_n (pc := 22) (j := 1) F dX2_behindFirstDoor_22 rfl rfl ?_
    obtain ⟨r7, e8, hf⟩ := bnd_some hf
    refine v_callVi (pc := 23) (As := [.int v, .int a1]) F cl_X2_94 dX2_behindFirstDoor_23 (kX2_behind ho_o hk_o e8) ho_o hk_o rc_1 rfl rfl (Nat.le_of_ble_eq_true rfl) (by decide) (Nat.zero_le _) ?_
    exact v_iret (pc := 26) F hr dX2_behindFirstDoor_26 (Option.some.inj hf) rfl (Nat.zero_le _)
  · subst e9
    have hf := sm_r hf
    refine v_iconst (pc := 33) (v := (-1)) F dX2_behindFirstDoor_33 ic_m1 ?_
    exact v_iret (pc := 34) F hr dX2_behindFirstDoor_34 (Option.some.inj hf) rfl (Nat.zero_le _)
def fX8_bring (h : ST) (o : Nat) (a1 : Int32) (a2 : Int32) (a3 : Int32) : Option (ST) :=
  bnd (rd 9 (h (o + 1)) a1) fun v1 =>
  bnd (wr 9 h (o + 1) a1 (v1 - a3)) fun h3 =>
  bnd (fX8_lay h3 o a2 a3) fun r5 =>
  bnd (rd 9 (r5 (o + 2)) a2) fun v7 =>
  bnd (wr 9 r5 (o + 2) a2 (v7 + a3)) fun h9 =>
  some h9
set_option maxRecDepth 100000 in
set_option maxHeartbeats 4000000 in
theorem kX8_bring {l : Launch} {g : GE} {B : Nat} {h : ST} {o : Nat} (ho_o : o < 395) (hk_o : KC o = (7, 0)) {a1 : Int32} {a2 : Int32} {a3 : Int32} {y : ST} (hf : fX8_bring h o a1 a2 a3 = some y) : CT l yX8_bring cX8_bring 4 none 2 KC 395 g B [.ref (gA g o), .int a1, .int a2, .int a3] h none y := by
  refine CT.of pn_X8 (Nat.le_of_ble_eq_true rfl) ?_
  intro p e s m below meth c hr F
  have F : Fx p s m _ meth c cX8_bring 4 "DustParish$State" 395 g B := F
  refine V_lv (lv' := [(0, .ref (gA g o)), (1, .int a1), (2, .int a2), (3, .int a3)]) rfl ?_
  unfold fX8_bring at hf
  refine v_aload_n (pc := 0) (j := 0) F dX8_bring_0 rfl rfl ?_
  refine v_ifl (pc := 1) F fl_X8_9 dX8_bring_1 ho_o hk_o fv_7_3 ?_
  refine v_iload_n (pc := 4) (j := 1) F dX8_bring_4 rfl rfl ?_
  refine v_dup2_11 (pc := 5) F dX8_bring_5 rfl rfl ?_
  obtain ⟨v1, e2, hf⟩ := bnd_some hf
  refine v_iald (pc := 6) F dX8_bring_6 (ly_7_3 ho_o hk_o).1 (ly_7_3 ho_o hk_o).2 e2 ?_
  refine v_iload_n (pc := 7) (j := 3) F dX8_bring_7 rfl rfl ?_
  refine v_isub (pc := 8) F dX8_bring_8 ?_
  obtain ⟨h3, e4, hf⟩ := bnd_some hf
  refine v_iast (pc := 9) F dX8_bring_9 (ly_7_3 ho_o hk_o).1 (ly_7_3 ho_o hk_o).2 e4 ?_
  refine v_aload_n (pc := 10) (j := 0) F dX8_bring_10 rfl rfl ?_
  refine v_iload_n (pc := 11) (j := 2) F dX8_bring_11 rfl rfl ?_
  refine v_iload_n (pc := 12) (j := 3) F dX8_bring_12 rfl rfl ?_
  obtain ⟨r5, e6, hf⟩ := bnd_some hf
  refine v_callVv (pc := 13) (As := [.int a2, .int a3]) F cl_X8_53 dX8_bring_13 (kX8_lay ho_o hk_o e6) ho_o hk_o rc_7 rfl rfl (Nat.le_of_ble_eq_true rfl) (by decide) (Nat.zero_le _) ?_
  refine v_aload_n (pc := 16) (j := 0) F dX8_bring_16 rfl rfl ?_
  refine v_ifl (pc := 17) F fl_X8_15 dX8_bring_17 ho_o hk_o fv_7_4 ?_
  refine v_iload_n (pc := 20) (j := 2) F dX8_bring_20 rfl rfl ?_
  refine v_dup2_11 (pc := 21) F dX8_bring_21 rfl rfl ?_
  obtain ⟨v7, e8, hf⟩ := bnd_some hf
  refine v_iald (pc := 22) F dX8_bring_22 (ly_7_4 ho_o hk_o).1 (ly_7_4 ho_o hk_o).2 e8 ?_
  refine v_iload_n (pc := 23) (j := 3) F dX8_bring_23 rfl rfl ?_
  refine v_iadd (pc := 24) F dX8_bring_24 ?_
  obtain ⟨h9, e10, hf⟩ := bnd_some hf
  refine v_iast (pc := 25) F dX8_bring_25 (ly_7_4 ho_o hk_o).1 (ly_7_4 ho_o hk_o).2 e10 ?_
  exact v_vret (pc := 26) F hr dX8_bring_26 (Option.some.inj hf) (Nat.zero_le _)
def fX10_happen_54 (h : ST)  : Option (ST) :=
  some h
def fX10_happen_15 (h : ST) (l1 : Int32) (l2 : Int32) : Option (ST) :=
  if l2 = 1 then
  bnd (rf KC 395 1 (h 0 3)) fun f3 =>
    bnd (fX2_behindFirstDoor h f3 l1) fun r5 =>
    if r5 = (-1) then
    fX10_happen_54 h 
    else
    bnd (rd 9 (h 387) l1) fun v8 =>
      bnd (fX8_bring h 386 l1 r5 (v8 / 2)) fun r10 =>
      fX10_happen_54 r10 
  else
  fX10_happen_54 h 
def fX10_happen (h : ST) (a1 : Int32) (a2 : Int32) : Option (ST) :=
  if a2 = 0 then
  bnd (fX8_steal h 386 a1 10) fun r12 =>
    fX10_happen_15 r12.2 a1 a2
  else
  fX10_happen_15 h a1 a2
set_option maxRecDepth 100000 in
set_option maxHeartbeats 4000000 in
theorem tX10_happen_54 {p : Program} {l : Launch} {e : Env} {s : State} {m : MethodId} {args : Array Value} {below : List Frame} {meth : Method} {c : Code} {g : GE} {B : Nat} {h : ST}  (F : Fx p s m args meth c cX10_happen 4 "DustParish" 395 g B)
    {y : ST} (hr : meth.sig.returnType = none) (hf : fX10_happen_54 h  = some y) : V p l e 3 0 s m args below meth c (MQ below (QO KC 395 g none y) args s 0 (6 * 0) (WA 395 g)) KC 395 g B 4 0 h 54 [] [] := by
  unfold fX10_happen_54 at hf
  exact v_vret (pc := 54) F hr dX10_happen_54 (Option.some.inj hf) (Nat.zero_le _)
set_option maxRecDepth 100000 in
set_option maxHeartbeats 4000000 in
theorem tX10_happen_15 {p : Program} {l : Launch} {e : Env} {s : State} {m : MethodId} {args : Array Value} {below : List Frame} {meth : Method} {c : Code} {g : GE} {B : Nat} {h : ST}  {l1 : Int32} {l2 : Int32} (F : Fx p s m args meth c cX10_happen 4 "DustParish" 395 g B)
    {y : ST} (hr : meth.sig.returnType = none) (hf : fX10_happen_15 h l1 l2 = some y) : V p l e 3 0 s m args below meth c (MQ below (QO KC 395 g none y) args s 0 (6 * 0) (WA 395 g)) KC 395 g B 4 0 h 15 [(0, .ref (gA g 0)), (1, .int l1), (2, .int l2)] [] := by
  unfold fX10_happen_15 at hf
  refine v_iload_n (pc := 15) (j := 2) F dX10_happen_15 rfl rfl ?_
  refine v_iconst (pc := 16) (v := 1) F dX10_happen_16 ic_1 ?_
  refine v_icmp_ne (pc := 17) (tgt := 54) F dX10_happen_17 (by decide) (fun c2 => ?_) (fun c2 => ?_)
  · have hf := ite_f hf c2
    refine V.sub (lv' := []) [] rfl ?_
    exact tX10_happen_54 F hr hf
  · have hf := ite_t hf c2
    refine v_aload_n (pc := 20) (j := 0) F dX10_happen_20 rfl rfl ?_
    obtain ⟨f3, e4, hf⟩ := bnd_some hf
    obtain ⟨ho_f3, hk_f3, e4⟩ := rf_in e4
    refine v_ifl (pc := 21) F fl_X10_23 dX10_happen_21 kc_0.1 kc_0.2 (fv_9_3 e4) ?_
    refine v_iload_n (pc := 24) (j := 1) F dX10_happen_24 rfl rfl ?_
    obtain ⟨r5, e6, hf⟩ := bnd_some hf
    refine v_callVi (pc := 25) (As := [.int l1]) F cl_X10_346 dX10_happen_25 (kX2_behindFirstDoor ho_f3 hk_f3 e6) ho_f3 hk_f3 rc_1 rfl rfl (Nat.le_of_ble_eq_true rfl) (by decide) (Nat.zero_le _) ?_
    refine v_istore_n (pc := 28) (lv' := [(0, .ref (gA g 0)), (1, .int l1), (2, .int l2), (3, .int r5)]) F dX10_happen_28 rfl (by decide) rfl ?_
    refine v_iload_n (pc := 29) (j := 3) F dX10_happen_29 rfl rfl ?_
    refine v_iconst (pc := 30) (v := (-1)) F dX10_happen_30 ic_m1 ?_
    refine v_icmp_eq (pc := 31) (tgt := 54) F dX10_happen_31 (by decide) (fun c7 => ?_) (fun c7 => ?_)
    · have hf := ite_t hf c7
      refine V.sub (lv' := []) [] rfl ?_
      exact tX10_happen_54 F hr hf
    · have hf := ite_f hf c7
      refine v_aload_n (pc := 34) (j := 0) F dX10_happen_34 rfl rfl ?_
      refine v_ifl (pc := 35) F fl_X10_56 dX10_happen_35 kc_0.1 kc_0.2 fv_9_9 ?_
      refine v_iload_n (pc := 38) (j := 1) F dX10_happen_38 rfl rfl ?_
      refine v_iload_n (pc := 39) (j := 3) F dX10_happen_39 rfl rfl ?_
      refine v_aload_n (pc := 40) (j := 0) F dX10_happen_40 rfl rfl ?_
      refine v_ifl (pc := 41) F fl_X10_56 dX10_happen_41 kc_0.1 kc_0.2 fv_9_9 ?_
      refine v_ifl (pc := 44) F fl_X10_171 dX10_happen_44 kc_386.1 kc_386.2 fv_7_3 ?_
      refine v_iload_n (pc := 47) (j := 1) F dX10_happen_47 rfl rfl ?_
      obtain ⟨v8, e9, hf⟩ := bnd_some hf
      refine v_iald (pc := 48) F dX10_happen_48 kc_387.1 kc_387.2 e9 ?_
      refine v_iconst (pc := 49) (v := 2) F dX10_happen_49 ic_2 ?_
      refine v_idiv (pc := 50) F dX10_happen_50 (by decide) ?_
      obtain ⟨r10, e11, hf⟩ := bnd_some hf
      refine v_callVv (pc := 51) (As := [.int l1, .int r5, .int (v8 / 2)]) F cl_X10_222 dX10_happen_51 (kX8_bring kc_386.1 kc_386.2 e11) kc_386.1 kc_386.2 rc_7 rfl rfl (Nat.le_of_ble_eq_true rfl) (by decide) (Nat.zero_le _) ?_
      refine V.sub (lv' := []) [] rfl ?_
      exact tX10_happen_54 F hr hf
set_option maxRecDepth 100000 in
set_option maxHeartbeats 4000000 in
theorem kX10_happen {l : Launch} {g : GE} {B : Nat} {h : ST} {a1 : Int32} {a2 : Int32} {y : ST} (hf : fX10_happen h a1 a2 = some y) : CT l yX10_happen cX10_happen 4 none 3 KC 395 g B [.ref (gA g 0), .int a1, .int a2] h none y := by
  refine CT.of pn_X10 (Nat.le_of_ble_eq_true rfl) ?_
  intro p e s m below meth c hr F
  have F : Fx p s m _ meth c cX10_happen 4 "DustParish" 395 g B := F
  refine V_lv (lv' := [(0, .ref (gA g 0)), (1, .int a1), (2, .int a2)]) rfl ?_
  unfold fX10_happen at hf
  refine v_iload_n (pc := 0) (j := 2) F dX10_happen_0 rfl rfl ?_
  refine v_if_ne (pc := 1) (tgt := 15) F dX10_happen_1 (by decide) (fun c1 => ?_) (fun c1 => ?_)
  · have hf := ite_f hf c1
    exact tX10_happen_15 F hr hf
  · have hf := ite_t hf c1
    refine v_aload_n (pc := 4) (j := 0) F dX10_happen_4 rfl rfl ?_
    refine v_ifl (pc := 5) F fl_X10_56 dX10_happen_5 kc_0.1 kc_0.2 fv_9_9 ?_
    refine v_iload_n (pc := 8) (j := 1) F dX10_happen_8 rfl rfl ?_
    refine v_bipush (pc := 9) (v := 10) F dX10_happen_9 bp_10 ?_
    obtain ⟨r12, e13, hf⟩ := bnd_some hf
    refine v_callVi (pc := 11) (As := [.int a1, .int 10]) F cl_X10_226 dX10_happen_11 (kX8_steal kc_386.1 kc_386.2 e13) kc_386.1 kc_386.2 rc_7 rfl rfl (Nat.le_of_ble_eq_true rfl) (by decide) (Nat.zero_le _) ?_
    refine v_pop (pc := 14) F dX10_happen_14 rfl ?_
    exact tX10_happen_15 F hr hf
def fX10_heresy_16 (s1 : (ST × Int32)) : Option ((ST × Int32) ⊕ ((ST × Int32) ⊕ ST)) :=
  if 99 < s1.2 then
  some (.inr (.inr s1.1))
  else
  bnd (rf KC 395 1 (s1.1 0 3)) fun f4 =>
    bnd (fX1_heretics s1.1 f4 386) fun r6 =>
    if r6 = 0 then
    bnd (rf KC 395 1 (s1.1 0 3)) fun f9 =>
      bnd (fX1_passMany s1.1 f9 386 1) fun r11 =>
      some (.inl (r11, s1.2 + 1))
    else
    some (.inr (.inl (s1.1, s1.2)))
def fX10_heresy (h : ST) : Option (Int32 × ST) :=
  bnd (fX8_copy h 386 43) fun r1 =>
  bnd (lp FU (fX10_heresy_16) (r1, 0)) fun x13 =>
  sm x13 (fun v => some (v.2, v.1)) (fun v => some ((-1), v))
set_option maxRecDepth 100000 in
set_option maxHeartbeats 4000000 in
theorem tX10_heresy_16 {p : Program} {l : Launch} {e : Env} {s : State} {m : MethodId} {args : Array Value} {below : List Frame} {meth : Method} {c : Code} {g : GE} {B : Nat}   {Q : State → Prop} {x : ((ST × Int32) ⊕ ST)} {nf : Nat} {s0 : (ST × Int32)} (F : Fx p s m args meth c cX10_heresy 2 "DustParish" 395 g B) (hX0 : ∀ v : (ST × Int32), x = (.inl v) → V p l e 7 0 s m args below meth c Q KC 395 g B 2 0 v.1 36 [(1, .int v.2)] []) (hX1 : ∀ v : ST, x = (.inr v) → V p l e 7 0 s m args below meth c Q KC 395 g B 2 0 v 56 [] []) (hl : lp nf (fX10_heresy_16) s0 = some x) : V p l e 7 0 s m args below meth c Q KC 395 g B 2 0 s0.1 16 [(0, .ref (gA g 0)), (1, .int s0.2)] [] := by
  refine lp_ind (P := fun s0 => V p l e 7 0 s m args below meth c Q KC 395 g B 2 0 s0.1 16 [(0, .ref (gA g 0)), (1, .int s0.2)] []) ?_ nf s0 hl
  intro s1 y hf hk hx
  have hx0 : ∀ v : (ST × Int32), y = Sum.inr (.inl v) → V p l e 7 0 s m args below meth c Q KC 395 g B 2 0 v.1 36 [(1, .int v.2)] [] := fun v e9 => hX0 v (hx _ e9).symm
  have hx1 : ∀ v : ST, y = Sum.inr (.inr v) → V p l e 7 0 s m args below meth c Q KC 395 g B 2 0 v 56 [] [] := fun v e9 => hX1 v (hx _ e9).symm
  unfold fX10_heresy_16 at hf
  refine v_iload_n (pc := 16) (j := 1) F dX10_heresy_16 rfl rfl ?_
  refine v_bipush (pc := 17) (v := 99) F dX10_heresy_17 bp_99 ?_
  refine v_icmp_gt (pc := 19) (tgt := 56) F dX10_heresy_19 (by decide) (fun c3 => ?_) (fun c3 => ?_)
  · have hf := ite_t hf c3
    refine V.sub (lv' := []) [] rfl ?_
    exact hx1 s1.1 (Option.some.inj hf).symm
  · have hf := ite_f hf c3
    refine v_aload_n (pc := 22) (j := 0) F dX10_heresy_22 rfl rfl ?_
    obtain ⟨f4, e5, hf⟩ := bnd_some hf
    obtain ⟨ho_f4, hk_f4, e5⟩ := rf_in e5
    refine v_ifl (pc := 23) F fl_X10_23 dX10_heresy_23 kc_0.1 kc_0.2 (fv_9_3 e5) ?_
    refine v_aload_n (pc := 26) (j := 0) F dX10_heresy_26 rfl rfl ?_
    refine v_ifl (pc := 27) F fl_X10_56 dX10_heresy_27 kc_0.1 kc_0.2 fv_9_9 ?_
    obtain ⟨r6, e7, hf⟩ := bnd_some hf
    refine v_callSi (pc := 30) (As := [.ref (gA g f4), .ref (gA g 386)]) F cl_X10_140 dX10_heresy_30 (kX1_heretics ho_f4 hk_f4 kc_386.1 kc_386.2 e7) rfl rfl (Nat.le_of_ble_eq_true rfl) (by decide) (Nat.zero_le _) ?_
    refine v_if_eq (pc := 33) (tgt := 38) F dX10_heresy_33 (by decide) (fun c8 => ?_) (fun c8 => ?_)
    · have hf := ite_t hf c8
      refine v_aload_n (pc := 38) (j := 0) F dX10_heresy_38 rfl rfl ?_
      obtain ⟨f9, e10, hf⟩ := bnd_some hf
      obtain ⟨ho_f9, hk_f9, e10⟩ := rf_in e10
      refine v_ifl (pc := 39) F fl_X10_23 dX10_heresy_39 kc_0.1 kc_0.2 (fv_9_3 e10) ?_
      refine v_aload_n (pc := 42) (j := 0) F dX10_heresy_42 rfl rfl ?_
      refine v_ifl (pc := 43) F fl_X10_56 dX10_heresy_43 kc_0.1 kc_0.2 fv_9_9 ?_
      refine v_iconst (pc := 46) (v := 1) F dX10_heresy_46 ic_1 ?_
      obtain ⟨r11, e12, hf⟩ := bnd_some hf
      refine v_callSv (pc := 47) (As := [.ref (gA g f9), .ref (gA g 386), .int 1]) F cl_X10_214 dX10_heresy_47 (kX1_passMany ho_f9 hk_f9 kc_386.1 kc_386.2 e12) rfl rfl (Nat.le_of_ble_eq_true rfl) (by decide) (Nat.zero_le _) ?_
      refine v_iinc (pc := 50) (j := 1) (v := s1.2 + 1) (lv' := [(0, .ref (gA g 0)), (1, .int (s1.2 + 1))]) F dX10_heresy_50 rfl (congrArg (fun z => s1.2 + z) ic_1) (by decide) rfl ?_
      refine v_goto (pc := 53) (tgt := 16) F dX10_heresy_53 (by decide) ?_
      exact hk (r11, s1.2 + 1) (Option.some.inj hf).symm
    · have hf := ite_f hf c8
      refine V.sub (lv' := [(1, .int s1.2)]) [1] rfl ?_
      exact hx0 (s1.1, s1.2) (Option.some.inj hf).symm
set_option maxRecDepth 100000 in
set_option maxHeartbeats 4000000 in
theorem kX10_heresy {l : Launch} {g : GE} {B : Nat} {h : ST} {y : Int32 × ST} (hf : fX10_heresy h = some y) : CT l yX10_heresy cX10_heresy 2 (some .int) 7 KC 395 g B [.ref (gA g 0)] h (some (.int y.1)) y.2 := by
  refine CT.of pn_X10 (Nat.le_of_ble_eq_true rfl) ?_
  intro p e s m below meth c hr F
  have F : Fx p s m _ meth c cX10_heresy 2 "DustParish" 395 g B := F
  refine V_lv (lv' := [(0, .ref (gA g 0))]) rfl ?_
  unfold fX10_heresy at hf
  refine v_aload_n (pc := 0) (j := 0) F dX10_heresy_0 rfl rfl ?_
  refine v_ifl (pc := 1) F fl_X10_56 dX10_heresy_1 kc_0.1 kc_0.2 fv_9_9 ?_
  refine v_aload_n (pc := 4) (j := 0) F dX10_heresy_4 rfl rfl ?_
  refine v_ifl (pc := 5) F fl_X10_42 dX10_heresy_5 kc_0.1 kc_0.2 fv_9_6 ?_
  refine v_ifl (pc := 8) F fl_X10_122 dX10_heresy_8 kc_42.1 kc_42.2 fv_2_0 ?_
  obtain ⟨r1, e2, hf⟩ := bnd_some hf
  refine v_callVv (pc := 11) (As := [.ref (gA g 43)]) F cl_X10_241 dX10_heresy_11 (kX8_copy kc_386.1 kc_386.2 kc_43.1 kc_43.2 e2) kc_386.1 kc_386.2 rc_7 rfl rfl (Nat.le_of_ble_eq_true rfl) (by decide) (Nat.zero_le _) ?_
  refine v_iconst (pc := 14) (v := 0) F dX10_heresy_14 ic_0 ?_
  refine v_istore_n (pc := 15) (lv' := [(0, .ref (gA g 0)), (1, .int 0)]) F dX10_heresy_15 rfl (by decide) rfl ?_
  obtain ⟨x13, e14, hf⟩ := bnd_some hf
  refine tX10_heresy_16 (s0 := (r1, 0)) F (fun v e9 => ?_) (fun v e9 => ?_) e14
  · subst e9
    have hf := sm_l hf
    refine v_iload_n (pc := 36) (j := 0) F dX10_heresy_36 rfl rfl ?_
    exact v_iret (pc := 37) F hr dX10_heresy_37 (some_fst hf) (some_snd hf) (Nat.zero_le _)
  · subst e9
    have hf := sm_r hf
    refine v_iconst (pc := 56) (v := (-1)) F dX10_heresy_56 ic_m1 ?_
    exact v_iret (pc := 57) F hr dX10_heresy_57 (some_fst hf) (some_snd hf) (Nat.zero_le _)
def fX0_copy_18 (o : Nat) (o1 : Nat) (s1 : (ST × Int32)) : Option ((ST × Int32) ⊕ ST) :=
  if 40 ≤ s1.2 then
  some (.inr s1.1)
  else
  bnd (bst (o + 1) s1.2) fun f6 =>
    bnd (bst (o1 + 1) s1.2) fun f8 =>
    bnd (fX8_copy s1.1 f6 f8) fun r10 =>
    some (.inl (r10, s1.2 + 1))
def fX0_copy (h : ST) (o : Nat) (o1 : Nat) : Option (ST) :=
  bnd (pw h o 0 (h o1 0)) fun h1 =>
  bnd (pw h1 o 1 (h1 o1 1)) fun h3 =>
  bnd (lp FU (fX0_copy_18 o o1) (h3, 0)) fun x12 =>
  some x12
set_option maxRecDepth 100000 in
set_option maxHeartbeats 4000000 in
theorem tX0_copy_18 {p : Program} {l : Launch} {e : Env} {s : State} {m : MethodId} {args : Array Value} {below : List Frame} {meth : Method} {c : Code} {g : GE} {B : Nat}  {o : Nat} (ho_o : o < 395) (hk_o : KC o = (0, 0)) {o1 : Nat} (ho_o1 : o1 < 395) (hk_o1 : KC o1 = (0, 0)) {Q : State → Prop} {x : ST} {nf : Nat} {s0 : (ST × Int32)} (F : Fx p s m args meth c cX0_copy 3 "DustParish$Acts" 395 g B) (hX0 : V p l e 2 0 s m args below meth c Q KC 395 g B 3 0 x 45 [] []) (hl : lp nf (fX0_copy_18 o o1) s0 = some x) : V p l e 2 0 s m args below meth c Q KC 395 g B 3 0 s0.1 18 [(0, .ref (gA g o)), (1, .ref (gA g o1)), (2, .int s0.2)] [] := by
  refine lp_ind (P := fun s0 => V p l e 2 0 s m args below meth c Q KC 395 g B 3 0 s0.1 18 [(0, .ref (gA g o)), (1, .ref (gA g o1)), (2, .int s0.2)] []) ?_ nf s0 hl
  intro s1 y hf hk hx
  have hx0 : ∀ v : ST, y = Sum.inr v → V p l e 2 0 s m args below meth c Q KC 395 g B 3 0 v 45 [] [] := fun v e9 => by rw [hx v e9]; exact hX0
  unfold fX0_copy_18 at hf
  refine v_iload_n (pc := 18) (j := 2) F dX0_copy_18 rfl rfl ?_
  refine v_bipush (pc := 19) (v := 40) F dX0_copy_19 bp_40 ?_
  refine v_icmp_ge (pc := 21) (tgt := 45) F dX0_copy_21 (by decide) (fun c5 => ?_) (fun c5 => ?_)
  · have hf := ite_t hf c5
    refine V.sub (lv' := []) [] rfl ?_
    exact hx0 s1.1 (Option.some.inj hf).symm
  · have hf := ite_f hf c5
    refine v_aload_n (pc := 24) (j := 0) F dX0_copy_24 rfl rfl ?_
    refine v_ifl (pc := 25) F fl_X0_20 dX0_copy_25 ho_o hk_o fv_0_2 ?_
    refine v_iload_n (pc := 28) (j := 2) F dX0_copy_28 rfl rfl ?_
    obtain ⟨f6, e7, hf⟩ := bnd_some hf
    obtain ⟨ho_f6, hk_f6, hv_f6, e7⟩ := bst_in (ly_0_2 ho_o hk_o).1 (ly_0_2 ho_o hk_o).2 e7
    refine v_aald (pc := 29) (v := .ref (gA g f6)) F dX0_copy_29 (ly_0_2 ho_o hk_o).1 (ly_0_2 ho_o hk_o).2 (by decide) (by decide) hv_f6 (av23 e7) ?_
    refine v_aload_n (pc := 30) (j := 1) F dX0_copy_30 rfl rfl ?_
    refine v_ifl (pc := 31) F fl_X0_20 dX0_copy_31 ho_o1 hk_o1 fv_0_2 ?_
    refine v_iload_n (pc := 34) (j := 2) F dX0_copy_34 rfl rfl ?_
    obtain ⟨f8, e9, hf⟩ := bnd_some hf
    obtain ⟨ho_f8, hk_f8, hv_f8, e9⟩ := bst_in (ly_0_2 ho_o1 hk_o1).1 (ly_0_2 ho_o1 hk_o1).2 e9
    refine v_aald (pc := 35) (v := .ref (gA g f8)) F dX0_copy_35 (ly_0_2 ho_o1 hk_o1).1 (ly_0_2 ho_o1 hk_o1).2 (by decide) (by decide) hv_f8 (av23 e9) ?_
    obtain ⟨r10, e11, hf⟩ := bnd_some hf
    refine v_callVv (pc := 36) (As := [.ref (gA g f8)]) F cl_X0_25 dX0_copy_36 (kX8_copy ho_f6 hk_f6 ho_f8 hk_f8 e11) ho_f6 hk_f6 rc_7 rfl rfl (Nat.le_of_ble_eq_true rfl) (by decide) (Nat.zero_le _) ?_
    refine v_iinc (pc := 39) (j := 2) (v := s1.2 + 1) (lv' := [(0, .ref (gA g o)), (1, .ref (gA g o1)), (2, .int (s1.2 + 1))]) F dX0_copy_39 rfl (congrArg (fun z => s1.2 + z) ic_1) (by decide) rfl ?_
    refine v_goto (pc := 42) (tgt := 18) F dX0_copy_42 (by decide) ?_
    exact hk (r10, s1.2 + 1) (Option.some.inj hf).symm
set_option maxRecDepth 100000 in
set_option maxHeartbeats 4000000 in
theorem kX0_copy {l : Launch} {g : GE} {B : Nat} {h : ST} {o : Nat} (ho_o : o < 395) (hk_o : KC o = (0, 0)) {o1 : Nat} (ho_o1 : o1 < 395) (hk_o1 : KC o1 = (0, 0)) {y : ST} (hf : fX0_copy h o o1 = some y) : CT l yX0_copy cX0_copy 3 none 2 KC 395 g B [.ref (gA g o), .ref (gA g o1)] h none y := by
  refine CT.of pn_X0 (Nat.le_of_ble_eq_true rfl) ?_
  intro p e s m below meth c hr F
  have F : Fx p s m _ meth c cX0_copy 3 "DustParish$Acts" 395 g B := F
  refine V_lv (lv' := [(0, .ref (gA g o)), (1, .ref (gA g o1))]) rfl ?_
  unfold fX0_copy at hf
  refine v_aload_n (pc := 0) (j := 0) F dX0_copy_0 rfl rfl ?_
  refine v_aload_n (pc := 1) (j := 1) F dX0_copy_1 rfl rfl ?_
  refine v_ifl (pc := 2) F fl_X0_9 dX0_copy_2 ho_o1 hk_o1 fv_0_0 ?_
  obtain ⟨h1, e2, hf⟩ := bnd_some hf
  refine v_pfl (pc := 5) F fl_X0_9 pl_0_0 dX0_copy_5 ho_o hk_o fv_0_0 rfl rfl e2 ?_
  refine v_aload_n (pc := 8) (j := 0) F dX0_copy_8 rfl rfl ?_
  refine v_aload_n (pc := 9) (j := 1) F dX0_copy_9 rfl rfl ?_
  refine v_ifl (pc := 10) F fl_X0_15 dX0_copy_10 ho_o1 hk_o1 fv_0_1 ?_
  obtain ⟨h3, e4, hf⟩ := bnd_some hf
  refine v_pfl (pc := 13) F fl_X0_15 pl_0_1 dX0_copy_13 ho_o hk_o fv_0_1 rfl rfl e4 ?_
  refine v_iconst (pc := 16) (v := 0) F dX0_copy_16 ic_0 ?_
  refine v_istore_n (pc := 17) (lv' := [(0, .ref (gA g o)), (1, .ref (gA g o1)), (2, .int 0)]) F dX0_copy_17 rfl (by decide) rfl ?_
  obtain ⟨x12, e13, hf⟩ := bnd_some hf
  refine tX0_copy_18 (s0 := (h3, 0)) ho_o hk_o ho_o1 hk_o1 F ?_ e13
  exact v_vret (pc := 45) F hr dX0_copy_45 (Option.some.inj hf) (Nat.zero_le _)
def fX7_copy (h : ST) (o : Nat) (o1 : Nat) : Option (ST) :=
  bnd (pw h o 0 (h o1 0)) fun h1 =>
  bnd (acp 8 8 h1 (o1 + 1) (o + 1) 0 0 8) fun h3 =>
  bnd (acp 8 8 h3 (o1 + 2) (o + 2) 0 0 8) fun h5 =>
  bnd (acp 8 8 h5 (o1 + 3) (o + 3) 0 0 8) fun h7 =>
  some h7
set_option maxRecDepth 100000 in
set_option maxHeartbeats 4000000 in
theorem kX7_copy {l : Launch} {g : GE} {B : Nat} {h : ST} {o : Nat} (ho_o : o < 395) (hk_o : KC o = (6, 0)) {o1 : Nat} (ho_o1 : o1 < 395) (hk_o1 : KC o1 = (6, 0)) {y : ST} (hf : fX7_copy h o o1 = some y) : CT l yX7_copy cX7_copy 2 none 1 KC 395 g B [.ref (gA g o), .ref (gA g o1)] h none y := by
  refine CT.of pn_X7 (Nat.le_of_ble_eq_true rfl) ?_
  intro p e s m below meth c hr F
  have F : Fx p s m _ meth c cX7_copy 2 "DustParish$Sights" 395 g B := F
  refine V_lv (lv' := [(0, .ref (gA g o)), (1, .ref (gA g o1))]) rfl ?_
  unfold fX7_copy at hf
  refine v_aload_n (pc := 0) (j := 0) F dX7_copy_0 rfl rfl ?_
  refine v_aload_n (pc := 1) (j := 1) F dX7_copy_1 rfl rfl ?_
  refine v_ifl (pc := 2) F fl_X7_9 dX7_copy_2 ho_o1 hk_o1 fv_6_0 ?_
  obtain ⟨h1, e2, hf⟩ := bnd_some hf
  refine v_pfl (pc := 5) F fl_X7_9 pl_6_0 dX7_copy_5 ho_o hk_o fv_6_0 rfl rfl e2 ?_
  refine v_aload_n (pc := 8) (j := 1) F dX7_copy_8 rfl rfl ?_
  refine v_ifl (pc := 9) F fl_X7_15 dX7_copy_9 ho_o1 hk_o1 fv_6_1 ?_
  refine v_iconst (pc := 12) (v := 0) F dX7_copy_12 ic_0 ?_
  refine v_aload_n (pc := 13) (j := 0) F dX7_copy_13 rfl rfl ?_
  refine v_ifl (pc := 14) F fl_X7_15 dX7_copy_14 ho_o hk_o fv_6_1 ?_
  refine v_iconst (pc := 17) (v := 0) F dX7_copy_17 ic_0 ?_
  refine v_bipush (pc := 18) (v := 8) F dX7_copy_18 bp_8 ?_
  obtain ⟨h3, e4, hf⟩ := bnd_some hf
  refine v_copy (pc := 20) F tw_553 acpW dX7_copy_20 (ly_6_1 ho_o1 hk_o1).1 (ly_6_1 ho_o1 hk_o1).2 (ly_6_1 ho_o hk_o).1 (ly_6_1 ho_o hk_o).2 e4 (by decide) (Nat.le_of_ble_eq_true rfl) ?_
  refine v_aload_n (pc := 23) (j := 1) F dX7_copy_23 rfl rfl ?_
  refine v_ifl (pc := 24) F fl_X7_19 dX7_copy_24 ho_o1 hk_o1 fv_6_2 ?_
  refine v_iconst (pc := 27) (v := 0) F dX7_copy_27 ic_0 ?_
  refine v_aload_n (pc := 28) (j := 0) F dX7_copy_28 rfl rfl ?_
  refine v_ifl (pc := 29) F fl_X7_19 dX7_copy_29 ho_o hk_o fv_6_2 ?_
  refine v_iconst (pc := 32) (v := 0) F dX7_copy_32 ic_0 ?_
  refine v_bipush (pc := 33) (v := 8) F dX7_copy_33 bp_8 ?_
  obtain ⟨h5, e6, hf⟩ := bnd_some hf
  refine v_copy (pc := 35) F tw_553 acpW dX7_copy_35 (ly_6_2 ho_o1 hk_o1).1 (ly_6_2 ho_o1 hk_o1).2 (ly_6_2 ho_o hk_o).1 (ly_6_2 ho_o hk_o).2 e6 (by decide) (Nat.le_of_ble_eq_true rfl) ?_
  refine v_aload_n (pc := 38) (j := 1) F dX7_copy_38 rfl rfl ?_
  refine v_ifl (pc := 39) F fl_X7_22 dX7_copy_39 ho_o1 hk_o1 fv_6_3 ?_
  refine v_iconst (pc := 42) (v := 0) F dX7_copy_42 ic_0 ?_
  refine v_aload_n (pc := 43) (j := 0) F dX7_copy_43 rfl rfl ?_
  refine v_ifl (pc := 44) F fl_X7_22 dX7_copy_44 ho_o hk_o fv_6_3 ?_
  refine v_iconst (pc := 47) (v := 0) F dX7_copy_47 ic_0 ?_
  refine v_bipush (pc := 48) (v := 8) F dX7_copy_48 bp_8 ?_
  obtain ⟨h7, e8, hf⟩ := bnd_some hf
  refine v_copy (pc := 50) F tw_553 acpW dX7_copy_50 (ly_6_3 ho_o1 hk_o1).1 (ly_6_3 ho_o1 hk_o1).2 (ly_6_3 ho_o hk_o).1 (ly_6_3 ho_o hk_o).2 e8 (by decide) (Nat.le_of_ble_eq_true rfl) ?_
  exact v_vret (pc := 53) F hr dX7_copy_53 (Option.some.inj hf) (Nat.zero_le _)
def fX3_copy (h : ST) (o : Nat) (o1 : Nat) : Option (ST) :=
  bnd (fX8_copy h (o + 1) (o1 + 1)) fun r1 =>
  bnd (fX0_copy r1 (o + 5) (o1 + 5)) fun r3 =>
  bnd (fX7_copy r3 (o + 167) (o1 + 167)) fun r5 =>
  bnd (acp 3 3 r5 (o1 + 171) (o + 171) 0 0 (Int32.ofNat 3)) fun h7 =>
  some h7
set_option maxRecDepth 100000 in
set_option maxHeartbeats 4000000 in
theorem kX3_copy {l : Launch} {g : GE} {B : Nat} {h : ST} {o : Nat} (ho_o : o < 395) (hk_o : KC o = (2, 0)) {o1 : Nat} (ho_o1 : o1 < 395) (hk_o1 : KC o1 = (2, 0)) {y : ST} (hf : fX3_copy h o o1 = some y) : CT l yX3_copy cX3_copy 2 none 3 KC 395 g B [.ref (gA g o), .ref (gA g o1)] h none y := by
  refine CT.of pn_X3 (Nat.le_of_ble_eq_true rfl) ?_
  intro p e s m below meth c hr F
  have F : Fx p s m _ meth c cX3_copy 2 "DustParish$Present" 395 g B := F
  refine V_lv (lv' := [(0, .ref (gA g o)), (1, .ref (gA g o1))]) rfl ?_
  unfold fX3_copy at hf
  refine v_aload_n (pc := 0) (j := 0) F dX3_copy_0 rfl rfl ?_
  refine v_ifl (pc := 1) F fl_X3_10 dX3_copy_1 ho_o hk_o fv_2_0 ?_
  refine v_aload_n (pc := 4) (j := 1) F dX3_copy_4 rfl rfl ?_
  refine v_ifl (pc := 5) F fl_X3_10 dX3_copy_5 ho_o1 hk_o1 fv_2_0 ?_
  obtain ⟨r1, e2, hf⟩ := bnd_some hf
  refine v_callVv (pc := 8) (As := [.ref (gA g (o1 + 1))]) F cl_X3_43 dX3_copy_8 (kX8_copy (ly_2_0 ho_o hk_o).1 (ly_2_0 ho_o hk_o).2 (ly_2_0 ho_o1 hk_o1).1 (ly_2_0 ho_o1 hk_o1).2 e2) (ly_2_0 ho_o hk_o).1 (ly_2_0 ho_o hk_o).2 rc_7 rfl rfl (Nat.le_of_ble_eq_true rfl) (by decide) (Nat.zero_le _) ?_
  refine v_aload_n (pc := 11) (j := 0) F dX3_copy_11 rfl rfl ?_
  refine v_ifl (pc := 12) F fl_X3_19 dX3_copy_12 ho_o hk_o fv_2_1 ?_
  refine v_aload_n (pc := 15) (j := 1) F dX3_copy_15 rfl rfl ?_
  refine v_ifl (pc := 16) F fl_X3_19 dX3_copy_16 ho_o1 hk_o1 fv_2_1 ?_
  obtain ⟨r3, e4, hf⟩ := bnd_some hf
  refine v_callVv (pc := 19) (As := [.ref (gA g (o1 + 5))]) F cl_X3_47 dX3_copy_19 (kX0_copy (ly_2_1 ho_o hk_o).1 (ly_2_1 ho_o hk_o).2 (ly_2_1 ho_o1 hk_o1).1 (ly_2_1 ho_o1 hk_o1).2 e4) (ly_2_1 ho_o hk_o).1 (ly_2_1 ho_o hk_o).2 rc_0 rfl rfl (Nat.le_of_ble_eq_true rfl) (by decide) (Nat.zero_le _) ?_
  refine v_aload_n (pc := 22) (j := 0) F dX3_copy_22 rfl rfl ?_
  refine v_ifl (pc := 23) F fl_X3_26 dX3_copy_23 ho_o hk_o fv_2_2 ?_
  refine v_aload_n (pc := 26) (j := 1) F dX3_copy_26 rfl rfl ?_
  refine v_ifl (pc := 27) F fl_X3_26 dX3_copy_27 ho_o1 hk_o1 fv_2_2 ?_
  obtain ⟨r5, e6, hf⟩ := bnd_some hf
  refine v_callVv (pc := 30) (As := [.ref (gA g (o1 + 167))]) F cl_X3_50 dX3_copy_30 (kX7_copy (ly_2_2 ho_o hk_o).1 (ly_2_2 ho_o hk_o).2 (ly_2_2 ho_o1 hk_o1).1 (ly_2_2 ho_o1 hk_o1).2 e6) (ly_2_2 ho_o hk_o).1 (ly_2_2 ho_o hk_o).2 rc_6 rfl rfl (Nat.le_of_ble_eq_true rfl) (by decide) (Nat.zero_le _) ?_
  refine v_aload_n (pc := 33) (j := 1) F dX3_copy_33 rfl rfl ?_
  refine v_ifl (pc := 34) F fl_X3_30 dX3_copy_34 ho_o1 hk_o1 fv_2_3 ?_
  refine v_iconst (pc := 37) (v := 0) F dX3_copy_37 ic_0 ?_
  refine v_aload_n (pc := 38) (j := 0) F dX3_copy_38 rfl rfl ?_
  refine v_ifl (pc := 39) F fl_X3_30 dX3_copy_39 ho_o hk_o fv_2_3 ?_
  refine v_iconst (pc := 42) (v := 0) F dX3_copy_42 ic_0 ?_
  refine v_aload_n (pc := 43) (j := 0) F dX3_copy_43 rfl rfl ?_
  refine v_ifl (pc := 44) F fl_X3_30 dX3_copy_44 ho_o hk_o fv_2_3 ?_
  refine v_alen (pc := 47) (v := Int32.ofNat 3) F dX3_copy_47 (ly_2_3 ho_o hk_o).1 (ly_2_3 ho_o hk_o).2 (by decide) (by decide) rfl ?_
  obtain ⟨h7, e8, hf⟩ := bnd_some hf
  refine v_copy (pc := 48) F tw_554 acpW dX3_copy_48 (ly_2_3 ho_o1 hk_o1).1 (ly_2_3 ho_o1 hk_o1).2 (ly_2_3 ho_o hk_o).1 (ly_2_3 ho_o hk_o).2 e8 (by decide) (Nat.le_of_ble_eq_true rfl) ?_
  exact v_vret (pc := 51) F hr dX3_copy_51 (Option.some.inj hf) (Nat.zero_le _)
def fX10_image (h : ST) : Option (ST) :=
  bnd (fX3_copy h 214 42) fun r1 =>
  bnd (pw r1 0 8 1) fun h3 =>
  some h3
set_option maxRecDepth 100000 in
set_option maxHeartbeats 4000000 in
theorem kX10_image {l : Launch} {g : GE} {B : Nat} {h : ST} {y : ST} (hf : fX10_image h = some y) : CT l yX10_image cX10_image 1 none 4 KC 395 g B [.ref (gA g 0)] h none y := by
  refine CT.of pn_X10 (Nat.le_of_ble_eq_true rfl) ?_
  intro p e s m below meth c hr F
  have F : Fx p s m _ meth c cX10_image 1 "DustParish" 395 g B := F
  refine V_lv (lv' := [(0, .ref (gA g 0))]) rfl ?_
  unfold fX10_image at hf
  refine v_aload_n (pc := 0) (j := 0) F dX10_image_0 rfl rfl ?_
  refine v_ifl (pc := 1) F fl_X10_46 dX10_image_1 kc_0.1 kc_0.2 fv_9_7 ?_
  refine v_aload_n (pc := 4) (j := 0) F dX10_image_4 rfl rfl ?_
  refine v_ifl (pc := 5) F fl_X10_42 dX10_image_5 kc_0.1 kc_0.2 fv_9_6 ?_
  obtain ⟨r1, e2, hf⟩ := bnd_some hf
  refine v_callVv (pc := 8) (As := [.ref (gA g 42)]) F cl_X10_349 dX10_image_8 (kX3_copy kc_214.1 kc_214.2 kc_42.1 kc_42.2 e2) kc_214.1 kc_214.2 rc_2 rfl rfl (Nat.le_of_ble_eq_true rfl) (by decide) (Nat.zero_le _) ?_
  refine v_aload_n (pc := 11) (j := 0) F dX10_image_11 rfl rfl ?_
  refine v_iconst (pc := 12) (v := 1) F dX10_image_12 ic_1 ?_
  obtain ⟨h3, e4, hf⟩ := bnd_some hf
  refine v_pfl (pc := 13) F fl_X10_49 pl_9_8 dX10_image_13 kc_0.1 kc_0.2 fv_9_8 rfl rfl e4 ?_
  exact v_vret (pc := 16) F hr dX10_image_16 (Option.some.inj hf) (Nat.zero_le _)
def fX2_hasDoor_2 (h : ST) (o : Nat) (l1 : Int32) (l2 : Int32) (s1 : Int32) : Option (Int32 ⊕ (Unit ⊕ Unit)) :=
  if (h o 5) ≤ s1 then
  some (.inr (.inr ()))
  else
  bnd (fX2_behind h o s1 l1) fun r2 =>
    if r2 = l2 then
    some (.inr (.inl ()))
    else
    some (.inl (s1 + 1))
def fX2_hasDoor (h : ST) (o : Nat) (a1 : Int32) (a2 : Int32) : Option (Int32) :=
  bnd (lp FU (fX2_hasDoor_2 h o a1 a2) 0) fun x5 =>
  sm x5 (fun v => some 1) (fun v => some 0)
set_option maxRecDepth 100000 in
set_option maxHeartbeats 4000000 in
theorem tX2_hasDoor_2 {p : Program} {l : Launch} {e : Env} {s : State} {m : MethodId} {args : Array Value} {below : List Frame} {meth : Method} {c : Code} {g : GE} {B : Nat}  {h : ST} {o : Nat} (ho_o : o < 395) (hk_o : KC o = (1, 0)) {l1 : Int32} {l2 : Int32} {Q : State → Prop} {x : (Unit ⊕ Unit)} {nf : Nat} {s0 : Int32} (F : Fx p s m args meth c cX2_hasDoor 4 "DustParish$Facts" 395 g B) (hX0 : ∀ v : Unit, x = (.inl v) → V p l e 2 0 s m args below meth c Q KC 395 g B 4 0 h 20 [] []) (hX1 : ∀ v : Unit, x = (.inr v) → V p l e 2 0 s m args below meth c Q KC 395 g B 4 0 h 28 [] []) (hl : lp nf (fX2_hasDoor_2 h o l1 l2) s0 = some x) : V p l e 2 0 s m args below meth c Q KC 395 g B 4 0 h 2 [(0, .ref (gA g o)), (1, .int l1), (2, .int l2), (3, .int s0)] [] := by
  refine lp_ind (P := fun s0 => V p l e 2 0 s m args below meth c Q KC 395 g B 4 0 h 2 [(0, .ref (gA g o)), (1, .int l1), (2, .int l2), (3, .int s0)] []) ?_ nf s0 hl
  intro s1 y hf hk hx
  have hx0 : ∀ v : Unit, y = Sum.inr (.inl v) → V p l e 2 0 s m args below meth c Q KC 395 g B 4 0 h 20 [] [] := fun v e9 => hX0 v (hx _ e9).symm
  have hx1 : ∀ v : Unit, y = Sum.inr (.inr v) → V p l e 2 0 s m args below meth c Q KC 395 g B 4 0 h 28 [] [] := fun v e9 => hX1 v (hx _ e9).symm
  unfold fX2_hasDoor_2 at hf
  refine v_iload_n (pc := 2) (j := 3) F dX2_hasDoor_2 rfl rfl ?_
  refine v_aload_n (pc := 3) (j := 0) F dX2_hasDoor_3 rfl rfl ?_
  refine v_ifl (pc := 4) F fl_X2_62 dX2_hasDoor_4 ho_o hk_o fv_1_5 ?_
  refine v_icmp_ge (pc := 7) (tgt := 28) F dX2_hasDoor_7 (by decide) (fun c1 => ?_) (fun c1 => ?_)
  · have hf := ite_t hf c1
    refine V.sub (lv' := []) [] rfl ?_
    exact hx1 () (Option.some.inj hf).symm
  · have hf := ite_f hf c1
    refine v_aload_n (pc := 10) (j := 0) F dX2_hasDoor_10 rfl rfl ?_
    refine v_iload_n (pc := 11) (j := 3) F dX2_hasDoor_11 rfl rfl ?_
    refine v_iload_n (pc := 12) (j := 1) F dX2_hasDoor_12 rfl rfl ?_
    obtain ⟨r2, e3, hf⟩ := bnd_some hf
    refine v_callVi (pc := 13) (As := [.int s1, .int l1]) F cl_X2_94 dX2_hasDoor_13 (kX2_behind ho_o hk_o e3) ho_o hk_o rc_1 rfl rfl (Nat.le_of_ble_eq_true rfl) (by decide) (Nat.zero_le _) ?_
    refine v_iload_n (pc := 16) (j := 2) F dX2_hasDoor_16 rfl rfl ?_
    refine v_icmp_ne (pc := 17) (tgt := 22) F dX2_hasDoor_17 (by decide) (fun c4 => ?_) (fun c4 => ?_)
    · have hf := ite_f hf c4
      refine v_iinc (pc := 22) (j := 3) (v := s1 + 1) (lv' := [(0, .ref (gA g o)), (1, .int l1), (2, .int l2), (3, .int (s1 + 1))]) F dX2_hasDoor_22 rfl (congrArg (fun z => s1 + z) ic_1) (by decide) rfl ?_
      refine v_goto (pc := 25) (tgt := 2) F dX2_hasDoor_25 (by decide) ?_
      exact hk (s1 + 1) (Option.some.inj hf).symm
    · have hf := ite_t hf c4
      refine V.sub (lv' := []) [] rfl ?_
      exact hx0 () (Option.some.inj hf).symm
set_option maxRecDepth 100000 in
set_option maxHeartbeats 4000000 in
theorem kX2_hasDoor {l : Launch} {g : GE} {B : Nat} {h : ST} {o : Nat} (ho_o : o < 395) (hk_o : KC o = (1, 0)) {a1 : Int32} {a2 : Int32} {y : Int32} (hf : fX2_hasDoor h o a1 a2 = some y) : CT l yX2_hasDoor cX2_hasDoor 4 (some .boolean) 2 KC 395 g B [.ref (gA g o), .int a1, .int a2] h (some (.int y)) h := by
  refine CT.of pn_X2 (Nat.le_of_ble_eq_true rfl) ?_
  intro p e s m below meth c hr F
  have F : Fx p s m _ meth c cX2_hasDoor 4 "DustParish$Facts" 395 g B := F
  refine V_lv (lv' := [(0, .ref (gA g o)), (1, .int a1), (2, .int a2)]) rfl ?_
  unfold fX2_hasDoor at hf
  refine v_iconst (pc := 0) (v := 0) F dX2_hasDoor_0 ic_0 ?_
  refine v_istore_n (pc := 1) (lv' := [(0, .ref (gA g o)), (1, .int a1), (2, .int a2), (3, .int 0)]) F dX2_hasDoor_1 rfl (by decide) rfl ?_
  obtain ⟨x5, e6, hf⟩ := bnd_some hf
  refine tX2_hasDoor_2 (s0 := 0) ho_o hk_o F (fun v e9 => ?_) (fun v e9 => ?_) e6
  · subst e9
    have hf := sm_l hf
    refine v_iconst (pc := 20) (v := 1) F dX2_hasDoor_20 ic_1 ?_
    exact v_zret (pc := 21) F hr dX2_hasDoor_21 rfl (Option.some.inj hf) rfl (Nat.zero_le _)
  · subst e9
    have hf := sm_r hf
    refine v_iconst (pc := 28) (v := 0) F dX2_hasDoor_28 ic_0 ?_
    exact v_zret (pc := 29) F hr dX2_hasDoor_29 rfl (Option.some.inj hf) rfl (Nat.zero_le _)
def fX10_lend_83 (h : ST) (l1 : Int32) (l2 : Int32) (l3 : Int32) : Option (Int32 ⊕ (Int32 ⊕ Unit)) :=
  some (.inl (l3 + 1))
def fX10_lend_34 (h : ST) (l1 : Int32) (l2 : Int32) (s1 : Int32) : Option (Int32 ⊕ (Int32 ⊕ Unit)) :=
  bnd (rf KC 395 1 (h 0 3)) fun f8 =>
  if (h f8 0) ≤ s1 then
  some (.inr (.inr ()))
  else
  bnd (rf KC 395 1 (h 0 3)) fun f11 =>
    bnd (fX2_hasDoor h f11 l1 s1) fun r13 =>
    if r13 = 0 then
    fX10_lend_83 h l1 l2 s1
    else
    bnd (rd 9 (h 44) s1) fun v16 =>
      bnd (rf KC 395 1 (h 0 3)) fun f18 =>
      if (v16 - l2) < (h f18 16) then
      fX10_lend_83 h l1 l2 s1
      else
      some (.inr (.inl s1))
def fX10_lend (h : ST) (a1 : Int32) : Option ((Int32 ⊕ Nat)) :=
  bnd (fX10_needRoom h a1) fun r1 =>
  sm r1 (fun _ => bnd (rf KC 395 1 (h 0 3)) fun f3 =>
  bnd (rd 9 (h 44) a1) fun v5 =>
  if 0 < ((h f3 16) - v5) then
  bnd (lp FU (fX10_lend_34 h a1 ((h f3 16) - v5)) 0) fun x21 =>
    sm x21 (fun v => some (.inl v)) (fun v => some (.inl (-1)))
  else
  some (.inl (-1))) (fun r1 => some (.inr r1))
set_option maxRecDepth 100000 in
set_option maxHeartbeats 4000000 in
theorem tX10_lend_83 {p : Program} {l : Launch} {e : Env} {s : State} {m : MethodId} {args : Array Value} {below : List Frame} {meth : Method} {c : Code} {g : GE} {B : Nat} {h : ST}  {l1 : Int32} {l2 : Int32} {l3 : Int32} (F : Fx p s m args meth c cX10_lend 4 "DustParish" 395 g B)
    {Q : State → Prop} {y : Int32 ⊕ (Int32 ⊕ Unit)} (hk : ∀ v : Int32, y = Sum.inl v → V p l e 9 1 s m args below meth c Q KC 395 g B 4 1 h 34 [(0, .ref (gA g 0)), (1, .int l1), (2, .int l2), (3, .int v)] []) (hx0 : ∀ v : Int32, y = Sum.inr (.inl v) → V p l e 9 1 s m args below meth c Q KC 395 g B 4 1 h 81 [(3, .int v)] []) (hx1 : ∀ v : Unit, y = Sum.inr (.inr v) → V p l e 9 1 s m args below meth c Q KC 395 g B 4 1 h 89 [] []) (hf : fX10_lend_83 h l1 l2 l3 = some y) : V p l e 9 1 s m args below meth c Q KC 395 g B 4 1 h 83 [(0, .ref (gA g 0)), (1, .int l1), (2, .int l2), (3, .int l3)] [] := by
  unfold fX10_lend_83 at hf
  refine v_iinc (pc := 83) (j := 3) (v := l3 + 1) (lv' := [(0, .ref (gA g 0)), (1, .int l1), (2, .int l2), (3, .int (l3 + 1))]) F dX10_lend_83 rfl (congrArg (fun z => l3 + z) ic_1) (by decide) rfl ?_
  refine v_goto (pc := 86) (tgt := 34) F dX10_lend_86 (by decide) ?_
  exact hk (l3 + 1) (Option.some.inj hf).symm
set_option maxRecDepth 100000 in
set_option maxHeartbeats 4000000 in
theorem tX10_lend_34 {p : Program} {l : Launch} {e : Env} {s : State} {m : MethodId} {args : Array Value} {below : List Frame} {meth : Method} {c : Code} {g : GE} {B : Nat}  {h : ST}  {l1 : Int32} {l2 : Int32} {Q : State → Prop} {x : (Int32 ⊕ Unit)} {nf : Nat} {s0 : Int32} (F : Fx p s m args meth c cX10_lend 4 "DustParish" 395 g B) (hX0 : ∀ v : Int32, x = (.inl v) → V p l e 9 1 s m args below meth c Q KC 395 g B 4 1 h 81 [(3, .int v)] []) (hX1 : ∀ v : Unit, x = (.inr v) → V p l e 9 1 s m args below meth c Q KC 395 g B 4 1 h 89 [] []) (hl : lp nf (fX10_lend_34 h l1 l2) s0 = some x) : V p l e 9 1 s m args below meth c Q KC 395 g B 4 1 h 34 [(0, .ref (gA g 0)), (1, .int l1), (2, .int l2), (3, .int s0)] [] := by
  refine lp_ind (P := fun s0 => V p l e 9 1 s m args below meth c Q KC 395 g B 4 1 h 34 [(0, .ref (gA g 0)), (1, .int l1), (2, .int l2), (3, .int s0)] []) ?_ nf s0 hl
  intro s1 y hf hk hx
  have hx0 : ∀ v : Int32, y = Sum.inr (.inl v) → V p l e 9 1 s m args below meth c Q KC 395 g B 4 1 h 81 [(3, .int v)] [] := fun v e9 => hX0 v (hx _ e9).symm
  have hx1 : ∀ v : Unit, y = Sum.inr (.inr v) → V p l e 9 1 s m args below meth c Q KC 395 g B 4 1 h 89 [] [] := fun v e9 => hX1 v (hx _ e9).symm
  unfold fX10_lend_34 at hf
  refine v_iload_n (pc := 34) (j := 3) F dX10_lend_34 rfl rfl ?_
  refine v_aload_n (pc := 35) (j := 0) F dX10_lend_35 rfl rfl ?_
  obtain ⟨f8, e9, hf⟩ := bnd_some hf
  obtain ⟨ho_f8, hk_f8, e9⟩ := rf_in e9
  refine v_ifl (pc := 36) F fl_X10_23 dX10_lend_36 kc_0.1 kc_0.2 (fv_9_3 e9) ?_
  refine v_ifl (pc := 39) F fl_X10_104 dX10_lend_39 ho_f8 hk_f8 fv_1_0 ?_
  refine v_icmp_ge (pc := 42) (tgt := 89) F dX10_lend_42 (by decide) (fun c10 => ?_) (fun c10 => ?_)
  · have hf := ite_t hf c10
    refine V.sub (lv' := []) [] rfl ?_
    exact hx1 () (Option.some.inj hf).symm
  · have hf := ite_f hf c10
    refine v_aload_n (pc := 45) (j := 0) F dX10_lend_45 rfl rfl ?_
    obtain ⟨f11, e12, hf⟩ := bnd_some hf
    obtain ⟨ho_f11, hk_f11, e12⟩ := rf_in e12
    refine v_ifl (pc := 46) F fl_X10_23 dX10_lend_46 kc_0.1 kc_0.2 (fv_9_3 e12) ?_
    refine v_iload_n (pc := 49) (j := 1) F dX10_lend_49 rfl rfl ?_
    refine v_iload_n (pc := 50) (j := 3) F dX10_lend_50 rfl rfl ?_
    obtain ⟨r13, e14, hf⟩ := bnd_some hf
    refine v_callVi (pc := 51) (As := [.int l1, .int s1]) F cl_X10_218 dX10_lend_51 (kX2_hasDoor ho_f11 hk_f11 e14) ho_f11 hk_f11 rc_1 rfl rfl (Nat.le_of_ble_eq_true rfl) (by decide) (by decide) ?_
    refine v_if_eq (pc := 54) (tgt := 83) F dX10_lend_54 (by decide) (fun c15 => ?_) (fun c15 => ?_)
    · have hf := ite_t hf c15
      exact tX10_lend_83 F hk hx0 hx1 hf
    · have hf := ite_f hf c15
      refine v_aload_n (pc := 57) (j := 0) F dX10_lend_57 rfl rfl ?_
      refine v_ifl (pc := 58) F fl_X10_42 dX10_lend_58 kc_0.1 kc_0.2 fv_9_6 ?_
      refine v_ifl (pc := 61) F fl_X10_122 dX10_lend_61 kc_42.1 kc_42.2 fv_2_0 ?_
      refine v_ifl (pc := 64) F fl_X10_171 dX10_lend_64 kc_43.1 kc_43.2 fv_7_3 ?_
      refine v_iload_n (pc := 67) (j := 3) F dX10_lend_67 rfl rfl ?_
      obtain ⟨v16, e17, hf⟩ := bnd_some hf
      refine v_iald (pc := 68) F dX10_lend_68 kc_44.1 kc_44.2 e17 ?_
      refine v_iload_n (pc := 69) (j := 2) F dX10_lend_69 rfl rfl ?_
      refine v_isub (pc := 70) F dX10_lend_70 ?_
      refine v_aload_n (pc := 71) (j := 0) F dX10_lend_71 rfl rfl ?_
      obtain ⟨f18, e19, hf⟩ := bnd_some hf
      obtain ⟨ho_f18, hk_f18, e19⟩ := rf_in e19
      refine v_ifl (pc := 72) F fl_X10_23 dX10_lend_72 kc_0.1 kc_0.2 (fv_9_3 e19) ?_
      refine v_ifl (pc := 75) F fl_X10_119 dX10_lend_75 ho_f18 hk_f18 fv_1_16 ?_
      refine v_icmp_lt (pc := 78) (tgt := 83) F dX10_lend_78 (by decide) (fun c20 => ?_) (fun c20 => ?_)
      · have hf := ite_t hf c20
        exact tX10_lend_83 F hk hx0 hx1 hf
      · have hf := ite_f hf c20
        refine V.sub (lv' := [(3, .int s1)]) [3] rfl ?_
        exact hx0 s1 (Option.some.inj hf).symm
set_option maxRecDepth 100000 in
set_option maxHeartbeats 4000000 in
theorem kX10_lend {l : Launch} {g : GE} {B : Nat} {h : ST} {a1 : Int32} {y : (Int32 ⊕ Nat)} (hT : l.stackTraces = false) (hf : fX10_lend h a1 = some y) : XT l yX10_lend cX10_lend 4 (some .int) 9 1 KC 395 g B [.ref (gA g 0), .int a1] h (ocI y) h := by
  refine XT.of pn_X10 (Nat.le_of_ble_eq_true rfl) ?_
  intro p e s m below meth c hr hex F
  have F : Fx p s m _ meth c cX10_lend 4 "DustParish" 395 g B := F
  refine V_lv (lv' := [(0, .ref (gA g 0)), (1, .int a1)]) rfl ?_
  unfold fX10_lend at hf
  refine v_aload_n (pc := 0) (j := 0) F dX10_lend_0 rfl rfl ?_
  refine v_iload_n (pc := 1) (j := 1) F dX10_lend_1 rfl rfl ?_
  obtain ⟨r1, e2, hf⟩ := bnd_some hf
  rcases r1 with v9 | r1
  · have hf := sm_l hf
    refine v_xcallV (pc := 2) (As := [.int a1]) F cl_X10_162 dX10_lend_2 (kX10_needRoom hT e2) kc_0.1 kc_0.2 rc_9 rfl rfl (Nat.le_of_ble_eq_true rfl) (by decide) (by decide) ?_
    refine v_aload_n (pc := 5) (j := 0) F dX10_lend_5 rfl rfl ?_
    obtain ⟨f3, e4, hf⟩ := bnd_some hf
    obtain ⟨ho_f3, hk_f3, e4⟩ := rf_in e4
    refine v_ifl (pc := 6) F fl_X10_23 dX10_lend_6 kc_0.1 kc_0.2 (fv_9_3 e4) ?_
    refine v_ifl (pc := 9) F fl_X10_119 dX10_lend_9 ho_f3 hk_f3 fv_1_16 ?_
    refine v_aload_n (pc := 12) (j := 0) F dX10_lend_12 rfl rfl ?_
    refine v_ifl (pc := 13) F fl_X10_42 dX10_lend_13 kc_0.1 kc_0.2 fv_9_6 ?_
    refine v_ifl (pc := 16) F fl_X10_122 dX10_lend_16 kc_42.1 kc_42.2 fv_2_0 ?_
    refine v_ifl (pc := 19) F fl_X10_171 dX10_lend_19 kc_43.1 kc_43.2 fv_7_3 ?_
    refine v_iload_n (pc := 22) (j := 1) F dX10_lend_22 rfl rfl ?_
    obtain ⟨v5, e6, hf⟩ := bnd_some hf
    refine v_iald (pc := 23) F dX10_lend_23 kc_44.1 kc_44.2 e6 ?_
    refine v_isub (pc := 24) F dX10_lend_24 ?_
    refine v_istore_n (pc := 25) (lv' := [(0, .ref (gA g 0)), (1, .int a1), (2, .int ((h f3 16) - v5))]) F dX10_lend_25 rfl (by decide) rfl ?_
    refine v_iload_n (pc := 26) (j := 2) F dX10_lend_26 rfl rfl ?_
    refine v_if_gt (pc := 27) (tgt := 32) F dX10_lend_27 (by decide) (fun c7 => ?_) (fun c7 => ?_)
    · have hf := ite_t hf c7
      refine v_iconst (pc := 32) (v := 0) F dX10_lend_32 ic_0 ?_
      refine v_istore_n (pc := 33) (lv' := [(0, .ref (gA g 0)), (1, .int a1), (2, .int ((h f3 16) - v5)), (3, .int 0)]) F dX10_lend_33 rfl (by decide) rfl ?_
      obtain ⟨x21, e22, hf⟩ := bnd_some hf
      refine tX10_lend_34 (s0 := 0) F (fun v e9 => ?_) (fun v e9 => ?_) e22
      · subst e9
        have hf := sm_l hf
        refine v_iload_n (pc := 81) (j := 0) F dX10_lend_81 rfl rfl ?_
        exact v_xiret (pc := 82) F hr dX10_lend_82 (Option.some.inj hf) rfl (by decide)
      · subst e9
        have hf := sm_r hf
        refine v_iconst (pc := 89) (v := (-1)) F dX10_lend_89 ic_m1 ?_
        exact v_xiret (pc := 90) F hr dX10_lend_90 (Option.some.inj hf) rfl (by decide)
    · have hf := ite_f hf c7
      refine v_iconst (pc := 30) (v := (-1)) F dX10_lend_30 ic_m1 ?_
      exact v_xiret (pc := 31) F hr dX10_lend_31 (Option.some.inj hf) rfl (by decide)
  · have hf := sm_r hf
    exact v_xcallX (pc := 2) (As := [.int a1]) F cl_X10_162 dX10_lend_2 (kX10_needRoom hT e2) kc_0.1 kc_0.2 rc_9 rfl rfl (Nat.le_of_ble_eq_true rfl) (by decide) (by decide) hex (congrArg ocI (Option.some.inj hf)) rfl
def fX10_lost_13 (h : ST) (l1 : Int32) (s1 : (Int32 × Int32)) : Option ((Int32 × Int32) ⊕ Int32) :=
  bnd (rf KC 395 1 (h 0 3)) fun f5 =>
  if (h f5 0) ≤ s1.2 then
  some (.inr s1.1)
  else
  bnd (rf KC 395 1 (h 0 3)) fun f8 =>
    bnd (fX2_comesTo h f8 s1.2) fun r10 =>
    some (.inl (s1.1 + (r10 * l1), s1.2 + 1))
def fX10_lost (h : ST) (a1 : Int32) : Option ((Int32 ⊕ Nat) × ST) :=
  bnd (fX10_needAhead h a1) fun r1 =>
  sm r1 (fun _ => bnd (fX10_tryDays h a1) fun r3 =>
  bnd (lp FU (fX10_lost_13 r3 a1) (0, 0)) fun x12 =>
  bnd (rf KC 395 1 (r3 0 3)) fun f14 =>
  bnd (fX1_dustInAll r3 f14 386) fun r16 =>
  bnd (rf KC 395 1 (r3 0 3)) fun f18 =>
  bnd (fX1_dustInAll r3 f18 43) fun r20 =>
  some (.inl ((x12 - (r16 - r20)) - ((r3 386 1) - (r3 43 1))), r3)) (fun r1 => some (.inr r1, h))
set_option maxRecDepth 100000 in
set_option maxHeartbeats 4000000 in
theorem tX10_lost_13 {p : Program} {l : Launch} {e : Env} {s : State} {m : MethodId} {args : Array Value} {below : List Frame} {meth : Method} {c : Code} {g : GE} {B : Nat}  {h : ST}  {l1 : Int32} {Q : State → Prop} {x : Int32} {nf : Nat} {s0 : (Int32 × Int32)} (F : Fx p s m args meth c cX10_lost 4 "DustParish" 395 g B) (hX0 : V p l e 9 1 s m args below meth c Q KC 395 g B 4 1 h 43 [(0, .ref (gA g 0)), (2, .int x)] []) (hl : lp nf (fX10_lost_13 h l1) s0 = some x) : V p l e 9 1 s m args below meth c Q KC 395 g B 4 1 h 13 [(0, .ref (gA g 0)), (1, .int l1), (2, .int s0.1), (3, .int s0.2)] [] := by
  refine lp_ind (P := fun s0 => V p l e 9 1 s m args below meth c Q KC 395 g B 4 1 h 13 [(0, .ref (gA g 0)), (1, .int l1), (2, .int s0.1), (3, .int s0.2)] []) ?_ nf s0 hl
  intro s1 y hf hk hx
  have hx0 : ∀ v : Int32, y = Sum.inr v → V p l e 9 1 s m args below meth c Q KC 395 g B 4 1 h 43 [(0, .ref (gA g 0)), (2, .int v)] [] := fun v e9 => by rw [hx v e9]; exact hX0
  unfold fX10_lost_13 at hf
  refine v_iload_n (pc := 13) (j := 3) F dX10_lost_13 rfl rfl ?_
  refine v_aload_n (pc := 14) (j := 0) F dX10_lost_14 rfl rfl ?_
  obtain ⟨f5, e6, hf⟩ := bnd_some hf
  obtain ⟨ho_f5, hk_f5, e6⟩ := rf_in e6
  refine v_ifl (pc := 15) F fl_X10_23 dX10_lost_15 kc_0.1 kc_0.2 (fv_9_3 e6) ?_
  refine v_ifl (pc := 18) F fl_X10_104 dX10_lost_18 ho_f5 hk_f5 fv_1_0 ?_
  refine v_icmp_ge (pc := 21) (tgt := 43) F dX10_lost_21 (by decide) (fun c7 => ?_) (fun c7 => ?_)
  · have hf := ite_t hf c7
    refine V.sub (lv' := [(0, .ref (gA g 0)), (2, .int s1.1)]) [0, 2] rfl ?_
    exact hx0 s1.1 (Option.some.inj hf).symm
  · have hf := ite_f hf c7
    refine v_iload_n (pc := 24) (j := 2) F dX10_lost_24 rfl rfl ?_
    refine v_aload_n (pc := 25) (j := 0) F dX10_lost_25 rfl rfl ?_
    obtain ⟨f8, e9, hf⟩ := bnd_some hf
    obtain ⟨ho_f8, hk_f8, e9⟩ := rf_in e9
    refine v_ifl (pc := 26) F fl_X10_23 dX10_lost_26 kc_0.1 kc_0.2 (fv_9_3 e9) ?_
    refine v_iload_n (pc := 29) (j := 3) F dX10_lost_29 rfl rfl ?_
    obtain ⟨r10, e11, hf⟩ := bnd_some hf
    refine v_callVi (pc := 30) (As := [.int s1.2]) F cl_X10_251 dX10_lost_30 (kX2_comesTo ho_f8 hk_f8 e11) ho_f8 hk_f8 rc_1 rfl rfl (Nat.le_of_ble_eq_true rfl) (by decide) (by decide) ?_
    refine v_iload_n (pc := 33) (j := 1) F dX10_lost_33 rfl rfl ?_
    refine v_imul (pc := 34) F dX10_lost_34 ?_
    refine v_iadd (pc := 35) F dX10_lost_35 ?_
    refine v_istore_n (pc := 36) (lv' := [(0, .ref (gA g 0)), (1, .int l1), (2, .int (s1.1 + (r10 * l1))), (3, .int s1.2)]) F dX10_lost_36 rfl (by decide) rfl ?_
    refine v_iinc (pc := 37) (j := 3) (v := s1.2 + 1) (lv' := [(0, .ref (gA g 0)), (1, .int l1), (2, .int (s1.1 + (r10 * l1))), (3, .int (s1.2 + 1))]) F dX10_lost_37 rfl (congrArg (fun z => s1.2 + z) ic_1) (by decide) rfl ?_
    refine v_goto (pc := 40) (tgt := 13) F dX10_lost_40 (by decide) ?_
    exact hk (s1.1 + (r10 * l1), s1.2 + 1) (Option.some.inj hf).symm
set_option maxRecDepth 100000 in
set_option maxHeartbeats 4000000 in
theorem kX10_lost {l : Launch} {g : GE} {B : Nat} {h : ST} {a1 : Int32} {y : (Int32 ⊕ Nat) × ST} (hT : l.stackTraces = false) (hf : fX10_lost h a1 = some y) : XT l yX10_lost cX10_lost 4 (some .int) 9 1 KC 395 g B [.ref (gA g 0), .int a1] h (ocI y.1) y.2 := by
  refine XT.of pn_X10 (Nat.le_of_ble_eq_true rfl) ?_
  intro p e s m below meth c hr hex F
  have F : Fx p s m _ meth c cX10_lost 4 "DustParish" 395 g B := F
  refine V_lv (lv' := [(0, .ref (gA g 0)), (1, .int a1)]) rfl ?_
  unfold fX10_lost at hf
  refine v_iload_n (pc := 0) (j := 1) F dX10_lost_0 rfl rfl ?_
  obtain ⟨r1, e2, hf⟩ := bnd_some hf
  rcases r1 with v9 | r1
  · have hf := sm_l hf
    refine v_xcallS (pc := 1) (As := [.int a1]) F cl_X10_235 dX10_lost_1 (kX10_needAhead hT e2) rfl rfl (Nat.le_of_ble_eq_true rfl) (by decide) (by decide) ?_
    refine v_aload_n (pc := 4) (j := 0) F dX10_lost_4 rfl rfl ?_
    refine v_iload_n (pc := 5) (j := 1) F dX10_lost_5 rfl rfl ?_
    obtain ⟨r3, e4, hf⟩ := bnd_some hf
    refine v_callVv (pc := 6) (As := [.int a1]) F cl_X10_238 dX10_lost_6 (kX10_tryDays e4) kc_0.1 kc_0.2 rc_9 rfl rfl (Nat.le_of_ble_eq_true rfl) (by decide) (by decide) ?_
    refine v_iconst (pc := 9) (v := 0) F dX10_lost_9 ic_0 ?_
    refine v_istore_n (pc := 10) (lv' := [(0, .ref (gA g 0)), (1, .int a1), (2, .int 0)]) F dX10_lost_10 rfl (by decide) rfl ?_
    refine v_iconst (pc := 11) (v := 0) F dX10_lost_11 ic_0 ?_
    refine v_istore_n (pc := 12) (lv' := [(0, .ref (gA g 0)), (1, .int a1), (2, .int 0), (3, .int 0)]) F dX10_lost_12 rfl (by decide) rfl ?_
    obtain ⟨x12, e13, hf⟩ := bnd_some hf
    refine tX10_lost_13 (s0 := (0, 0)) F ?_ e13
    refine v_aload_n (pc := 43) (j := 0) F dX10_lost_43 rfl rfl ?_
    obtain ⟨f14, e15, hf⟩ := bnd_some hf
    obtain ⟨ho_f14, hk_f14, e15⟩ := rf_in e15
    refine v_ifl (pc := 44) F fl_X10_23 dX10_lost_44 kc_0.1 kc_0.2 (fv_9_3 e15) ?_
    refine v_aload_n (pc := 47) (j := 0) F dX10_lost_47 rfl rfl ?_
    refine v_ifl (pc := 48) F fl_X10_56 dX10_lost_48 kc_0.1 kc_0.2 fv_9_9 ?_
    obtain ⟨r16, e17, hf⟩ := bnd_some hf
    refine v_callSi (pc := 51) (As := [.ref (gA g f14), .ref (gA g 386)]) F cl_X10_128 dX10_lost_51 (kX1_dustInAll ho_f14 hk_f14 kc_386.1 kc_386.2 e17) rfl rfl (Nat.le_of_ble_eq_true rfl) (by decide) (by decide) ?_
    refine v_aload_n (pc := 54) (j := 0) F dX10_lost_54 rfl rfl ?_
    obtain ⟨f18, e19, hf⟩ := bnd_some hf
    obtain ⟨ho_f18, hk_f18, e19⟩ := rf_in e19
    refine v_ifl (pc := 55) F fl_X10_23 dX10_lost_55 kc_0.1 kc_0.2 (fv_9_3 e19) ?_
    refine v_aload_n (pc := 58) (j := 0) F dX10_lost_58 rfl rfl ?_
    refine v_ifl (pc := 59) F fl_X10_42 dX10_lost_59 kc_0.1 kc_0.2 fv_9_6 ?_
    refine v_ifl (pc := 62) F fl_X10_122 dX10_lost_62 kc_42.1 kc_42.2 fv_2_0 ?_
    obtain ⟨r20, e21, hf⟩ := bnd_some hf
    refine v_callSi (pc := 65) (As := [.ref (gA g f18), .ref (gA g 43)]) F cl_X10_128 dX10_lost_65 (kX1_dustInAll ho_f18 hk_f18 kc_43.1 kc_43.2 e21) rfl rfl (Nat.le_of_ble_eq_true rfl) (by decide) (by decide) ?_
    refine v_isub (pc := 68) F dX10_lost_68 ?_
    refine v_istore_n (pc := 69) (lv' := [(0, .ref (gA g 0)), (2, .int x12), (3, .int (r16 - r20))]) F dX10_lost_69 rfl (by decide) rfl ?_
    refine v_iload_n (pc := 70) (j := 1) F dX10_lost_70 rfl rfl ?_
    refine v_iload_n (pc := 71) (j := 2) F dX10_lost_71 rfl rfl ?_
    refine v_isub (pc := 72) F dX10_lost_72 ?_
    refine v_aload_n (pc := 73) (j := 0) F dX10_lost_73 rfl rfl ?_
    refine v_ifl (pc := 74) F fl_X10_56 dX10_lost_74 kc_0.1 kc_0.2 fv_9_9 ?_
    refine v_ifl (pc := 77) F fl_X10_134 dX10_lost_77 kc_386.1 kc_386.2 fv_7_1 ?_
    refine v_aload_n (pc := 80) (j := 0) F dX10_lost_80 rfl rfl ?_
    refine v_ifl (pc := 81) F fl_X10_42 dX10_lost_81 kc_0.1 kc_0.2 fv_9_6 ?_
    refine v_ifl (pc := 84) F fl_X10_122 dX10_lost_84 kc_42.1 kc_42.2 fv_2_0 ?_
    refine v_ifl (pc := 87) F fl_X10_134 dX10_lost_87 kc_43.1 kc_43.2 fv_7_1 ?_
    refine v_isub (pc := 90) F dX10_lost_90 ?_
    refine v_isub (pc := 91) F dX10_lost_91 ?_
    exact v_xiret (pc := 92) F hr dX10_lost_92 (some_fst hf) (some_snd hf) (by decide)
  · have hf := sm_r hf
    exact v_xcallSX (pc := 1) (As := [.int a1]) F cl_X10_235 dX10_lost_1 (kX10_needAhead hT e2) rfl rfl (Nat.le_of_ble_eq_true rfl) (by decide) (by decide) hex (congrArg ocI (some_fst hf)) (some_snd hf)
def fX10_near_53 (h : ST) (l1 : Int32) (l2 : Int32) (l3 : Int32) (l4 : Int32) : Option ((Int32 × Int32) ⊕ Int32) :=
  some (.inl (l3, l4 + 1))
def fX10_near_10 (h : ST) (l1 : Int32) (l2 : Int32) (s1 : (Int32 × Int32)) : Option ((Int32 × Int32) ⊕ Int32) :=
  bnd (rf KC 395 1 (h 0 3)) fun f3 =>
  if (h f3 0) ≤ s1.2 then
  some (.inr s1.1)
  else
  bnd (rf KC 395 1 (h 0 3)) fun f6 =>
    bnd (fX2_wayFrom h f6 l1 s1.2) fun r8 =>
    if r8 = (-1) then
    fX10_near_53 h l1 l2 s1.1 s1.2
    else
    if l2 < r8 then
      fX10_near_53 h l1 l2 s1.1 s1.2
      else
      fX10_near_53 h l1 l2 (s1.1 ||| ((1 : Int32) <<< (s1.2 &&& 31))) s1.2
def fX10_near (h : ST) (a1 : Int32) (a2 : Int32) : Option ((Int32 ⊕ Nat)) :=
  bnd (fX10_needRoom h a1) fun r1 =>
  sm r1 (fun _ => bnd (lp FU (fX10_near_10 h a1 a2) (0, 0)) fun x12 =>
  some (.inl x12)) (fun r1 => some (.inr r1))
set_option maxRecDepth 100000 in
set_option maxHeartbeats 4000000 in
theorem tX10_near_53 {p : Program} {l : Launch} {e : Env} {s : State} {m : MethodId} {args : Array Value} {below : List Frame} {meth : Method} {c : Code} {g : GE} {B : Nat} {h : ST}  {l1 : Int32} {l2 : Int32} {l3 : Int32} {l4 : Int32} (F : Fx p s m args meth c cX10_near 6 "DustParish" 395 g B)
    {Q : State → Prop} {y : (Int32 × Int32) ⊕ Int32} (hk : ∀ v : (Int32 × Int32), y = Sum.inl v → V p l e 9 1 s m args below meth c Q KC 395 g B 6 1 h 10 [(0, .ref (gA g 0)), (1, .int l1), (2, .int l2), (3, .int v.1), (4, .int v.2)] []) (hx0 : ∀ v : Int32, y = Sum.inr v → V p l e 9 1 s m args below meth c Q KC 395 g B 6 1 h 59 [(3, .int v)] []) (hf : fX10_near_53 h l1 l2 l3 l4 = some y) : V p l e 9 1 s m args below meth c Q KC 395 g B 6 1 h 53 [(0, .ref (gA g 0)), (1, .int l1), (2, .int l2), (3, .int l3), (4, .int l4)] [] := by
  unfold fX10_near_53 at hf
  refine v_iinc (pc := 53) (j := 4) (v := l4 + 1) (lv' := [(0, .ref (gA g 0)), (1, .int l1), (2, .int l2), (3, .int l3), (4, .int (l4 + 1))]) F dX10_near_53 rfl (congrArg (fun z => l4 + z) ic_1) (by decide) rfl ?_
  refine v_goto (pc := 56) (tgt := 10) F dX10_near_56 (by decide) ?_
  exact hk (l3, l4 + 1) (Option.some.inj hf).symm
set_option maxRecDepth 100000 in
set_option maxHeartbeats 4000000 in
theorem tX10_near_10 {p : Program} {l : Launch} {e : Env} {s : State} {m : MethodId} {args : Array Value} {below : List Frame} {meth : Method} {c : Code} {g : GE} {B : Nat}  {h : ST}  {l1 : Int32} {l2 : Int32} {Q : State → Prop} {x : Int32} {nf : Nat} {s0 : (Int32 × Int32)} (F : Fx p s m args meth c cX10_near 6 "DustParish" 395 g B) (hX0 : V p l e 9 1 s m args below meth c Q KC 395 g B 6 1 h 59 [(3, .int x)] []) (hl : lp nf (fX10_near_10 h l1 l2) s0 = some x) : V p l e 9 1 s m args below meth c Q KC 395 g B 6 1 h 10 [(0, .ref (gA g 0)), (1, .int l1), (2, .int l2), (3, .int s0.1), (4, .int s0.2)] [] := by
  refine lp_ind (P := fun s0 => V p l e 9 1 s m args below meth c Q KC 395 g B 6 1 h 10 [(0, .ref (gA g 0)), (1, .int l1), (2, .int l2), (3, .int s0.1), (4, .int s0.2)] []) ?_ nf s0 hl
  intro s1 y hf hk hx
  have hx0 : ∀ v : Int32, y = Sum.inr v → V p l e 9 1 s m args below meth c Q KC 395 g B 6 1 h 59 [(3, .int v)] [] := fun v e9 => by rw [hx v e9]; exact hX0
  unfold fX10_near_10 at hf
  refine v_iload (pc := 10) (j := 4) F dX10_near_10 rfl ?_
  refine v_aload_n (pc := 12) (j := 0) F dX10_near_12 rfl rfl ?_
  obtain ⟨f3, e4, hf⟩ := bnd_some hf
  obtain ⟨ho_f3, hk_f3, e4⟩ := rf_in e4
  refine v_ifl (pc := 13) F fl_X10_23 dX10_near_13 kc_0.1 kc_0.2 (fv_9_3 e4) ?_
  refine v_ifl (pc := 16) F fl_X10_104 dX10_near_16 ho_f3 hk_f3 fv_1_0 ?_
  refine v_icmp_ge (pc := 19) (tgt := 59) F dX10_near_19 (by decide) (fun c5 => ?_) (fun c5 => ?_)
  · have hf := ite_t hf c5
    refine V.sub (lv' := [(3, .int s1.1)]) [3] rfl ?_
    exact hx0 s1.1 (Option.some.inj hf).symm
  · have hf := ite_f hf c5
    refine v_aload_n (pc := 22) (j := 0) F dX10_near_22 rfl rfl ?_
    obtain ⟨f6, e7, hf⟩ := bnd_some hf
    obtain ⟨ho_f6, hk_f6, e7⟩ := rf_in e7
    refine v_ifl (pc := 23) F fl_X10_23 dX10_near_23 kc_0.1 kc_0.2 (fv_9_3 e7) ?_
    refine v_iload_n (pc := 26) (j := 1) F dX10_near_26 rfl rfl ?_
    refine v_iload (pc := 27) (j := 4) F dX10_near_27 rfl ?_
    obtain ⟨r8, e9, hf⟩ := bnd_some hf
    refine v_callVi (pc := 29) (As := [.int l1, .int s1.2]) F cl_X10_188 dX10_near_29 (kX2_wayFrom ho_f6 hk_f6 e9) ho_f6 hk_f6 rc_1 rfl rfl (Nat.le_of_ble_eq_true rfl) (by decide) (by decide) ?_
    refine v_istore (pc := 32) (lv' := [(0, .ref (gA g 0)), (1, .int l1), (2, .int l2), (3, .int s1.1), (4, .int s1.2), (5, .int r8)]) F dX10_near_32 (by decide) rfl ?_
    refine v_iload (pc := 34) (j := 5) F dX10_near_34 rfl ?_
    refine v_iconst (pc := 36) (v := (-1)) F dX10_near_36 ic_m1 ?_
    refine v_icmp_eq (pc := 37) (tgt := 53) F dX10_near_37 (by decide) (fun c10 => ?_) (fun c10 => ?_)
    · have hf := ite_t hf c10
      refine V.sub (lv' := [(0, .ref (gA g 0)), (1, .int l1), (2, .int l2), (3, .int s1.1), (4, .int s1.2)]) [0, 1, 2, 3, 4] rfl ?_
      exact tX10_near_53 F hk hx0 hf
    · have hf := ite_f hf c10
      refine v_iload (pc := 40) (j := 5) F dX10_near_40 rfl ?_
      refine v_iload_n (pc := 42) (j := 2) F dX10_near_42 rfl rfl ?_
      refine v_icmp_gt (pc := 43) (tgt := 53) F dX10_near_43 (by decide) (fun c11 => ?_) (fun c11 => ?_)
      · have hf := ite_t hf c11
        refine V.sub (lv' := [(0, .ref (gA g 0)), (1, .int l1), (2, .int l2), (3, .int s1.1), (4, .int s1.2)]) [0, 1, 2, 3, 4] rfl ?_
        exact tX10_near_53 F hk hx0 hf
      · have hf := ite_f hf c11
        refine v_iload_n (pc := 46) (j := 3) F dX10_near_46 rfl rfl ?_
        refine v_iconst (pc := 47) (v := 1) F dX10_near_47 ic_1 ?_
        refine v_iload (pc := 48) (j := 4) F dX10_near_48 rfl ?_
        refine v_ishl (pc := 50) F dX10_near_50 ?_
        refine v_ior (pc := 51) F dX10_near_51 ?_
        refine v_istore_n (pc := 52) (lv' := [(0, .ref (gA g 0)), (1, .int l1), (2, .int l2), (3, .int (s1.1 ||| ((1 : Int32) <<< (s1.2 &&& 31)))), (4, .int s1.2), (5, .int r8)]) F dX10_near_52 rfl (by decide) rfl ?_
        refine V.sub (lv' := [(0, .ref (gA g 0)), (1, .int l1), (2, .int l2), (3, .int (s1.1 ||| ((1 : Int32) <<< (s1.2 &&& 31)))), (4, .int s1.2)]) [0, 1, 2, 3, 4] rfl ?_
        exact tX10_near_53 F hk hx0 hf
set_option maxRecDepth 100000 in
set_option maxHeartbeats 4000000 in
theorem kX10_near {l : Launch} {g : GE} {B : Nat} {h : ST} {a1 : Int32} {a2 : Int32} {y : (Int32 ⊕ Nat)} (hT : l.stackTraces = false) (hf : fX10_near h a1 a2 = some y) : XT l yX10_near cX10_near 6 (some .int) 9 1 KC 395 g B [.ref (gA g 0), .int a1, .int a2] h (ocI y) h := by
  refine XT.of pn_X10 (Nat.le_of_ble_eq_true rfl) ?_
  intro p e s m below meth c hr hex F
  have F : Fx p s m _ meth c cX10_near 6 "DustParish" 395 g B := F
  refine V_lv (lv' := [(0, .ref (gA g 0)), (1, .int a1), (2, .int a2)]) rfl ?_
  unfold fX10_near at hf
  refine v_aload_n (pc := 0) (j := 0) F dX10_near_0 rfl rfl ?_
  refine v_iload_n (pc := 1) (j := 1) F dX10_near_1 rfl rfl ?_
  obtain ⟨r1, e2, hf⟩ := bnd_some hf
  rcases r1 with v9 | r1
  · have hf := sm_l hf
    refine v_xcallV (pc := 2) (As := [.int a1]) F cl_X10_162 dX10_near_2 (kX10_needRoom hT e2) kc_0.1 kc_0.2 rc_9 rfl rfl (Nat.le_of_ble_eq_true rfl) (by decide) (by decide) ?_
    refine v_iconst (pc := 5) (v := 0) F dX10_near_5 ic_0 ?_
    refine v_istore_n (pc := 6) (lv' := [(0, .ref (gA g 0)), (1, .int a1), (2, .int a2), (3, .int 0)]) F dX10_near_6 rfl (by decide) rfl ?_
    refine v_iconst (pc := 7) (v := 0) F dX10_near_7 ic_0 ?_
    refine v_istore (pc := 8) (lv' := [(0, .ref (gA g 0)), (1, .int a1), (2, .int a2), (3, .int 0), (4, .int 0)]) F dX10_near_8 (by decide) rfl ?_
    obtain ⟨x12, e13, hf⟩ := bnd_some hf
    refine tX10_near_10 (s0 := (0, 0)) F ?_ e13
    refine v_iload_n (pc := 59) (j := 0) F dX10_near_59 rfl rfl ?_
    exact v_xiret (pc := 60) F hr dX10_near_60 (Option.some.inj hf) rfl (by decide)
  · have hf := sm_r hf
    exact v_xcallX (pc := 2) (As := [.int a1]) F cl_X10_162 dX10_near_2 (kX10_needRoom hT e2) kc_0.1 kc_0.2 rc_9 rfl rfl (Nat.le_of_ble_eq_true rfl) (by decide) (by decide) hex (congrArg ocI (Option.some.inj hf)) rfl
def fX10_nextSeed (h : ST) (a1 : Int32) : Option (Int32) :=
  some ((a1 * 1103515245) + 12345)
set_option maxRecDepth 100000 in
set_option maxHeartbeats 4000000 in
theorem kX10_nextSeed {l : Launch} {g : GE} {B : Nat} {h : ST} {a1 : Int32} {y : Int32} (hf : fX10_nextSeed h a1 = some y) : CT l yX10_nextSeed cX10_nextSeed 1 (some .int) 1 KC 395 g B [.int a1] h (some (.int y)) h := by
  refine CT.of pn_X10 (Nat.le_of_ble_eq_true rfl) ?_
  intro p e s m below meth c hr F
  have F : Fx p s m _ meth c cX10_nextSeed 1 "DustParish" 395 g B := F
  refine V_lv (lv' := [(0, .int a1)]) rfl ?_
  unfold fX10_nextSeed at hf
  refine v_iload_n (pc := 0) (j := 0) F dX10_nextSeed_0 rfl rfl ?_
  refine v_ldcw (pc := 1) F tw_1236 dX10_nextSeed_1 ?_
  refine v_imul (pc := 4) F dX10_nextSeed_4 ?_
  refine v_sipush (pc := 5) (v := 12345) F dX10_nextSeed_5 sp_12345 ?_
  refine v_iadd (pc := 8) F dX10_nextSeed_8 ?_
  exact v_iret (pc := 9) F hr dX10_nextSeed_9 (Option.some.inj hf) rfl (Nat.zero_le _)
def fX10_often_35 (l1 : Int32) (l2 : Int32) (l3 : Int32) (l4 : Int32) (s1 : (ST × Int32)) : Option ((ST × Int32) ⊕ ST) :=
  if l1 ≤ s1.2 then
  some (.inr s1.1)
  else
  bnd (rf KC 395 1 (s1.1 0 3)) fun f7 =>
    bnd (rf KC 395 1 (s1.1 0 3)) fun f9 =>
    bnd (fX1_windOf s1.1 f9 386 (s1.1 386 0)) fun r11 =>
    bnd (fX1_pass s1.1 f7 386 r11 l4) fun r13 =>
    some (.inl (r13, s1.2 + 1))
def fX10_often_100 (h : ST) (l1 : Int32) (l2 : Int32) (l3 : Int32) (l4 : Int32) : Option ((ST × Int32 × Int32 × Int32) ⊕ (ST × Int32)) :=
  some (.inl (h, l2, l3, l4 + 1))
def fX10_often_11 (l1 : Int32) (s1 : (ST × Int32 × Int32 × Int32)) : Option ((ST × Int32 × Int32 × Int32) ⊕ (ST × Int32)) :=
  if 30 < s1.2.2.2 then
  some (.inr (s1.1, s1.2.1))
  else
  bnd (fX8_copy s1.1 386 43) fun r4 =>
    bnd (lp FU (fX10_often_35 l1 s1.2.1 s1.2.2.1 s1.2.2.2) (r4, 0)) fun x15 =>
    if (x15 386 1) ≤ s1.2.2.1 then
    fX10_often_100 x15 l1 s1.2.1 s1.2.2.1 s1.2.2.2
    else
    fX10_often_100 x15 l1 s1.2.2.2 (x15 386 1) s1.2.2.2
def fX10_often (h : ST) (a1 : Int32) : Option ((Int32 ⊕ Nat) × ST) :=
  bnd (fX10_needAhead h a1) fun r1 =>
  sm r1 (fun _ => bnd (lp FU (fX10_often_11 a1) (h, 1, (-1), 1)) fun x18 =>
  some (.inl x18.2, x18.1)) (fun r1 => some (.inr r1, h))
set_option maxRecDepth 100000 in
set_option maxHeartbeats 4000000 in
theorem tX10_often_35 {p : Program} {l : Launch} {e : Env} {s : State} {m : MethodId} {args : Array Value} {below : List Frame} {meth : Method} {c : Code} {g : GE} {B : Nat}   {l1 : Int32} {l2 : Int32} {l3 : Int32} {l4 : Int32} {Q : State → Prop} {x : ST} {nf : Nat} {s0 : (ST × Int32)} (F : Fx p s m args meth c cX10_often 6 "DustParish" 395 g B) (hX0 : V p l e 9 1 s m args below meth c Q KC 395 g B 6 1 x 78 [(0, .ref (gA g 0)), (1, .int l1), (2, .int l2), (3, .int l3), (4, .int l4)] []) (hl : lp nf (fX10_often_35 l1 l2 l3 l4) s0 = some x) : V p l e 9 1 s m args below meth c Q KC 395 g B 6 1 s0.1 35 [(0, .ref (gA g 0)), (1, .int l1), (2, .int l2), (3, .int l3), (4, .int l4), (5, .int s0.2)] [] := by
  refine lp_ind (P := fun s0 => V p l e 9 1 s m args below meth c Q KC 395 g B 6 1 s0.1 35 [(0, .ref (gA g 0)), (1, .int l1), (2, .int l2), (3, .int l3), (4, .int l4), (5, .int s0.2)] []) ?_ nf s0 hl
  intro s1 y hf hk hx
  have hx0 : ∀ v : ST, y = Sum.inr v → V p l e 9 1 s m args below meth c Q KC 395 g B 6 1 v 78 [(0, .ref (gA g 0)), (1, .int l1), (2, .int l2), (3, .int l3), (4, .int l4)] [] := fun v e9 => by rw [hx v e9]; exact hX0
  unfold fX10_often_35 at hf
  refine v_iload (pc := 35) (j := 5) F dX10_often_35 rfl ?_
  refine v_iload_n (pc := 37) (j := 1) F dX10_often_37 rfl rfl ?_
  refine v_icmp_ge (pc := 38) (tgt := 78) F dX10_often_38 (by decide) (fun c6 => ?_) (fun c6 => ?_)
  · have hf := ite_t hf c6
    refine V.sub (lv' := [(0, .ref (gA g 0)), (1, .int l1), (2, .int l2), (3, .int l3), (4, .int l4)]) [0, 1, 2, 3, 4] rfl ?_
    exact hx0 s1.1 (Option.some.inj hf).symm
  · have hf := ite_f hf c6
    refine v_aload_n (pc := 41) (j := 0) F dX10_often_41 rfl rfl ?_
    obtain ⟨f7, e8, hf⟩ := bnd_some hf
    obtain ⟨ho_f7, hk_f7, e8⟩ := rf_in e8
    refine v_ifl (pc := 42) F fl_X10_23 dX10_often_42 kc_0.1 kc_0.2 (fv_9_3 e8) ?_
    refine v_aload_n (pc := 45) (j := 0) F dX10_often_45 rfl rfl ?_
    refine v_ifl (pc := 46) F fl_X10_56 dX10_often_46 kc_0.1 kc_0.2 fv_9_9 ?_
    refine v_aload_n (pc := 49) (j := 0) F dX10_often_49 rfl rfl ?_
    obtain ⟨f9, e10, hf⟩ := bnd_some hf
    obtain ⟨ho_f9, hk_f9, e10⟩ := rf_in e10
    refine v_ifl (pc := 50) F fl_X10_23 dX10_often_50 kc_0.1 kc_0.2 (fv_9_3 e10) ?_
    refine v_aload_n (pc := 53) (j := 0) F dX10_often_53 rfl rfl ?_
    refine v_ifl (pc := 54) F fl_X10_56 dX10_often_54 kc_0.1 kc_0.2 fv_9_9 ?_
    refine v_aload_n (pc := 57) (j := 0) F dX10_often_57 rfl rfl ?_
    refine v_ifl (pc := 58) F fl_X10_56 dX10_often_58 kc_0.1 kc_0.2 fv_9_9 ?_
    refine v_ifl (pc := 61) F fl_X10_125 dX10_often_61 kc_386.1 kc_386.2 fv_7_0 ?_
    obtain ⟨r11, e12, hf⟩ := bnd_some hf
    refine v_callSi (pc := 64) (As := [.ref (gA g f9), .ref (gA g 386), .int (s1.1 386 0)]) F cl_X10_204 dX10_often_64 (kX1_windOf ho_f9 hk_f9 kc_386.1 kc_386.2 e12) rfl rfl (Nat.le_of_ble_eq_true rfl) (by decide) (by decide) ?_
    refine v_iload (pc := 67) (j := 4) F dX10_often_67 rfl ?_
    obtain ⟨r13, e14, hf⟩ := bnd_some hf
    refine v_callSv (pc := 69) (As := [.ref (gA g f7), .ref (gA g 386), .int r11, .int l4]) F cl_X10_247 dX10_often_69 (kX1_pass ho_f7 hk_f7 kc_386.1 kc_386.2 e14) rfl rfl (Nat.le_of_ble_eq_true rfl) (by decide) (by decide) ?_
    refine v_iinc (pc := 72) (j := 5) (v := s1.2 + 1) (lv' := [(0, .ref (gA g 0)), (1, .int l1), (2, .int l2), (3, .int l3), (4, .int l4), (5, .int (s1.2 + 1))]) F dX10_often_72 rfl (congrArg (fun z => s1.2 + z) ic_1) (by decide) rfl ?_
    refine v_goto (pc := 75) (tgt := 35) F dX10_often_75 (by decide) ?_
    exact hk (r13, s1.2 + 1) (Option.some.inj hf).symm
set_option maxRecDepth 100000 in
set_option maxHeartbeats 4000000 in
theorem tX10_often_100 {p : Program} {l : Launch} {e : Env} {s : State} {m : MethodId} {args : Array Value} {below : List Frame} {meth : Method} {c : Code} {g : GE} {B : Nat} {h : ST}  {l1 : Int32} {l2 : Int32} {l3 : Int32} {l4 : Int32} (F : Fx p s m args meth c cX10_often 6 "DustParish" 395 g B)
    {Q : State → Prop} {y : (ST × Int32 × Int32 × Int32) ⊕ (ST × Int32)} (hk : ∀ v : (ST × Int32 × Int32 × Int32), y = Sum.inl v → V p l e 9 1 s m args below meth c Q KC 395 g B 6 1 v.1 11 [(0, .ref (gA g 0)), (1, .int l1), (2, .int v.2.1), (3, .int v.2.2.1), (4, .int v.2.2.2)] []) (hx0 : ∀ v : (ST × Int32), y = Sum.inr v → V p l e 9 1 s m args below meth c Q KC 395 g B 6 1 v.1 106 [(2, .int v.2)] []) (hf : fX10_often_100 h l1 l2 l3 l4 = some y) : V p l e 9 1 s m args below meth c Q KC 395 g B 6 1 h 100 [(0, .ref (gA g 0)), (1, .int l1), (2, .int l2), (3, .int l3), (4, .int l4)] [] := by
  unfold fX10_often_100 at hf
  refine v_iinc (pc := 100) (j := 4) (v := l4 + 1) (lv' := [(0, .ref (gA g 0)), (1, .int l1), (2, .int l2), (3, .int l3), (4, .int (l4 + 1))]) F dX10_often_100 rfl (congrArg (fun z => l4 + z) ic_1) (by decide) rfl ?_
  refine v_goto (pc := 103) (tgt := 11) F dX10_often_103 (by decide) ?_
  exact hk (h, l2, l3, l4 + 1) (Option.some.inj hf).symm
set_option maxRecDepth 100000 in
set_option maxHeartbeats 4000000 in
theorem tX10_often_11 {p : Program} {l : Launch} {e : Env} {s : State} {m : MethodId} {args : Array Value} {below : List Frame} {meth : Method} {c : Code} {g : GE} {B : Nat}   {l1 : Int32} {Q : State → Prop} {x : (ST × Int32)} {nf : Nat} {s0 : (ST × Int32 × Int32 × Int32)} (F : Fx p s m args meth c cX10_often 6 "DustParish" 395 g B) (hX0 : V p l e 9 1 s m args below meth c Q KC 395 g B 6 1 x.1 106 [(2, .int x.2)] []) (hl : lp nf (fX10_often_11 l1) s0 = some x) : V p l e 9 1 s m args below meth c Q KC 395 g B 6 1 s0.1 11 [(0, .ref (gA g 0)), (1, .int l1), (2, .int s0.2.1), (3, .int s0.2.2.1), (4, .int s0.2.2.2)] [] := by
  refine lp_ind (P := fun s0 => V p l e 9 1 s m args below meth c Q KC 395 g B 6 1 s0.1 11 [(0, .ref (gA g 0)), (1, .int l1), (2, .int s0.2.1), (3, .int s0.2.2.1), (4, .int s0.2.2.2)] []) ?_ nf s0 hl
  intro s1 y hf hk hx
  have hx0 : ∀ v : (ST × Int32), y = Sum.inr v → V p l e 9 1 s m args below meth c Q KC 395 g B 6 1 v.1 106 [(2, .int v.2)] [] := fun v e9 => by rw [hx v e9]; exact hX0
  unfold fX10_often_11 at hf
  refine v_iload (pc := 11) (j := 4) F dX10_often_11 rfl ?_
  refine v_bipush (pc := 13) (v := 30) F dX10_often_13 bp_30 ?_
  refine v_icmp_gt (pc := 15) (tgt := 106) F dX10_often_15 (by decide) (fun c3 => ?_) (fun c3 => ?_)
  · have hf := ite_t hf c3
    refine V.sub (lv' := [(2, .int s1.2.1)]) [2] rfl ?_
    exact hx0 (s1.1, s1.2.1) (Option.some.inj hf).symm
  · have hf := ite_f hf c3
    refine v_aload_n (pc := 18) (j := 0) F dX10_often_18 rfl rfl ?_
    refine v_ifl (pc := 19) F fl_X10_56 dX10_often_19 kc_0.1 kc_0.2 fv_9_9 ?_
    refine v_aload_n (pc := 22) (j := 0) F dX10_often_22 rfl rfl ?_
    refine v_ifl (pc := 23) F fl_X10_42 dX10_often_23 kc_0.1 kc_0.2 fv_9_6 ?_
    refine v_ifl (pc := 26) F fl_X10_122 dX10_often_26 kc_42.1 kc_42.2 fv_2_0 ?_
    obtain ⟨r4, e5, hf⟩ := bnd_some hf
    refine v_callVv (pc := 29) (As := [.ref (gA g 43)]) F cl_X10_241 dX10_often_29 (kX8_copy kc_386.1 kc_386.2 kc_43.1 kc_43.2 e5) kc_386.1 kc_386.2 rc_7 rfl rfl (Nat.le_of_ble_eq_true rfl) (by decide) (by decide) ?_
    refine v_iconst (pc := 32) (v := 0) F dX10_often_32 ic_0 ?_
    refine v_istore (pc := 33) (lv' := [(0, .ref (gA g 0)), (1, .int l1), (2, .int s1.2.1), (3, .int s1.2.2.1), (4, .int s1.2.2.2), (5, .int 0)]) F dX10_often_33 (by decide) rfl ?_
    obtain ⟨x15, e16, hf⟩ := bnd_some hf
    refine tX10_often_35 (s0 := (r4, 0)) F ?_ e16
    refine v_aload_n (pc := 78) (j := 0) F dX10_often_78 rfl rfl ?_
    refine v_ifl (pc := 79) F fl_X10_56 dX10_often_79 kc_0.1 kc_0.2 fv_9_9 ?_
    refine v_ifl (pc := 82) F fl_X10_134 dX10_often_82 kc_386.1 kc_386.2 fv_7_1 ?_
    refine v_iload_n (pc := 85) (j := 3) F dX10_often_85 rfl rfl ?_
    refine v_icmp_le (pc := 86) (tgt := 100) F dX10_often_86 (by decide) (fun c17 => ?_) (fun c17 => ?_)
    · have hf := ite_t hf c17
      exact tX10_often_100 F hk hx0 hf
    · have hf := ite_f hf c17
      refine v_aload_n (pc := 89) (j := 0) F dX10_often_89 rfl rfl ?_
      refine v_ifl (pc := 90) F fl_X10_56 dX10_often_90 kc_0.1 kc_0.2 fv_9_9 ?_
      refine v_ifl (pc := 93) F fl_X10_134 dX10_often_93 kc_386.1 kc_386.2 fv_7_1 ?_
      refine v_istore_n (pc := 96) (lv' := [(0, .ref (gA g 0)), (1, .int l1), (2, .int s1.2.1), (3, .int (x15 386 1)), (4, .int s1.2.2.2)]) F dX10_often_96 rfl (by decide) rfl ?_
      refine v_iload (pc := 97) (j := 4) F dX10_often_97 rfl ?_
      refine v_istore_n (pc := 99) (lv' := [(0, .ref (gA g 0)), (1, .int l1), (2, .int s1.2.2.2), (3, .int (x15 386 1)), (4, .int s1.2.2.2)]) F dX10_often_99 rfl (by decide) rfl ?_
      exact tX10_often_100 F hk hx0 hf
set_option maxRecDepth 100000 in
set_option maxHeartbeats 4000000 in
theorem kX10_often {l : Launch} {g : GE} {B : Nat} {h : ST} {a1 : Int32} {y : (Int32 ⊕ Nat) × ST} (hT : l.stackTraces = false) (hf : fX10_often h a1 = some y) : XT l yX10_often cX10_often 6 (some .int) 9 1 KC 395 g B [.ref (gA g 0), .int a1] h (ocI y.1) y.2 := by
  refine XT.of pn_X10 (Nat.le_of_ble_eq_true rfl) ?_
  intro p e s m below meth c hr hex F
  have F : Fx p s m _ meth c cX10_often 6 "DustParish" 395 g B := F
  refine V_lv (lv' := [(0, .ref (gA g 0)), (1, .int a1)]) rfl ?_
  unfold fX10_often at hf
  refine v_iload_n (pc := 0) (j := 1) F dX10_often_0 rfl rfl ?_
  obtain ⟨r1, e2, hf⟩ := bnd_some hf
  rcases r1 with v9 | r1
  · have hf := sm_l hf
    refine v_xcallS (pc := 1) (As := [.int a1]) F cl_X10_235 dX10_often_1 (kX10_needAhead hT e2) rfl rfl (Nat.le_of_ble_eq_true rfl) (by decide) (by decide) ?_
    refine v_iconst (pc := 4) (v := 1) F dX10_often_4 ic_1 ?_
    refine v_istore_n (pc := 5) (lv' := [(0, .ref (gA g 0)), (1, .int a1), (2, .int 1)]) F dX10_often_5 rfl (by decide) rfl ?_
    refine v_iconst (pc := 6) (v := (-1)) F dX10_often_6 ic_m1 ?_
    refine v_istore_n (pc := 7) (lv' := [(0, .ref (gA g 0)), (1, .int a1), (2, .int 1), (3, .int (-1))]) F dX10_often_7 rfl (by decide) rfl ?_
    refine v_iconst (pc := 8) (v := 1) F dX10_often_8 ic_1 ?_
    refine v_istore (pc := 9) (lv' := [(0, .ref (gA g 0)), (1, .int a1), (2, .int 1), (3, .int (-1)), (4, .int 1)]) F dX10_often_9 (by decide) rfl ?_
    obtain ⟨x18, e19, hf⟩ := bnd_some hf
    refine tX10_often_11 (s0 := (h, 1, (-1), 1)) F ?_ e19
    refine v_iload_n (pc := 106) (j := 0) F dX10_often_106 rfl rfl ?_
    exact v_xiret (pc := 107) F hr dX10_often_107 (some_fst hf) (some_snd hf) (by decide)
  · have hf := sm_r hf
    exact v_xcallSX (pc := 1) (As := [.int a1]) F cl_X10_235 dX10_often_1 (kX10_needAhead hT e2) rfl rfl (Nat.le_of_ble_eq_true rfl) (by decide) (by decide) hex (congrArg ocI (some_fst hf)) (some_snd hf)
