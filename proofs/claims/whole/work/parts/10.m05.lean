def fX11_sayCalendar_85 (h : ST) (l1 : Int32) (l2 : Int32) : Option ((ST × Int32) ⊕ (ST ⊕ ST)) :=
  if (h 0 26) = 0 then
  bnd (fX11_stepOn h) fun r8 =>
    bnd (rd 14 (r8 3) 10) fun v10 =>
    bnd (wr 20 r8 15 (10 + v10) l2) fun h12 =>
    bnd (rd 14 (h12 3) 10) fun v14 =>
    bnd (wr 14 h12 3 10 (v14 + 1)) fun h16 =>
    some (.inl (h16, l1))
  else
  some (.inr (.inl h))
def fX11_sayCalendar_48 (h : ST) (l1 : Int32) : Option ((ST × Int32) ⊕ (ST ⊕ ST)) :=
  bnd (fX11_numberNow h 0 9999) fun r4 =>
  if (r4.2 0 26) = 0 then
  if r4.1 = 5 then
    fX11_sayCalendar_85 r4.2 l1 r4.1
    else
    bnd (rd 14 (r4.2 3) 9) fun v19 =>
      if r4.1 < v19 then
      fX11_sayCalendar_85 r4.2 l1 r4.1
      else
      bnd (fX11_wrong r4.2 3) fun r22 =>
        fX11_sayCalendar_85 r22 l1 r4.1
  else
  fX11_sayCalendar_85 r4.2 l1 r4.1
def fX11_sayCalendar_21 (h : ST)  : Option ((ST × Int32) ⊕ (ST ⊕ ST)) :=
  if (h 0 22) = 2 then
  bnd (rd 14 (h 3) 10) fun v24 =>
    if v24 = 10 then
    bnd (fX11_wrong h 2) fun r27 =>
      fX11_sayCalendar_48 r27 0
    else
    fX11_sayCalendar_48 h 0
  else
  fX11_sayCalendar_48 h 0
def fX11_sayCalendar_2 (s1 : (ST × Int32)) : Option ((ST × Int32) ⊕ (ST ⊕ ST)) :=
  if (s1.1 0 26) = 0 then
  if s1.2 = 0 then
    if (s1.1 0 22) = 2 then
      fX11_sayCalendar_21 s1.1 
      else
      some (.inr (.inr s1.1))
    else
    fX11_sayCalendar_21 s1.1 
  else
  some (.inr (.inr s1.1))
def fX11_sayCalendar_127 (h : ST)  : Option (ST) :=
  some h
def fX11_sayCalendar (h : ST) : Option (ST) :=
  bnd (lp FU (fX11_sayCalendar_2) (h, 1)) fun x30 =>
  sm x30 (fun v => some v) (fun v => fX11_sayCalendar_127 v )
set_option maxRecDepth 100000 in
set_option maxHeartbeats 4000000 in
theorem tX11_sayCalendar_85 {p : Program} {l : Launch} {e : Env} {s : State} {m : MethodId} {args : Array Value} {below : List Frame} {meth : Method} {c : Code} {g : GE} {B : Nat} {h : ST}  {l1 : Int32} {l2 : Int32} (F : Fx p s m args meth c cX11_sayCalendar 3 "DustParishModel" 43 g B)
    {Q : State → Prop} {y : (ST × Int32) ⊕ (ST ⊕ ST)} (hk : ∀ v : (ST × Int32), y = Sum.inl v → V p l e 3 0 s m args below meth c Q KM 43 g B 3 0 v.1 2 [(0, .ref (gA g 0)), (1, .int v.2)] []) (hx0 : ∀ v : ST, y = Sum.inr (.inl v) → V p l e 3 0 s m args below meth c Q KM 43 g B 3 0 v 92 [] []) (hx1 : ∀ v : ST, y = Sum.inr (.inr v) → V p l e 3 0 s m args below meth c Q KM 43 g B 3 0 v 127 [] []) (hf : fX11_sayCalendar_85 h l1 l2 = some y) : V p l e 3 0 s m args below meth c Q KM 43 g B 3 0 h 85 [(0, .ref (gA g 0)), (1, .int l1), (2, .int l2)] [] := by
  unfold fX11_sayCalendar_85 at hf
  refine v_aload_n (pc := 85) (j := 0) F dX11_sayCalendar_85 rfl rfl ?_
  refine v_ifl (pc := 86) F fl_X11_208 dX11_sayCalendar_86 km_0.1 km_0.2 fv_10_26 ?_
  refine v_if_eq (pc := 89) (tgt := 93) F dX11_sayCalendar_89 (by decide) (fun c7 => ?_) (fun c7 => ?_)
  · have hf := ite_t hf c7
    refine v_aload_n (pc := 93) (j := 0) F dX11_sayCalendar_93 rfl rfl ?_
    obtain ⟨r8, e9, hf⟩ := bnd_some hf
    refine v_callVv (pc := 94) (As := []) F cl_X11_233 dX11_sayCalendar_94 (kX11_stepOn e9) km_0.1 km_0.2 rc_10 rfl rfl (Nat.le_of_ble_eq_true rfl) (by decide) (Nat.zero_le _) ?_
    refine v_aload_n (pc := 97) (j := 0) F dX11_sayCalendar_97 rfl rfl ?_
    refine v_ifl (pc := 98) F fl_X11_71 dX11_sayCalendar_98 km_0.1 km_0.2 fv_10_15 ?_
    refine v_bipush (pc := 101) (v := 10) F dX11_sayCalendar_101 bp_10 ?_
    refine v_aload_n (pc := 103) (j := 0) F dX11_sayCalendar_103 rfl rfl ?_
    refine v_ifl (pc := 104) F fl_X11_36 dX11_sayCalendar_104 km_0.1 km_0.2 fv_10_3 ?_
    refine v_bipush (pc := 107) (v := 10) F dX11_sayCalendar_107 bp_10 ?_
    obtain ⟨v10, e11, hf⟩ := bnd_some hf
    refine v_iald (pc := 109) F dX11_sayCalendar_109 km_3.1 km_3.2 e11 ?_
    refine v_iadd (pc := 110) F dX11_sayCalendar_110 ?_
    refine v_iload_n (pc := 111) (j := 2) F dX11_sayCalendar_111 rfl rfl ?_
    obtain ⟨h12, e13, hf⟩ := bnd_some hf
    refine v_iast (pc := 112) F dX11_sayCalendar_112 km_15.1 km_15.2 e13 ?_
    refine v_aload_n (pc := 113) (j := 0) F dX11_sayCalendar_113 rfl rfl ?_
    refine v_ifl (pc := 114) F fl_X11_36 dX11_sayCalendar_114 km_0.1 km_0.2 fv_10_3 ?_
    refine v_bipush (pc := 117) (v := 10) F dX11_sayCalendar_117 bp_10 ?_
    refine v_dup2_11 (pc := 119) F dX11_sayCalendar_119 rfl rfl ?_
    obtain ⟨v14, e15, hf⟩ := bnd_some hf
    refine v_iald (pc := 120) F dX11_sayCalendar_120 km_3.1 km_3.2 e15 ?_
    refine v_iconst (pc := 121) (v := 1) F dX11_sayCalendar_121 ic_1 ?_
    refine v_iadd (pc := 122) F dX11_sayCalendar_122 ?_
    obtain ⟨h16, e17, hf⟩ := bnd_some hf
    refine v_iast (pc := 123) F dX11_sayCalendar_123 km_3.1 km_3.2 e17 ?_
    refine v_goto (pc := 124) (tgt := 2) F dX11_sayCalendar_124 (by decide) ?_
    refine V.sub (lv' := [(0, .ref (gA g 0)), (1, .int l1)]) [0, 1] rfl ?_
    exact hk (h16, l1) (Option.some.inj hf).symm
  · have hf := ite_f hf c7
    refine V.sub (lv' := []) [] rfl ?_
    exact hx0 h (Option.some.inj hf).symm
set_option maxRecDepth 100000 in
set_option maxHeartbeats 4000000 in
theorem tX11_sayCalendar_48 {p : Program} {l : Launch} {e : Env} {s : State} {m : MethodId} {args : Array Value} {below : List Frame} {meth : Method} {c : Code} {g : GE} {B : Nat} {h : ST}  {l1 : Int32} (F : Fx p s m args meth c cX11_sayCalendar 3 "DustParishModel" 43 g B)
    {Q : State → Prop} {y : (ST × Int32) ⊕ (ST ⊕ ST)} (hk : ∀ v : (ST × Int32), y = Sum.inl v → V p l e 3 0 s m args below meth c Q KM 43 g B 3 0 v.1 2 [(0, .ref (gA g 0)), (1, .int v.2)] []) (hx0 : ∀ v : ST, y = Sum.inr (.inl v) → V p l e 3 0 s m args below meth c Q KM 43 g B 3 0 v 92 [] []) (hx1 : ∀ v : ST, y = Sum.inr (.inr v) → V p l e 3 0 s m args below meth c Q KM 43 g B 3 0 v 127 [] []) (hf : fX11_sayCalendar_48 h l1 = some y) : V p l e 3 0 s m args below meth c Q KM 43 g B 3 0 h 48 [(0, .ref (gA g 0)), (1, .int l1)] [] := by
  unfold fX11_sayCalendar_48 at hf
  refine v_aload_n (pc := 48) (j := 0) F dX11_sayCalendar_48 rfl rfl ?_
  refine v_iconst (pc := 49) (v := 0) F dX11_sayCalendar_49 ic_0 ?_
  refine v_sipush (pc := 50) (v := 9999) F dX11_sayCalendar_50 sp_9999 ?_
  obtain ⟨r4, e5, hf⟩ := bnd_some hf
  refine v_callVi (pc := 53) (As := [.int 0, .int 9999]) F cl_X11_236 dX11_sayCalendar_53 (kX11_numberNow e5) km_0.1 km_0.2 rc_10 rfl rfl (Nat.le_of_ble_eq_true rfl) (by decide) (Nat.zero_le _) ?_
  refine v_istore_n (pc := 56) (lv' := [(0, .ref (gA g 0)), (1, .int l1), (2, .int r4.1)]) F dX11_sayCalendar_56 rfl (by decide) rfl ?_
  refine v_aload_n (pc := 57) (j := 0) F dX11_sayCalendar_57 rfl rfl ?_
  refine v_ifl (pc := 58) F fl_X11_208 dX11_sayCalendar_58 km_0.1 km_0.2 fv_10_26 ?_
  refine v_if_ne (pc := 61) (tgt := 85) F dX11_sayCalendar_61 (by decide) (fun c6 => ?_) (fun c6 => ?_)
  · have hf := ite_f hf c6
    exact tX11_sayCalendar_85 F hk hx0 hx1 hf
  · have hf := ite_t hf c6
    refine v_iload_n (pc := 64) (j := 2) F dX11_sayCalendar_64 rfl rfl ?_
    refine v_iconst (pc := 65) (v := 5) F dX11_sayCalendar_65 ic_5 ?_
    refine v_icmp_eq (pc := 66) (tgt := 85) F dX11_sayCalendar_66 (by decide) (fun c18 => ?_) (fun c18 => ?_)
    · have hf := ite_t hf c18
      exact tX11_sayCalendar_85 F hk hx0 hx1 hf
    · have hf := ite_f hf c18
      refine v_iload_n (pc := 69) (j := 2) F dX11_sayCalendar_69 rfl rfl ?_
      refine v_aload_n (pc := 70) (j := 0) F dX11_sayCalendar_70 rfl rfl ?_
      refine v_ifl (pc := 71) F fl_X11_36 dX11_sayCalendar_71 km_0.1 km_0.2 fv_10_3 ?_
      refine v_bipush (pc := 74) (v := 9) F dX11_sayCalendar_74 bp_9 ?_
      obtain ⟨v19, e20, hf⟩ := bnd_some hf
      refine v_iald (pc := 76) F dX11_sayCalendar_76 km_3.1 km_3.2 e20 ?_
      refine v_icmp_lt (pc := 77) (tgt := 85) F dX11_sayCalendar_77 (by decide) (fun c21 => ?_) (fun c21 => ?_)
      · have hf := ite_t hf c21
        exact tX11_sayCalendar_85 F hk hx0 hx1 hf
      · have hf := ite_f hf c21
        refine v_aload_n (pc := 80) (j := 0) F dX11_sayCalendar_80 rfl rfl ?_
        refine v_iconst (pc := 81) (v := 3) F dX11_sayCalendar_81 ic_3 ?_
        obtain ⟨r22, e23, hf⟩ := bnd_some hf
        refine v_callVv (pc := 82) (As := [.int 3]) F cl_X11_229 dX11_sayCalendar_82 (kX11_wrong e23) km_0.1 km_0.2 rc_10 rfl rfl (Nat.le_of_ble_eq_true rfl) (by decide) (Nat.zero_le _) ?_
        exact tX11_sayCalendar_85 F hk hx0 hx1 hf
set_option maxRecDepth 100000 in
set_option maxHeartbeats 4000000 in
theorem tX11_sayCalendar_21 {p : Program} {l : Launch} {e : Env} {s : State} {m : MethodId} {args : Array Value} {below : List Frame} {meth : Method} {c : Code} {g : GE} {B : Nat} {h : ST}  (F : Fx p s m args meth c cX11_sayCalendar 3 "DustParishModel" 43 g B)
    {Q : State → Prop} {y : (ST × Int32) ⊕ (ST ⊕ ST)} (hk : ∀ v : (ST × Int32), y = Sum.inl v → V p l e 3 0 s m args below meth c Q KM 43 g B 3 0 v.1 2 [(0, .ref (gA g 0)), (1, .int v.2)] []) (hx0 : ∀ v : ST, y = Sum.inr (.inl v) → V p l e 3 0 s m args below meth c Q KM 43 g B 3 0 v 92 [] []) (hx1 : ∀ v : ST, y = Sum.inr (.inr v) → V p l e 3 0 s m args below meth c Q KM 43 g B 3 0 v 127 [] []) (hf : fX11_sayCalendar_21 h  = some y) : V p l e 3 0 s m args below meth c Q KM 43 g B 3 0 h 21 [(0, .ref (gA g 0))] [] := by
  unfold fX11_sayCalendar_21 at hf
  refine v_iconst (pc := 21) (v := 0) F dX11_sayCalendar_21 ic_0 ?_
  refine v_istore_n (pc := 22) (lv' := [(0, .ref (gA g 0)), (1, .int 0)]) F dX11_sayCalendar_22 rfl (by decide) rfl ?_
  refine v_aload_n (pc := 23) (j := 0) F dX11_sayCalendar_23 rfl rfl ?_
  refine v_ifl (pc := 24) F fl_X11_182 dX11_sayCalendar_24 km_0.1 km_0.2 fv_10_22 ?_
  refine v_iconst (pc := 27) (v := 2) F dX11_sayCalendar_27 ic_2 ?_
  refine v_icmp_ne (pc := 28) (tgt := 48) F dX11_sayCalendar_28 (by decide) (fun c3 => ?_) (fun c3 => ?_)
  · have hf := ite_f hf c3
    exact tX11_sayCalendar_48 F hk hx0 hx1 hf
  · have hf := ite_t hf c3
    refine v_aload_n (pc := 31) (j := 0) F dX11_sayCalendar_31 rfl rfl ?_
    refine v_ifl (pc := 32) F fl_X11_36 dX11_sayCalendar_32 km_0.1 km_0.2 fv_10_3 ?_
    refine v_bipush (pc := 35) (v := 10) F dX11_sayCalendar_35 bp_10 ?_
    obtain ⟨v24, e25, hf⟩ := bnd_some hf
    refine v_iald (pc := 37) F dX11_sayCalendar_37 km_3.1 km_3.2 e25 ?_
    refine v_bipush (pc := 38) (v := 10) F dX11_sayCalendar_38 bp_10 ?_
    refine v_icmp_ne (pc := 40) (tgt := 48) F dX11_sayCalendar_40 (by decide) (fun c26 => ?_) (fun c26 => ?_)
    · have hf := ite_f hf c26
      exact tX11_sayCalendar_48 F hk hx0 hx1 hf
    · have hf := ite_t hf c26
      refine v_aload_n (pc := 43) (j := 0) F dX11_sayCalendar_43 rfl rfl ?_
      refine v_iconst (pc := 44) (v := 2) F dX11_sayCalendar_44 ic_2 ?_
      obtain ⟨r27, e28, hf⟩ := bnd_some hf
      refine v_callVv (pc := 45) (As := [.int 2]) F cl_X11_229 dX11_sayCalendar_45 (kX11_wrong e28) km_0.1 km_0.2 rc_10 rfl rfl (Nat.le_of_ble_eq_true rfl) (by decide) (Nat.zero_le _) ?_
      exact tX11_sayCalendar_48 F hk hx0 hx1 hf
set_option maxRecDepth 100000 in
set_option maxHeartbeats 4000000 in
theorem tX11_sayCalendar_2 {p : Program} {l : Launch} {e : Env} {s : State} {m : MethodId} {args : Array Value} {below : List Frame} {meth : Method} {c : Code} {g : GE} {B : Nat}   {Q : State → Prop} {x : (ST ⊕ ST)} {nf : Nat} {s0 : (ST × Int32)} (F : Fx p s m args meth c cX11_sayCalendar 3 "DustParishModel" 43 g B) (hX0 : ∀ v : ST, x = (.inl v) → V p l e 3 0 s m args below meth c Q KM 43 g B 3 0 v 92 [] []) (hX1 : ∀ v : ST, x = (.inr v) → V p l e 3 0 s m args below meth c Q KM 43 g B 3 0 v 127 [] []) (hl : lp nf (fX11_sayCalendar_2) s0 = some x) : V p l e 3 0 s m args below meth c Q KM 43 g B 3 0 s0.1 2 [(0, .ref (gA g 0)), (1, .int s0.2)] [] := by
  refine lp_ind (P := fun s0 => V p l e 3 0 s m args below meth c Q KM 43 g B 3 0 s0.1 2 [(0, .ref (gA g 0)), (1, .int s0.2)] []) ?_ nf s0 hl
  intro s1 y hf hk hx
  have hx0 : ∀ v : ST, y = Sum.inr (.inl v) → V p l e 3 0 s m args below meth c Q KM 43 g B 3 0 v 92 [] [] := fun v e9 => hX0 v (hx _ e9).symm
  have hx1 : ∀ v : ST, y = Sum.inr (.inr v) → V p l e 3 0 s m args below meth c Q KM 43 g B 3 0 v 127 [] [] := fun v e9 => hX1 v (hx _ e9).symm
  unfold fX11_sayCalendar_2 at hf
  refine v_aload_n (pc := 2) (j := 0) F dX11_sayCalendar_2 rfl rfl ?_
  refine v_ifl (pc := 3) F fl_X11_208 dX11_sayCalendar_3 km_0.1 km_0.2 fv_10_26 ?_
  refine v_if_ne (pc := 6) (tgt := 127) F dX11_sayCalendar_6 (by decide) (fun c1 => ?_) (fun c1 => ?_)
  · have hf := ite_f hf c1
    refine V.sub (lv' := []) [] rfl ?_
    exact hx1 s1.1 (Option.some.inj hf).symm
  · have hf := ite_t hf c1
    refine v_iload_n (pc := 9) (j := 1) F dX11_sayCalendar_9 rfl rfl ?_
    refine v_if_ne (pc := 10) (tgt := 21) F dX11_sayCalendar_10 (by decide) (fun c2 => ?_) (fun c2 => ?_)
    · have hf := ite_f hf c2
      refine V.sub (lv' := [(0, .ref (gA g 0))]) [0] rfl ?_
      exact tX11_sayCalendar_21 F hk hx0 hx1 hf
    · have hf := ite_t hf c2
      refine v_aload_n (pc := 13) (j := 0) F dX11_sayCalendar_13 rfl rfl ?_
      refine v_ifl (pc := 14) F fl_X11_182 dX11_sayCalendar_14 km_0.1 km_0.2 fv_10_22 ?_
      refine v_iconst (pc := 17) (v := 2) F dX11_sayCalendar_17 ic_2 ?_
      refine v_icmp_ne (pc := 18) (tgt := 127) F dX11_sayCalendar_18 (by decide) (fun c29 => ?_) (fun c29 => ?_)
      · have hf := ite_f hf c29
        refine V.sub (lv' := []) [] rfl ?_
        exact hx1 s1.1 (Option.some.inj hf).symm
      · have hf := ite_t hf c29
        refine V.sub (lv' := [(0, .ref (gA g 0))]) [0] rfl ?_
        exact tX11_sayCalendar_21 F hk hx0 hx1 hf
set_option maxRecDepth 100000 in
set_option maxHeartbeats 4000000 in
theorem tX11_sayCalendar_127 {p : Program} {l : Launch} {e : Env} {s : State} {m : MethodId} {args : Array Value} {below : List Frame} {meth : Method} {c : Code} {g : GE} {B : Nat} {h : ST}  (F : Fx p s m args meth c cX11_sayCalendar 3 "DustParishModel" 43 g B)
    {y : ST} (hr : meth.sig.returnType = none) (hf : fX11_sayCalendar_127 h  = some y) : V p l e 3 0 s m args below meth c (MQ below (QO KM 43 g none y) args s 0 (6 * 0) (WA 43 g)) KM 43 g B 3 0 h 127 [] [] := by
  unfold fX11_sayCalendar_127 at hf
  exact v_vret (pc := 127) F hr dX11_sayCalendar_127 (Option.some.inj hf) (Nat.zero_le _)
set_option maxRecDepth 100000 in
set_option maxHeartbeats 4000000 in
theorem kX11_sayCalendar {l : Launch} {g : GE} {B : Nat} {h : ST} {y : ST} (hf : fX11_sayCalendar h = some y) : CT l yX11_sayCalendar cX11_sayCalendar 3 none 3 KM 43 g B [.ref (gA g 0)] h none y := by
  refine CT.of pn_X11 (Nat.le_of_ble_eq_true rfl) ?_
  intro p e s m below meth c hr F
  have F : Fx p s m _ meth c cX11_sayCalendar 3 "DustParishModel" 43 g B := F
  refine V_lv (lv' := [(0, .ref (gA g 0))]) rfl ?_
  unfold fX11_sayCalendar at hf
  refine v_iconst (pc := 0) (v := 1) F dX11_sayCalendar_0 ic_1 ?_
  refine v_istore_n (pc := 1) (lv' := [(0, .ref (gA g 0)), (1, .int 1)]) F dX11_sayCalendar_1 rfl (by decide) rfl ?_
  obtain ⟨x30, e31, hf⟩ := bnd_some hf
  refine tX11_sayCalendar_2 (s0 := (h, 1)) F (fun v e9 => ?_) (fun v e9 => ?_) e31
  · subst e9
    have hf := sm_l hf
    exact v_vret (pc := 92) F hr dX11_sayCalendar_92 (Option.some.inj hf) (Nat.zero_le _)
  · subst e9
    have hf := sm_r hf
    exact tX11_sayCalendar_127 F hr hf
def fX11_readNumber_18 (h : ST) (l3 : Int32) : Option (Int32 × ST) :=
  some (l3, h)
def fX11_readNumber (h : ST) (a1 : Int32) (a2 : Int32) : Option (Int32 × ST) :=
  bnd (fX11_numberNow h a1 a2) fun r1 =>
  if (r1.2 0 26) = 0 then
  bnd (fX11_stepOn r1.2) fun r4 =>
    fX11_readNumber_18 r4 r1.1
  else
  fX11_readNumber_18 r1.2 r1.1
set_option maxRecDepth 100000 in
set_option maxHeartbeats 4000000 in
theorem tX11_readNumber_18 {p : Program} {l : Launch} {e : Env} {s : State} {m : MethodId} {args : Array Value} {below : List Frame} {meth : Method} {c : Code} {g : GE} {B : Nat} {h : ST}  {l3 : Int32} (F : Fx p s m args meth c cX11_readNumber 4 "DustParishModel" 43 g B)
    {y : Int32 × ST} (hr : meth.sig.returnType = (some .int)) (hf : fX11_readNumber_18 h l3 = some y) : V p l e 3 0 s m args below meth c (MQ below (QO KM 43 g (some (.int y.1)) y.2) args s 0 (6 * 0) (WA 43 g)) KM 43 g B 4 0 h 18 [(3, .int l3)] [] := by
  unfold fX11_readNumber_18 at hf
  refine v_iload_n (pc := 18) (j := 0) F dX11_readNumber_18 rfl rfl ?_
  exact v_iret (pc := 19) F hr dX11_readNumber_19 (some_fst hf) (some_snd hf) (Nat.zero_le _)
set_option maxRecDepth 100000 in
set_option maxHeartbeats 4000000 in
theorem kX11_readNumber {l : Launch} {g : GE} {B : Nat} {h : ST} {a1 : Int32} {a2 : Int32} {y : Int32 × ST} (hf : fX11_readNumber h a1 a2 = some y) : CT l yX11_readNumber cX11_readNumber 4 (some .int) 3 KM 43 g B [.ref (gA g 0), .int a1, .int a2] h (some (.int y.1)) y.2 := by
  refine CT.of pn_X11 (Nat.le_of_ble_eq_true rfl) ?_
  intro p e s m below meth c hr F
  have F : Fx p s m _ meth c cX11_readNumber 4 "DustParishModel" 43 g B := F
  refine V_lv (lv' := [(0, .ref (gA g 0)), (1, .int a1), (2, .int a2)]) rfl ?_
  unfold fX11_readNumber at hf
  refine v_aload_n (pc := 0) (j := 0) F dX11_readNumber_0 rfl rfl ?_
  refine v_iload_n (pc := 1) (j := 1) F dX11_readNumber_1 rfl rfl ?_
  refine v_iload_n (pc := 2) (j := 2) F dX11_readNumber_2 rfl rfl ?_
  obtain ⟨r1, e2, hf⟩ := bnd_some hf
  refine v_callVi (pc := 3) (As := [.int a1, .int a2]) F cl_X11_236 dX11_readNumber_3 (kX11_numberNow e2) km_0.1 km_0.2 rc_10 rfl rfl (Nat.le_of_ble_eq_true rfl) (by decide) (Nat.zero_le _) ?_
  refine v_istore_n (pc := 6) (lv' := [(0, .ref (gA g 0)), (1, .int a1), (2, .int a2), (3, .int r1.1)]) F dX11_readNumber_6 rfl (by decide) rfl ?_
  refine v_aload_n (pc := 7) (j := 0) F dX11_readNumber_7 rfl rfl ?_
  refine v_ifl (pc := 8) F fl_X11_208 dX11_readNumber_8 km_0.1 km_0.2 fv_10_26 ?_
  refine v_if_ne (pc := 11) (tgt := 18) F dX11_readNumber_11 (by decide) (fun c3 => ?_) (fun c3 => ?_)
  · have hf := ite_f hf c3
    refine V.sub (lv' := [(3, .int r1.1)]) [3] rfl ?_
    exact tX11_readNumber_18 F hr hf
  · have hf := ite_t hf c3
    refine v_aload_n (pc := 14) (j := 0) F dX11_readNumber_14 rfl rfl ?_
    obtain ⟨r4, e5, hf⟩ := bnd_some hf
    refine v_callVv (pc := 15) (As := []) F cl_X11_233 dX11_readNumber_15 (kX11_stepOn e5) km_0.1 km_0.2 rc_10 rfl rfl (Nat.le_of_ble_eq_true rfl) (by decide) (Nat.zero_le _) ?_
    refine V.sub (lv' := [(3, .int r1.1)]) [3] rfl ?_
    exact tX11_readNumber_18 F hr hf
def fX11_readPart_74 (R : ST → Int32 → Option (ST)) (h : ST)  : Option (ST) :=
  some h
def fX11_readPart_56 (R : ST → Int32 → Option (ST)) (h : ST) (l2 : Int32) : Option (ST) :=
  bnd (fX11_lay h ((-1) - l2)) fun r13 =>
  if (r13 0 26) = 0 then
  bnd (fX11_stepOn r13) fun r16 =>
    fX11_readPart_74 R r16 
  else
  fX11_readPart_74 R r13 
def fX11_readPart (R : ST → Int32 → Option (ST)) (h : ST) (a1 : Int32) : Option (ST) :=
  if (h 0 26) = 0 then
  if (h 0 22) = 2 then
    bnd (fX11_readNumber h 0 9999) fun r20 =>
      bnd (fX11_lay r20.2 r20.1) fun r22 =>
      some r22
    else
    if (h 0 22) = 1 then
      bnd (fX11_which h 2 6) fun r10 =>
        if r10 = (-1) then
        bnd (fX11_wrong h 3) fun r18 =>
          fX11_readPart_56 R r18 r10
        else
        fX11_readPart_56 R h r10
      else
      bnd (fX11_mark h 40) fun r4 =>
        bnd (R r4 (a1 + 1)) fun r6 =>
        bnd (fX11_mark r6 41) fun r8 =>
        some r8
  else
  some h
set_option maxRecDepth 100000 in
set_option maxHeartbeats 4000000 in
theorem tX11_readPart_74 {p : Program} {l : Launch} {e : Env} {s : State} {m : MethodId} {args : Array Value} {below : List Frame} {meth : Method} {c : Code} {g : GE} {B : Nat} {dd : Nat} {R : ST → Int32 → Option (ST)} (hR : ∀ {h : ST} {a1 : Int32} {y : ST}, R h a1 = some y → CT l yX11_readExpression cX11_readExpression 3 none (14 + 6 * dd) KM 43 g B [.ref (gA g 0), .int a1] h none y) {h : ST}  (F : Fx p s m args meth c cX11_readPart 3 "DustParishModel" 43 g B)
    {y : ST} (hr : meth.sig.returnType = none) (hf : fX11_readPart_74 R h  = some y) : V p l e (14 + 6 * dd + 1) 0 s m args below meth c (MQ below (QO KM 43 g none y) args s 0 (6 * 0) (WA 43 g)) KM 43 g B 3 0 h 74 [] [] := by
  unfold fX11_readPart_74 at hf
  exact v_vret (pc := 74) F hr dX11_readPart_74 (Option.some.inj hf) (Nat.zero_le _)
set_option maxRecDepth 100000 in
set_option maxHeartbeats 4000000 in
theorem tX11_readPart_56 {p : Program} {l : Launch} {e : Env} {s : State} {m : MethodId} {args : Array Value} {below : List Frame} {meth : Method} {c : Code} {g : GE} {B : Nat} {dd : Nat} {R : ST → Int32 → Option (ST)} (hR : ∀ {h : ST} {a1 : Int32} {y : ST}, R h a1 = some y → CT l yX11_readExpression cX11_readExpression 3 none (14 + 6 * dd) KM 43 g B [.ref (gA g 0), .int a1] h none y) {h : ST}  {l2 : Int32} (F : Fx p s m args meth c cX11_readPart 3 "DustParishModel" 43 g B)
    {y : ST} (hr : meth.sig.returnType = none) (hf : fX11_readPart_56 R h l2 = some y) : V p l e (14 + 6 * dd + 1) 0 s m args below meth c (MQ below (QO KM 43 g none y) args s 0 (6 * 0) (WA 43 g)) KM 43 g B 3 0 h 56 [(0, .ref (gA g 0)), (2, .int l2)] [] := by
  unfold fX11_readPart_56 at hf
  refine v_aload_n (pc := 56) (j := 0) F dX11_readPart_56 rfl rfl ?_
  refine v_iconst (pc := 57) (v := (-1)) F dX11_readPart_57 ic_m1 ?_
  refine v_iload_n (pc := 58) (j := 1) F dX11_readPart_58 rfl rfl ?_
  refine v_isub (pc := 59) F dX11_readPart_59 ?_
  obtain ⟨r13, e14, hf⟩ := bnd_some hf
  refine v_callVv (pc := 60) (As := [.int ((-1) - l2)]) F cl_X11_245 dX11_readPart_60 (kX11_lay e14) km_0.1 km_0.2 rc_10 rfl rfl (Nat.le_of_ble_eq_true rfl) (by omega) (Nat.zero_le _) ?_
  refine v_aload_n (pc := 63) (j := 0) F dX11_readPart_63 rfl rfl ?_
  refine v_ifl (pc := 64) F fl_X11_208 dX11_readPart_64 km_0.1 km_0.2 fv_10_26 ?_
  refine v_if_ne (pc := 67) (tgt := 74) F dX11_readPart_67 (by decide) (fun c15 => ?_) (fun c15 => ?_)
  · have hf := ite_f hf c15
    refine V.sub (lv' := []) [] rfl ?_
    exact tX11_readPart_74 hR F hr hf
  · have hf := ite_t hf c15
    refine v_aload_n (pc := 70) (j := 0) F dX11_readPart_70 rfl rfl ?_
    obtain ⟨r16, e17, hf⟩ := bnd_some hf
    refine v_callVv (pc := 71) (As := []) F cl_X11_233 dX11_readPart_71 (kX11_stepOn e17) km_0.1 km_0.2 rc_10 rfl rfl (Nat.le_of_ble_eq_true rfl) (by omega) (Nat.zero_le _) ?_
    refine V.sub (lv' := []) [] rfl ?_
    exact tX11_readPart_74 hR F hr hf
set_option maxRecDepth 100000 in
set_option maxHeartbeats 4000000 in
theorem kX11_readPart {l : Launch} {g : GE} {B : Nat} {dd : Nat} {R : ST → Int32 → Option (ST)} (hR : ∀ {h : ST} {a1 : Int32} {y : ST}, R h a1 = some y → CT l yX11_readExpression cX11_readExpression 3 none (14 + 6 * dd) KM 43 g B [.ref (gA g 0), .int a1] h none y) {h : ST} {a1 : Int32} {y : ST} (hf : fX11_readPart R h a1 = some y) : CT l yX11_readPart cX11_readPart 3 none (14 + 6 * dd + 1) KM 43 g B [.ref (gA g 0), .int a1] h none y := by
  refine CT.of pn_X11 (Nat.le_of_ble_eq_true rfl) ?_
  intro p e s m below meth c hr F
  have F : Fx p s m _ meth c cX11_readPart 3 "DustParishModel" 43 g B := F
  refine V_lv (lv' := [(0, .ref (gA g 0)), (1, .int a1)]) rfl ?_
  unfold fX11_readPart at hf
  refine v_aload_n (pc := 0) (j := 0) F dX11_readPart_0 rfl rfl ?_
  refine v_ifl (pc := 1) F fl_X11_208 dX11_readPart_1 km_0.1 km_0.2 fv_10_26 ?_
  refine v_if_eq (pc := 4) (tgt := 8) F dX11_readPart_4 (by decide) (fun c1 => ?_) (fun c1 => ?_)
  · have hf := ite_t hf c1
    refine v_aload_n (pc := 8) (j := 0) F dX11_readPart_8 rfl rfl ?_
    refine v_ifl (pc := 9) F fl_X11_182 dX11_readPart_9 km_0.1 km_0.2 fv_10_22 ?_
    refine v_iconst (pc := 12) (v := 2) F dX11_readPart_12 ic_2 ?_
    refine v_icmp_ne (pc := 13) (tgt := 29) F dX11_readPart_13 (by decide) (fun c2 => ?_) (fun c2 => ?_)
    · have hf := ite_f hf c2
      refine v_aload_n (pc := 29) (j := 0) F dX11_readPart_29 rfl rfl ?_
      refine v_ifl (pc := 30) F fl_X11_182 dX11_readPart_30 km_0.1 km_0.2 fv_10_22 ?_
      refine v_iconst (pc := 33) (v := 1) F dX11_readPart_33 ic_1 ?_
      refine v_icmp_ne (pc := 34) (tgt := 75) F dX11_readPart_34 (by decide) (fun c3 => ?_) (fun c3 => ?_)
      · have hf := ite_f hf c3
        refine v_aload_n (pc := 75) (j := 0) F dX11_readPart_75 rfl rfl ?_
        refine v_bipush (pc := 76) (v := 40) F dX11_readPart_76 bp_40 ?_
        obtain ⟨r4, e5, hf⟩ := bnd_some hf
        refine v_callVv (pc := 78) (As := [.int 40]) F cl_X11_252 dX11_readPart_78 (kX11_mark e5) km_0.1 km_0.2 rc_10 rfl rfl (Nat.le_of_ble_eq_true rfl) (by omega) (Nat.zero_le _) ?_
        refine v_aload_n (pc := 81) (j := 0) F dX11_readPart_81 rfl rfl ?_
        refine v_iload_n (pc := 82) (j := 1) F dX11_readPart_82 rfl rfl ?_
        refine v_iconst (pc := 83) (v := 1) F dX11_readPart_83 ic_1 ?_
        refine v_iadd (pc := 84) F dX11_readPart_84 ?_
        obtain ⟨r6, e7, hf⟩ := bnd_some hf
        refine v_callVv (pc := 85) (As := [.int (a1 + 1)]) F cl_X11_255 dX11_readPart_85 (hR e7) km_0.1 km_0.2 rc_10 rfl rfl (Nat.le_of_ble_eq_true rfl) (by omega) (Nat.zero_le _) ?_
        refine v_aload_n (pc := 88) (j := 0) F dX11_readPart_88 rfl rfl ?_
        refine v_bipush (pc := 89) (v := 41) F dX11_readPart_89 bp_41 ?_
        obtain ⟨r8, e9, hf⟩ := bnd_some hf
        refine v_callVv (pc := 91) (As := [.int 41]) F cl_X11_252 dX11_readPart_91 (kX11_mark e9) km_0.1 km_0.2 rc_10 rfl rfl (Nat.le_of_ble_eq_true rfl) (by omega) (Nat.zero_le _) ?_
        exact v_vret (pc := 94) F hr dX11_readPart_94 (Option.some.inj hf) (Nat.zero_le _)
      · have hf := ite_t hf c3
        refine v_aload_n (pc := 37) (j := 0) F dX11_readPart_37 rfl rfl ?_
        refine v_aload_n (pc := 38) (j := 0) F dX11_readPart_38 rfl rfl ?_
        refine v_ifl (pc := 39) F fl_X11_33 dX11_readPart_39 km_0.1 km_0.2 fv_10_1 ?_
        obtain ⟨r10, e11, hf⟩ := bnd_some hf
        refine v_callVi (pc := 42) (As := [.ref (gA g 2)]) F cl_X11_248 dX11_readPart_42 (kX11_which km_2.1 km_2.2 e11) km_0.1 km_0.2 rc_10 rfl rfl (Nat.le_of_ble_eq_true rfl) (by omega) (Nat.zero_le _) ?_
        refine v_istore_n (pc := 45) (lv' := [(0, .ref (gA g 0)), (1, .int a1), (2, .int r10)]) F dX11_readPart_45 rfl (by decide) rfl ?_
        refine v_iload_n (pc := 46) (j := 2) F dX11_readPart_46 rfl rfl ?_
        refine v_iconst (pc := 47) (v := (-1)) F dX11_readPart_47 ic_m1 ?_
        refine v_icmp_ne (pc := 48) (tgt := 56) F dX11_readPart_48 (by decide) (fun c12 => ?_) (fun c12 => ?_)
        · have hf := ite_f hf c12
          refine V.sub (lv' := [(0, .ref (gA g 0)), (2, .int r10)]) [0, 2] rfl ?_
          exact tX11_readPart_56 hR F hr hf
        · have hf := ite_t hf c12
          refine v_aload_n (pc := 51) (j := 0) F dX11_readPart_51 rfl rfl ?_
          refine v_iconst (pc := 52) (v := 3) F dX11_readPart_52 ic_3 ?_
          obtain ⟨r18, e19, hf⟩ := bnd_some hf
          refine v_callVv (pc := 53) (As := [.int 3]) F cl_X11_229 dX11_readPart_53 (kX11_wrong e19) km_0.1 km_0.2 rc_10 rfl rfl (Nat.le_of_ble_eq_true rfl) (by omega) (Nat.zero_le _) ?_
          refine V.sub (lv' := [(0, .ref (gA g 0)), (2, .int r10)]) [0, 2] rfl ?_
          exact tX11_readPart_56 hR F hr hf
    · have hf := ite_t hf c2
      refine v_aload_n (pc := 16) (j := 0) F dX11_readPart_16 rfl rfl ?_
      refine v_aload_n (pc := 17) (j := 0) F dX11_readPart_17 rfl rfl ?_
      refine v_iconst (pc := 18) (v := 0) F dX11_readPart_18 ic_0 ?_
      refine v_sipush (pc := 19) (v := 9999) F dX11_readPart_19 sp_9999 ?_
      obtain ⟨r20, e21, hf⟩ := bnd_some hf
      refine v_callVi (pc := 22) (As := [.int 0, .int 9999]) F cl_X11_242 dX11_readPart_22 (kX11_readNumber e21) km_0.1 km_0.2 rc_10 rfl rfl (Nat.le_of_ble_eq_true rfl) (by omega) (Nat.zero_le _) ?_
      obtain ⟨r22, e23, hf⟩ := bnd_some hf
      refine v_callVv (pc := 25) (As := [.int r20.1]) F cl_X11_245 dX11_readPart_25 (kX11_lay e23) km_0.1 km_0.2 rc_10 rfl rfl (Nat.le_of_ble_eq_true rfl) (by omega) (Nat.zero_le _) ?_
      exact v_vret (pc := 28) F hr dX11_readPart_28 (Option.some.inj hf) (Nat.zero_le _)
  · have hf := ite_f hf c1
    exact v_vret (pc := 7) F hr dX11_readPart_7 (Option.some.inj hf) (Nat.zero_le _)
def fX11_readProduct_39 (R : ST → Int32 → Option (ST)) (h : ST) (l1 : Int32) (q0 : Int32) : Option (ST ⊕ ST) :=
  bnd (fX11_stepOn h) fun r9 =>
  bnd (fX11_readPart R r9 l1) fun r11 =>
  bnd (fX11_lay r11 q0) fun r13 =>
  some (.inl r13)
def fX11_readProduct_23 (R : ST → Int32 → Option (ST)) (h : ST) (l1 : Int32) : Option (ST ⊕ ST) :=
  bnd (fX11_isMarked h 42) fun r6 =>
  if r6 = 0 then
  fX11_readProduct_39 R h l1 (-23)
  else
  fX11_readProduct_39 R h l1 (-22)
def fX11_readProduct_5 (R : ST → Int32 → Option (ST)) (l1 : Int32) (s1 : ST) : Option (ST ⊕ ST) :=
  bnd (fX11_isMarked s1 42) fun r3 =>
  if r3 = 0 then
  bnd (fX11_isMarked s1 47) fun r15 =>
    if r15 = 0 then
    some (.inr s1)
    else
    fX11_readProduct_23 R s1 l1
  else
  fX11_readProduct_23 R s1 l1
def fX11_readProduct (R : ST → Int32 → Option (ST)) (h : ST) (a1 : Int32) : Option (ST) :=
  bnd (fX11_readPart R h a1) fun r1 =>
  bnd (lp FU (fX11_readProduct_5 R a1) r1) fun x18 =>
  some x18
set_option maxRecDepth 100000 in
set_option maxHeartbeats 4000000 in
theorem tX11_readProduct_39 {p : Program} {l : Launch} {e : Env} {s : State} {m : MethodId} {args : Array Value} {below : List Frame} {meth : Method} {c : Code} {g : GE} {B : Nat} {dd : Nat} {R : ST → Int32 → Option (ST)} (hR : ∀ {h : ST} {a1 : Int32} {y : ST}, R h a1 = some y → CT l yX11_readExpression cX11_readExpression 3 none (14 + 6 * dd) KM 43 g B [.ref (gA g 0), .int a1] h none y) {h : ST}  {l1 : Int32} {q0 : Int32} (F : Fx p s m args meth c cX11_readProduct 3 "DustParishModel" 43 g B)
    {Q : State → Prop} {y : ST ⊕ ST} (hk : ∀ v : ST, y = Sum.inl v → V p l e (14 + 6 * dd + 2) 0 s m args below meth c Q KM 43 g B 3 0 v 5 [(0, .ref (gA g 0)), (1, .int l1)] []) (hx0 : ∀ v : ST, y = Sum.inr v → V p l e (14 + 6 * dd + 2) 0 s m args below meth c Q KM 43 g B 3 0 v 57 [] []) (hf : fX11_readProduct_39 R h l1 q0 = some y) : V p l e (14 + 6 * dd + 2) 0 s m args below meth c Q KM 43 g B 3 0 h 39 [(0, .ref (gA g 0)), (1, .int l1)] [.int q0] := by
  unfold fX11_readProduct_39 at hf
  refine v_istore_n (pc := 39) (lv' := [(0, .ref (gA g 0)), (1, .int l1), (2, .int q0)]) F dX11_readProduct_39 rfl (by decide) rfl ?_
  refine v_aload_n (pc := 40) (j := 0) F dX11_readProduct_40 rfl rfl ?_
  obtain ⟨r9, e10, hf⟩ := bnd_some hf
  refine v_callVv (pc := 41) (As := []) F cl_X11_233 dX11_readProduct_41 (kX11_stepOn e10) km_0.1 km_0.2 rc_10 rfl rfl (Nat.le_of_ble_eq_true rfl) (by omega) (Nat.zero_le _) ?_
  refine v_aload_n (pc := 44) (j := 0) F dX11_readProduct_44 rfl rfl ?_
  refine v_iload_n (pc := 45) (j := 1) F dX11_readProduct_45 rfl rfl ?_
  obtain ⟨r11, e12, hf⟩ := bnd_some hf
  refine v_callVv (pc := 46) (As := [.int l1]) F cl_X11_258 dX11_readProduct_46 (kX11_readPart hR e12) km_0.1 km_0.2 rc_10 rfl rfl (Nat.le_of_ble_eq_true rfl) (by omega) (Nat.zero_le _) ?_
  refine v_aload_n (pc := 49) (j := 0) F dX11_readProduct_49 rfl rfl ?_
  refine v_iload_n (pc := 50) (j := 2) F dX11_readProduct_50 rfl rfl ?_
  obtain ⟨r13, e14, hf⟩ := bnd_some hf
  refine v_callVv (pc := 51) (As := [.int q0]) F cl_X11_245 dX11_readProduct_51 (kX11_lay e14) km_0.1 km_0.2 rc_10 rfl rfl (Nat.le_of_ble_eq_true rfl) (by omega) (Nat.zero_le _) ?_
  refine v_goto (pc := 54) (tgt := 5) F dX11_readProduct_54 (by decide) ?_
  refine V.sub (lv' := [(0, .ref (gA g 0)), (1, .int l1)]) [0, 1] rfl ?_
  exact hk r13 (Option.some.inj hf).symm
set_option maxRecDepth 100000 in
set_option maxHeartbeats 4000000 in
theorem tX11_readProduct_23 {p : Program} {l : Launch} {e : Env} {s : State} {m : MethodId} {args : Array Value} {below : List Frame} {meth : Method} {c : Code} {g : GE} {B : Nat} {dd : Nat} {R : ST → Int32 → Option (ST)} (hR : ∀ {h : ST} {a1 : Int32} {y : ST}, R h a1 = some y → CT l yX11_readExpression cX11_readExpression 3 none (14 + 6 * dd) KM 43 g B [.ref (gA g 0), .int a1] h none y) {h : ST}  {l1 : Int32} (F : Fx p s m args meth c cX11_readProduct 3 "DustParishModel" 43 g B)
    {Q : State → Prop} {y : ST ⊕ ST} (hk : ∀ v : ST, y = Sum.inl v → V p l e (14 + 6 * dd + 2) 0 s m args below meth c Q KM 43 g B 3 0 v 5 [(0, .ref (gA g 0)), (1, .int l1)] []) (hx0 : ∀ v : ST, y = Sum.inr v → V p l e (14 + 6 * dd + 2) 0 s m args below meth c Q KM 43 g B 3 0 v 57 [] []) (hf : fX11_readProduct_23 R h l1 = some y) : V p l e (14 + 6 * dd + 2) 0 s m args below meth c Q KM 43 g B 3 0 h 23 [(0, .ref (gA g 0)), (1, .int l1)] [] := by
  unfold fX11_readProduct_23 at hf
  refine v_aload_n (pc := 23) (j := 0) F dX11_readProduct_23 rfl rfl ?_
  refine v_bipush (pc := 24) (v := 42) F dX11_readProduct_24 bp_42 ?_
  obtain ⟨r6, e7, hf⟩ := bnd_some hf
  refine v_callVi (pc := 26) (As := [.int 42]) F cl_X11_226 dX11_readProduct_26 (kX11_isMarked e7) km_0.1 km_0.2 rc_10 rfl rfl (Nat.le_of_ble_eq_true rfl) (by omega) (Nat.zero_le _) ?_
  refine v_if_eq (pc := 29) (tgt := 37) F dX11_readProduct_29 (by decide) (fun c8 => ?_) (fun c8 => ?_)
  · have hf := ite_t hf c8
    refine v_bipush (pc := 37) (v := (-23)) F dX11_readProduct_37 bp_m23 ?_
    exact tX11_readProduct_39 hR F hk hx0 hf
  · have hf := ite_f hf c8
    refine v_bipush (pc := 32) (v := (-22)) F dX11_readProduct_32 bp_m22 ?_
    refine v_goto (pc := 34) (tgt := 39) F dX11_readProduct_34 (by decide) ?_
    exact tX11_readProduct_39 hR F hk hx0 hf
set_option maxRecDepth 100000 in
set_option maxHeartbeats 4000000 in
theorem tX11_readProduct_5 {p : Program} {l : Launch} {e : Env} {s : State} {m : MethodId} {args : Array Value} {below : List Frame} {meth : Method} {c : Code} {g : GE} {B : Nat} {dd : Nat} {R : ST → Int32 → Option (ST)} (hR : ∀ {h : ST} {a1 : Int32} {y : ST}, R h a1 = some y → CT l yX11_readExpression cX11_readExpression 3 none (14 + 6 * dd) KM 43 g B [.ref (gA g 0), .int a1] h none y)   {l1 : Int32} {Q : State → Prop} {x : ST} {nf : Nat} {s0 : ST} (F : Fx p s m args meth c cX11_readProduct 3 "DustParishModel" 43 g B) (hX0 : V p l e (14 + 6 * dd + 2) 0 s m args below meth c Q KM 43 g B 3 0 x 57 [] []) (hl : lp nf (fX11_readProduct_5 R l1) s0 = some x) : V p l e (14 + 6 * dd + 2) 0 s m args below meth c Q KM 43 g B 3 0 s0 5 [(0, .ref (gA g 0)), (1, .int l1)] [] := by
  refine lp_ind (P := fun s0 => V p l e (14 + 6 * dd + 2) 0 s m args below meth c Q KM 43 g B 3 0 s0 5 [(0, .ref (gA g 0)), (1, .int l1)] []) ?_ nf s0 hl
  intro s1 y hf hk hx
  have hx0 : ∀ v : ST, y = Sum.inr v → V p l e (14 + 6 * dd + 2) 0 s m args below meth c Q KM 43 g B 3 0 v 57 [] [] := fun v e9 => by rw [hx v e9]; exact hX0
  unfold fX11_readProduct_5 at hf
  refine v_aload_n (pc := 5) (j := 0) F dX11_readProduct_5 rfl rfl ?_
  refine v_bipush (pc := 6) (v := 42) F dX11_readProduct_6 bp_42 ?_
  obtain ⟨r3, e4, hf⟩ := bnd_some hf
  refine v_callVi (pc := 8) (As := [.int 42]) F cl_X11_226 dX11_readProduct_8 (kX11_isMarked e4) km_0.1 km_0.2 rc_10 rfl rfl (Nat.le_of_ble_eq_true rfl) (by omega) (Nat.zero_le _) ?_
  refine v_if_ne (pc := 11) (tgt := 23) F dX11_readProduct_11 (by decide) (fun c5 => ?_) (fun c5 => ?_)
  · have hf := ite_f hf c5
    exact tX11_readProduct_23 hR F hk hx0 hf
  · have hf := ite_t hf c5
    refine v_aload_n (pc := 14) (j := 0) F dX11_readProduct_14 rfl rfl ?_
    refine v_bipush (pc := 15) (v := 47) F dX11_readProduct_15 bp_47 ?_
    obtain ⟨r15, e16, hf⟩ := bnd_some hf
    refine v_callVi (pc := 17) (As := [.int 47]) F cl_X11_226 dX11_readProduct_17 (kX11_isMarked e16) km_0.1 km_0.2 rc_10 rfl rfl (Nat.le_of_ble_eq_true rfl) (by omega) (Nat.zero_le _) ?_
    refine v_if_eq (pc := 20) (tgt := 57) F dX11_readProduct_20 (by decide) (fun c17 => ?_) (fun c17 => ?_)
    · have hf := ite_t hf c17
      refine V.sub (lv' := []) [] rfl ?_
      exact hx0 s1 (Option.some.inj hf).symm
    · have hf := ite_f hf c17
      exact tX11_readProduct_23 hR F hk hx0 hf
set_option maxRecDepth 100000 in
set_option maxHeartbeats 4000000 in
theorem kX11_readProduct {l : Launch} {g : GE} {B : Nat} {dd : Nat} {R : ST → Int32 → Option (ST)} (hR : ∀ {h : ST} {a1 : Int32} {y : ST}, R h a1 = some y → CT l yX11_readExpression cX11_readExpression 3 none (14 + 6 * dd) KM 43 g B [.ref (gA g 0), .int a1] h none y) {h : ST} {a1 : Int32} {y : ST} (hf : fX11_readProduct R h a1 = some y) : CT l yX11_readProduct cX11_readProduct 3 none (14 + 6 * dd + 2) KM 43 g B [.ref (gA g 0), .int a1] h none y := by
  refine CT.of pn_X11 (Nat.le_of_ble_eq_true rfl) ?_
  intro p e s m below meth c hr F
  have F : Fx p s m _ meth c cX11_readProduct 3 "DustParishModel" 43 g B := F
  refine V_lv (lv' := [(0, .ref (gA g 0)), (1, .int a1)]) rfl ?_
  unfold fX11_readProduct at hf
  refine v_aload_n (pc := 0) (j := 0) F dX11_readProduct_0 rfl rfl ?_
  refine v_iload_n (pc := 1) (j := 1) F dX11_readProduct_1 rfl rfl ?_
  obtain ⟨r1, e2, hf⟩ := bnd_some hf
  refine v_callVv (pc := 2) (As := [.int a1]) F cl_X11_258 dX11_readProduct_2 (kX11_readPart hR e2) km_0.1 km_0.2 rc_10 rfl rfl (Nat.le_of_ble_eq_true rfl) (by omega) (Nat.zero_le _) ?_
  obtain ⟨x18, e19, hf⟩ := bnd_some hf
  refine tX11_readProduct_5 (s0 := r1) hR F ?_ e19
  exact v_vret (pc := 57) F hr dX11_readProduct_57 (Option.some.inj hf) (Nat.zero_le _)
def fX11_readSum_39 (R : ST → Int32 → Option (ST)) (h : ST) (l1 : Int32) (q0 : Int32) : Option (ST ⊕ ST) :=
  bnd (fX11_stepOn h) fun r9 =>
  bnd (fX11_readProduct R r9 l1) fun r11 =>
  bnd (fX11_lay r11 q0) fun r13 =>
  some (.inl r13)
def fX11_readSum_23 (R : ST → Int32 → Option (ST)) (h : ST) (l1 : Int32) : Option (ST ⊕ ST) :=
  bnd (fX11_isMarked h 43) fun r6 =>
  if r6 = 0 then
  fX11_readSum_39 R h l1 (-21)
  else
  fX11_readSum_39 R h l1 (-20)
def fX11_readSum_5 (R : ST → Int32 → Option (ST)) (l1 : Int32) (s1 : ST) : Option (ST ⊕ ST) :=
  bnd (fX11_isMarked s1 43) fun r3 =>
  if r3 = 0 then
  bnd (fX11_isMarked s1 45) fun r15 =>
    if r15 = 0 then
    some (.inr s1)
    else
    fX11_readSum_23 R s1 l1
  else
  fX11_readSum_23 R s1 l1
def fX11_readSum (R : ST → Int32 → Option (ST)) (h : ST) (a1 : Int32) : Option (ST) :=
  bnd (fX11_readProduct R h a1) fun r1 =>
  bnd (lp FU (fX11_readSum_5 R a1) r1) fun x18 =>
  some x18
set_option maxRecDepth 100000 in
set_option maxHeartbeats 4000000 in
theorem tX11_readSum_39 {p : Program} {l : Launch} {e : Env} {s : State} {m : MethodId} {args : Array Value} {below : List Frame} {meth : Method} {c : Code} {g : GE} {B : Nat} {dd : Nat} {R : ST → Int32 → Option (ST)} (hR : ∀ {h : ST} {a1 : Int32} {y : ST}, R h a1 = some y → CT l yX11_readExpression cX11_readExpression 3 none (14 + 6 * dd) KM 43 g B [.ref (gA g 0), .int a1] h none y) {h : ST}  {l1 : Int32} {q0 : Int32} (F : Fx p s m args meth c cX11_readSum 3 "DustParishModel" 43 g B)
    {Q : State → Prop} {y : ST ⊕ ST} (hk : ∀ v : ST, y = Sum.inl v → V p l e (14 + 6 * dd + 3) 0 s m args below meth c Q KM 43 g B 3 0 v 5 [(0, .ref (gA g 0)), (1, .int l1)] []) (hx0 : ∀ v : ST, y = Sum.inr v → V p l e (14 + 6 * dd + 3) 0 s m args below meth c Q KM 43 g B 3 0 v 57 [] []) (hf : fX11_readSum_39 R h l1 q0 = some y) : V p l e (14 + 6 * dd + 3) 0 s m args below meth c Q KM 43 g B 3 0 h 39 [(0, .ref (gA g 0)), (1, .int l1)] [.int q0] := by
  unfold fX11_readSum_39 at hf
  refine v_istore_n (pc := 39) (lv' := [(0, .ref (gA g 0)), (1, .int l1), (2, .int q0)]) F dX11_readSum_39 rfl (by decide) rfl ?_
  refine v_aload_n (pc := 40) (j := 0) F dX11_readSum_40 rfl rfl ?_
  obtain ⟨r9, e10, hf⟩ := bnd_some hf
  refine v_callVv (pc := 41) (As := []) F cl_X11_233 dX11_readSum_41 (kX11_stepOn e10) km_0.1 km_0.2 rc_10 rfl rfl (Nat.le_of_ble_eq_true rfl) (by omega) (Nat.zero_le _) ?_
  refine v_aload_n (pc := 44) (j := 0) F dX11_readSum_44 rfl rfl ?_
  refine v_iload_n (pc := 45) (j := 1) F dX11_readSum_45 rfl rfl ?_
  obtain ⟨r11, e12, hf⟩ := bnd_some hf
  refine v_callVv (pc := 46) (As := [.int l1]) F cl_X11_261 dX11_readSum_46 (kX11_readProduct hR e12) km_0.1 km_0.2 rc_10 rfl rfl (Nat.le_of_ble_eq_true rfl) (by omega) (Nat.zero_le _) ?_
  refine v_aload_n (pc := 49) (j := 0) F dX11_readSum_49 rfl rfl ?_
  refine v_iload_n (pc := 50) (j := 2) F dX11_readSum_50 rfl rfl ?_
  obtain ⟨r13, e14, hf⟩ := bnd_some hf
  refine v_callVv (pc := 51) (As := [.int q0]) F cl_X11_245 dX11_readSum_51 (kX11_lay e14) km_0.1 km_0.2 rc_10 rfl rfl (Nat.le_of_ble_eq_true rfl) (by omega) (Nat.zero_le _) ?_
  refine v_goto (pc := 54) (tgt := 5) F dX11_readSum_54 (by decide) ?_
  refine V.sub (lv' := [(0, .ref (gA g 0)), (1, .int l1)]) [0, 1] rfl ?_
  exact hk r13 (Option.some.inj hf).symm
set_option maxRecDepth 100000 in
set_option maxHeartbeats 4000000 in
theorem tX11_readSum_23 {p : Program} {l : Launch} {e : Env} {s : State} {m : MethodId} {args : Array Value} {below : List Frame} {meth : Method} {c : Code} {g : GE} {B : Nat} {dd : Nat} {R : ST → Int32 → Option (ST)} (hR : ∀ {h : ST} {a1 : Int32} {y : ST}, R h a1 = some y → CT l yX11_readExpression cX11_readExpression 3 none (14 + 6 * dd) KM 43 g B [.ref (gA g 0), .int a1] h none y) {h : ST}  {l1 : Int32} (F : Fx p s m args meth c cX11_readSum 3 "DustParishModel" 43 g B)
    {Q : State → Prop} {y : ST ⊕ ST} (hk : ∀ v : ST, y = Sum.inl v → V p l e (14 + 6 * dd + 3) 0 s m args below meth c Q KM 43 g B 3 0 v 5 [(0, .ref (gA g 0)), (1, .int l1)] []) (hx0 : ∀ v : ST, y = Sum.inr v → V p l e (14 + 6 * dd + 3) 0 s m args below meth c Q KM 43 g B 3 0 v 57 [] []) (hf : fX11_readSum_23 R h l1 = some y) : V p l e (14 + 6 * dd + 3) 0 s m args below meth c Q KM 43 g B 3 0 h 23 [(0, .ref (gA g 0)), (1, .int l1)] [] := by
  unfold fX11_readSum_23 at hf
  refine v_aload_n (pc := 23) (j := 0) F dX11_readSum_23 rfl rfl ?_
  refine v_bipush (pc := 24) (v := 43) F dX11_readSum_24 bp_43 ?_
  obtain ⟨r6, e7, hf⟩ := bnd_some hf
  refine v_callVi (pc := 26) (As := [.int 43]) F cl_X11_226 dX11_readSum_26 (kX11_isMarked e7) km_0.1 km_0.2 rc_10 rfl rfl (Nat.le_of_ble_eq_true rfl) (by omega) (Nat.zero_le _) ?_
  refine v_if_eq (pc := 29) (tgt := 37) F dX11_readSum_29 (by decide) (fun c8 => ?_) (fun c8 => ?_)
  · have hf := ite_t hf c8
    refine v_bipush (pc := 37) (v := (-21)) F dX11_readSum_37 bp_m21 ?_
    exact tX11_readSum_39 hR F hk hx0 hf
  · have hf := ite_f hf c8
    refine v_bipush (pc := 32) (v := (-20)) F dX11_readSum_32 bp_m20 ?_
    refine v_goto (pc := 34) (tgt := 39) F dX11_readSum_34 (by decide) ?_
    exact tX11_readSum_39 hR F hk hx0 hf
set_option maxRecDepth 100000 in
set_option maxHeartbeats 4000000 in
theorem tX11_readSum_5 {p : Program} {l : Launch} {e : Env} {s : State} {m : MethodId} {args : Array Value} {below : List Frame} {meth : Method} {c : Code} {g : GE} {B : Nat} {dd : Nat} {R : ST → Int32 → Option (ST)} (hR : ∀ {h : ST} {a1 : Int32} {y : ST}, R h a1 = some y → CT l yX11_readExpression cX11_readExpression 3 none (14 + 6 * dd) KM 43 g B [.ref (gA g 0), .int a1] h none y)   {l1 : Int32} {Q : State → Prop} {x : ST} {nf : Nat} {s0 : ST} (F : Fx p s m args meth c cX11_readSum 3 "DustParishModel" 43 g B) (hX0 : V p l e (14 + 6 * dd + 3) 0 s m args below meth c Q KM 43 g B 3 0 x 57 [] []) (hl : lp nf (fX11_readSum_5 R l1) s0 = some x) : V p l e (14 + 6 * dd + 3) 0 s m args below meth c Q KM 43 g B 3 0 s0 5 [(0, .ref (gA g 0)), (1, .int l1)] [] := by
  refine lp_ind (P := fun s0 => V p l e (14 + 6 * dd + 3) 0 s m args below meth c Q KM 43 g B 3 0 s0 5 [(0, .ref (gA g 0)), (1, .int l1)] []) ?_ nf s0 hl
  intro s1 y hf hk hx
  have hx0 : ∀ v : ST, y = Sum.inr v → V p l e (14 + 6 * dd + 3) 0 s m args below meth c Q KM 43 g B 3 0 v 57 [] [] := fun v e9 => by rw [hx v e9]; exact hX0
  unfold fX11_readSum_5 at hf
  refine v_aload_n (pc := 5) (j := 0) F dX11_readSum_5 rfl rfl ?_
  refine v_bipush (pc := 6) (v := 43) F dX11_readSum_6 bp_43 ?_
  obtain ⟨r3, e4, hf⟩ := bnd_some hf
  refine v_callVi (pc := 8) (As := [.int 43]) F cl_X11_226 dX11_readSum_8 (kX11_isMarked e4) km_0.1 km_0.2 rc_10 rfl rfl (Nat.le_of_ble_eq_true rfl) (by omega) (Nat.zero_le _) ?_
  refine v_if_ne (pc := 11) (tgt := 23) F dX11_readSum_11 (by decide) (fun c5 => ?_) (fun c5 => ?_)
  · have hf := ite_f hf c5
    exact tX11_readSum_23 hR F hk hx0 hf
  · have hf := ite_t hf c5
    refine v_aload_n (pc := 14) (j := 0) F dX11_readSum_14 rfl rfl ?_
    refine v_bipush (pc := 15) (v := 45) F dX11_readSum_15 bp_45 ?_
    obtain ⟨r15, e16, hf⟩ := bnd_some hf
    refine v_callVi (pc := 17) (As := [.int 45]) F cl_X11_226 dX11_readSum_17 (kX11_isMarked e16) km_0.1 km_0.2 rc_10 rfl rfl (Nat.le_of_ble_eq_true rfl) (by omega) (Nat.zero_le _) ?_
    refine v_if_eq (pc := 20) (tgt := 57) F dX11_readSum_20 (by decide) (fun c17 => ?_) (fun c17 => ?_)
    · have hf := ite_t hf c17
      refine V.sub (lv' := []) [] rfl ?_
      exact hx0 s1 (Option.some.inj hf).symm
    · have hf := ite_f hf c17
      exact tX11_readSum_23 hR F hk hx0 hf
set_option maxRecDepth 100000 in
set_option maxHeartbeats 4000000 in
theorem kX11_readSum {l : Launch} {g : GE} {B : Nat} {dd : Nat} {R : ST → Int32 → Option (ST)} (hR : ∀ {h : ST} {a1 : Int32} {y : ST}, R h a1 = some y → CT l yX11_readExpression cX11_readExpression 3 none (14 + 6 * dd) KM 43 g B [.ref (gA g 0), .int a1] h none y) {h : ST} {a1 : Int32} {y : ST} (hf : fX11_readSum R h a1 = some y) : CT l yX11_readSum cX11_readSum 3 none (14 + 6 * dd + 3) KM 43 g B [.ref (gA g 0), .int a1] h none y := by
  refine CT.of pn_X11 (Nat.le_of_ble_eq_true rfl) ?_
  intro p e s m below meth c hr F
  have F : Fx p s m _ meth c cX11_readSum 3 "DustParishModel" 43 g B := F
  refine V_lv (lv' := [(0, .ref (gA g 0)), (1, .int a1)]) rfl ?_
  unfold fX11_readSum at hf
  refine v_aload_n (pc := 0) (j := 0) F dX11_readSum_0 rfl rfl ?_
  refine v_iload_n (pc := 1) (j := 1) F dX11_readSum_1 rfl rfl ?_
  obtain ⟨r1, e2, hf⟩ := bnd_some hf
  refine v_callVv (pc := 2) (As := [.int a1]) F cl_X11_261 dX11_readSum_2 (kX11_readProduct hR e2) km_0.1 km_0.2 rc_10 rfl rfl (Nat.le_of_ble_eq_true rfl) (by omega) (Nat.zero_le _) ?_
  obtain ⟨x18, e19, hf⟩ := bnd_some hf
  refine tX11_readSum_5 (s0 := r1) hR F ?_ e19
  exact v_vret (pc := 57) F hr dX11_readSum_57 (Option.some.inj hf) (Nat.zero_le _)
def fX11_readNot_23 (R : ST → Int32 → Option (ST)) (h : ST) (l1 : Int32) (l2 : Int32) : Option ((ST × Int32) ⊕ (ST × Int32)) :=
  if (h 0 26) = 0 then
  bnd (fX11_stepOn h) fun r6 =>
    some (.inl (r6, l2 + 1))
  else
  some (.inl (h, l2 + 1))
def fX11_readNot_2 (R : ST → Int32 → Option (ST)) (l1 : Int32) (s1 : (ST × Int32)) : Option ((ST × Int32) ⊕ (ST × Int32)) :=
  bnd (fX11_is s1.1 11) fun r1 =>
  if r1 = 0 then
  some (.inr (s1.1, s1.2))
  else
  if s1.2 = 6 then
    bnd (fX11_wrong s1.1 2) fun r8 =>
      fX11_readNot_23 R r8 l1 s1.2
    else
    fX11_readNot_23 R s1.1 l1 s1.2
def fX11_readNot_96 (R : ST → Int32 → Option (ST)) (l2 : Int32) (s1 : (ST × Int32)) : Option ((ST × Int32) ⊕ ST) :=
  if l2 ≤ s1.2 then
  some (.inr s1.1)
  else
  bnd (fX11_lay s1.1 (-28)) fun r27 =>
    some (.inl (r27, s1.2 + 1))
def fX11_readNot_94 (R : ST → Int32 → Option (ST)) (h : ST) (l2 : Int32) : Option (ST) :=
  bnd (lp FU (fX11_readNot_96 R l2) (h, 0)) fun x29 =>
  some x29
def fX11_readNot_79 (R : ST → Int32 → Option (ST)) (h : ST) (l1 : Int32) (l2 : Int32) (q0 : Int32) : Option (ST) :=
  bnd (fX11_stepOn h) fun r20 =>
  bnd (fX11_readSum R r20 l1) fun r22 =>
  bnd (fX11_lay r22 q0) fun r24 =>
  fX11_readNot_94 R r24 l2
def fX11_readNot_63 (R : ST → Int32 → Option (ST)) (h : ST) (l1 : Int32) (l2 : Int32) : Option (ST) :=
  bnd (fX11_isMarked h 60) fun r17 =>
  if r17 = 0 then
  fX11_readNot_79 R h l1 l2 (-25)
  else
  fX11_readNot_79 R h l1 l2 (-24)
def fX11_readNot (R : ST → Int32 → Option (ST)) (h : ST) (a1 : Int32) : Option (ST) :=
  bnd (lp FU (fX11_readNot_2 R a1) (h, 0)) fun x10 =>
  bnd (fX11_readSum R x10.1 a1) fun r12 =>
  bnd (fX11_isMarked r12 60) fun r14 =>
  if r14 = 0 then
  bnd (fX11_isMarked r12 61) fun r31 =>
    if r31 = 0 then
    fX11_readNot_94 R r12 x10.2
    else
    fX11_readNot_63 R r12 a1 x10.2
  else
  fX11_readNot_63 R r12 a1 x10.2
set_option maxRecDepth 100000 in
set_option maxHeartbeats 4000000 in
theorem tX11_readNot_23 {p : Program} {l : Launch} {e : Env} {s : State} {m : MethodId} {args : Array Value} {below : List Frame} {meth : Method} {c : Code} {g : GE} {B : Nat} {dd : Nat} {R : ST → Int32 → Option (ST)} (hR : ∀ {h : ST} {a1 : Int32} {y : ST}, R h a1 = some y → CT l yX11_readExpression cX11_readExpression 3 none (14 + 6 * dd) KM 43 g B [.ref (gA g 0), .int a1] h none y) {h : ST}  {l1 : Int32} {l2 : Int32} (F : Fx p s m args meth c cX11_readNot 4 "DustParishModel" 43 g B)
    {Q : State → Prop} {y : (ST × Int32) ⊕ (ST × Int32)} (hk : ∀ v : (ST × Int32), y = Sum.inl v → V p l e (14 + 6 * dd + 4) 0 s m args below meth c Q KM 43 g B 4 0 v.1 2 [(0, .ref (gA g 0)), (1, .int l1), (2, .int v.2)] []) (hx0 : ∀ v : (ST × Int32), y = Sum.inr v → V p l e (14 + 6 * dd + 4) 0 s m args below meth c Q KM 43 g B 4 0 v.1 40 [(0, .ref (gA g 0)), (1, .int l1), (2, .int v.2)] []) (hf : fX11_readNot_23 R h l1 l2 = some y) : V p l e (14 + 6 * dd + 4) 0 s m args below meth c Q KM 43 g B 4 0 h 23 [(0, .ref (gA g 0)), (1, .int l1), (2, .int l2)] [] := by
  unfold fX11_readNot_23 at hf
  refine v_iinc (pc := 23) (j := 2) (v := l2 + 1) (lv' := [(0, .ref (gA g 0)), (1, .int l1), (2, .int (l2 + 1))]) F dX11_readNot_23 rfl (congrArg (fun z => l2 + z) ic_1) (by decide) rfl ?_
  refine v_aload_n (pc := 26) (j := 0) F dX11_readNot_26 rfl rfl ?_
  refine v_ifl (pc := 27) F fl_X11_208 dX11_readNot_27 km_0.1 km_0.2 fv_10_26 ?_
  refine v_if_ne (pc := 30) (tgt := 2) F dX11_readNot_30 (by decide) (fun c5 => ?_) (fun c5 => ?_)
  · have hf := ite_f hf c5
    exact hk (h, l2 + 1) (Option.some.inj hf).symm
  · have hf := ite_t hf c5
    refine v_aload_n (pc := 33) (j := 0) F dX11_readNot_33 rfl rfl ?_
    obtain ⟨r6, e7, hf⟩ := bnd_some hf
    refine v_callVv (pc := 34) (As := []) F cl_X11_233 dX11_readNot_34 (kX11_stepOn e7) km_0.1 km_0.2 rc_10 rfl rfl (Nat.le_of_ble_eq_true rfl) (by omega) (Nat.zero_le _) ?_
    refine v_goto (pc := 37) (tgt := 2) F dX11_readNot_37 (by decide) ?_
    exact hk (r6, l2 + 1) (Option.some.inj hf).symm
set_option maxRecDepth 100000 in
set_option maxHeartbeats 4000000 in
theorem tX11_readNot_2 {p : Program} {l : Launch} {e : Env} {s : State} {m : MethodId} {args : Array Value} {below : List Frame} {meth : Method} {c : Code} {g : GE} {B : Nat} {dd : Nat} {R : ST → Int32 → Option (ST)} (hR : ∀ {h : ST} {a1 : Int32} {y : ST}, R h a1 = some y → CT l yX11_readExpression cX11_readExpression 3 none (14 + 6 * dd) KM 43 g B [.ref (gA g 0), .int a1] h none y)   {l1 : Int32} {Q : State → Prop} {x : (ST × Int32)} {nf : Nat} {s0 : (ST × Int32)} (F : Fx p s m args meth c cX11_readNot 4 "DustParishModel" 43 g B) (hX0 : V p l e (14 + 6 * dd + 4) 0 s m args below meth c Q KM 43 g B 4 0 x.1 40 [(0, .ref (gA g 0)), (1, .int l1), (2, .int x.2)] []) (hl : lp nf (fX11_readNot_2 R l1) s0 = some x) : V p l e (14 + 6 * dd + 4) 0 s m args below meth c Q KM 43 g B 4 0 s0.1 2 [(0, .ref (gA g 0)), (1, .int l1), (2, .int s0.2)] [] := by
  refine lp_ind (P := fun s0 => V p l e (14 + 6 * dd + 4) 0 s m args below meth c Q KM 43 g B 4 0 s0.1 2 [(0, .ref (gA g 0)), (1, .int l1), (2, .int s0.2)] []) ?_ nf s0 hl
  intro s1 y hf hk hx
  have hx0 : ∀ v : (ST × Int32), y = Sum.inr v → V p l e (14 + 6 * dd + 4) 0 s m args below meth c Q KM 43 g B 4 0 v.1 40 [(0, .ref (gA g 0)), (1, .int l1), (2, .int v.2)] [] := fun v e9 => by rw [hx v e9]; exact hX0
  unfold fX11_readNot_2 at hf
  refine v_aload_n (pc := 2) (j := 0) F dX11_readNot_2 rfl rfl ?_
  refine v_ldcSW (pc := 3) (j := 11) (tx := "not") F (by decide) dX11_readNot_3 ?_
  obtain ⟨r1, e2, hf⟩ := bnd_some hf
  refine v_callVi (pc := 6) (As := [.ref (gK g 11)]) F cl_X11_222 dX11_readNot_6 (kX11_is (by decide) e2) km_0.1 km_0.2 rc_10 rfl rfl (Nat.le_of_ble_eq_true rfl) (by omega) (Nat.zero_le _) ?_
  refine v_if_eq (pc := 9) (tgt := 40) F dX11_readNot_9 (by decide) (fun c3 => ?_) (fun c3 => ?_)
  · have hf := ite_t hf c3
    exact hx0 (s1.1, s1.2) (Option.some.inj hf).symm
  · have hf := ite_f hf c3
    refine v_iload_n (pc := 12) (j := 2) F dX11_readNot_12 rfl rfl ?_
    refine v_bipush (pc := 13) (v := 6) F dX11_readNot_13 bp_6 ?_
    refine v_icmp_ne (pc := 15) (tgt := 23) F dX11_readNot_15 (by decide) (fun c4 => ?_) (fun c4 => ?_)
    · have hf := ite_f hf c4
      exact tX11_readNot_23 hR F hk hx0 hf
    · have hf := ite_t hf c4
      refine v_aload_n (pc := 18) (j := 0) F dX11_readNot_18 rfl rfl ?_
      refine v_iconst (pc := 19) (v := 2) F dX11_readNot_19 ic_2 ?_
      obtain ⟨r8, e9, hf⟩ := bnd_some hf
      refine v_callVv (pc := 20) (As := [.int 2]) F cl_X11_229 dX11_readNot_20 (kX11_wrong e9) km_0.1 km_0.2 rc_10 rfl rfl (Nat.le_of_ble_eq_true rfl) (by omega) (Nat.zero_le _) ?_
      exact tX11_readNot_23 hR F hk hx0 hf
set_option maxRecDepth 100000 in
set_option maxHeartbeats 4000000 in
theorem tX11_readNot_96 {p : Program} {l : Launch} {e : Env} {s : State} {m : MethodId} {args : Array Value} {below : List Frame} {meth : Method} {c : Code} {g : GE} {B : Nat} {dd : Nat} {R : ST → Int32 → Option (ST)} (hR : ∀ {h : ST} {a1 : Int32} {y : ST}, R h a1 = some y → CT l yX11_readExpression cX11_readExpression 3 none (14 + 6 * dd) KM 43 g B [.ref (gA g 0), .int a1] h none y)   {l2 : Int32} {Q : State → Prop} {x : ST} {nf : Nat} {s0 : (ST × Int32)} (F : Fx p s m args meth c cX11_readNot 4 "DustParishModel" 43 g B) (hX0 : V p l e (14 + 6 * dd + 4) 0 s m args below meth c Q KM 43 g B 4 0 x 113 [] []) (hl : lp nf (fX11_readNot_96 R l2) s0 = some x) : V p l e (14 + 6 * dd + 4) 0 s m args below meth c Q KM 43 g B 4 0 s0.1 96 [(0, .ref (gA g 0)), (2, .int l2), (3, .int s0.2)] [] := by
  refine lp_ind (P := fun s0 => V p l e (14 + 6 * dd + 4) 0 s m args below meth c Q KM 43 g B 4 0 s0.1 96 [(0, .ref (gA g 0)), (2, .int l2), (3, .int s0.2)] []) ?_ nf s0 hl
  intro s1 y hf hk hx
  have hx0 : ∀ v : ST, y = Sum.inr v → V p l e (14 + 6 * dd + 4) 0 s m args below meth c Q KM 43 g B 4 0 v 113 [] [] := fun v e9 => by rw [hx v e9]; exact hX0
  unfold fX11_readNot_96 at hf
  refine v_iload_n (pc := 96) (j := 2) F dX11_readNot_96 rfl rfl ?_
  refine v_iload_n (pc := 97) (j := 1) F dX11_readNot_97 rfl rfl ?_
  refine v_icmp_ge (pc := 98) (tgt := 113) F dX11_readNot_98 (by decide) (fun c26 => ?_) (fun c26 => ?_)
  · have hf := ite_t hf c26
    refine V.sub (lv' := []) [] rfl ?_
    exact hx0 s1.1 (Option.some.inj hf).symm
  · have hf := ite_f hf c26
    refine v_aload_n (pc := 101) (j := 0) F dX11_readNot_101 rfl rfl ?_
    refine v_bipush (pc := 102) (v := (-28)) F dX11_readNot_102 bp_m28 ?_
    obtain ⟨r27, e28, hf⟩ := bnd_some hf
    refine v_callVv (pc := 104) (As := [.int (-28)]) F cl_X11_245 dX11_readNot_104 (kX11_lay e28) km_0.1 km_0.2 rc_10 rfl rfl (Nat.le_of_ble_eq_true rfl) (by omega) (Nat.zero_le _) ?_
    refine v_iinc (pc := 107) (j := 2) (v := s1.2 + 1) (lv' := [(0, .ref (gA g 0)), (2, .int l2), (3, .int (s1.2 + 1))]) F dX11_readNot_107 rfl (congrArg (fun z => s1.2 + z) ic_1) (by decide) rfl ?_
    refine v_goto (pc := 110) (tgt := 96) F dX11_readNot_110 (by decide) ?_
    exact hk (r27, s1.2 + 1) (Option.some.inj hf).symm
set_option maxRecDepth 100000 in
set_option maxHeartbeats 4000000 in
theorem tX11_readNot_94 {p : Program} {l : Launch} {e : Env} {s : State} {m : MethodId} {args : Array Value} {below : List Frame} {meth : Method} {c : Code} {g : GE} {B : Nat} {dd : Nat} {R : ST → Int32 → Option (ST)} (hR : ∀ {h : ST} {a1 : Int32} {y : ST}, R h a1 = some y → CT l yX11_readExpression cX11_readExpression 3 none (14 + 6 * dd) KM 43 g B [.ref (gA g 0), .int a1] h none y) {h : ST}  {l2 : Int32} (F : Fx p s m args meth c cX11_readNot 4 "DustParishModel" 43 g B)
    {y : ST} (hr : meth.sig.returnType = none) (hf : fX11_readNot_94 R h l2 = some y) : V p l e (14 + 6 * dd + 4) 0 s m args below meth c (MQ below (QO KM 43 g none y) args s 0 (6 * 0) (WA 43 g)) KM 43 g B 4 0 h 94 [(0, .ref (gA g 0)), (2, .int l2)] [] := by
  unfold fX11_readNot_94 at hf
  refine v_iconst (pc := 94) (v := 0) F dX11_readNot_94 ic_0 ?_
  refine v_istore_n (pc := 95) (lv' := [(0, .ref (gA g 0)), (2, .int l2), (3, .int 0)]) F dX11_readNot_95 rfl (by decide) rfl ?_
  obtain ⟨x29, e30, hf⟩ := bnd_some hf
  refine tX11_readNot_96 (s0 := (h, 0)) hR F ?_ e30
  exact v_vret (pc := 113) F hr dX11_readNot_113 (Option.some.inj hf) (Nat.zero_le _)
set_option maxRecDepth 100000 in
set_option maxHeartbeats 4000000 in
theorem tX11_readNot_79 {p : Program} {l : Launch} {e : Env} {s : State} {m : MethodId} {args : Array Value} {below : List Frame} {meth : Method} {c : Code} {g : GE} {B : Nat} {dd : Nat} {R : ST → Int32 → Option (ST)} (hR : ∀ {h : ST} {a1 : Int32} {y : ST}, R h a1 = some y → CT l yX11_readExpression cX11_readExpression 3 none (14 + 6 * dd) KM 43 g B [.ref (gA g 0), .int a1] h none y) {h : ST}  {l1 : Int32} {l2 : Int32} {q0 : Int32} (F : Fx p s m args meth c cX11_readNot 4 "DustParishModel" 43 g B)
    {y : ST} (hr : meth.sig.returnType = none) (hf : fX11_readNot_79 R h l1 l2 q0 = some y) : V p l e (14 + 6 * dd + 4) 0 s m args below meth c (MQ below (QO KM 43 g none y) args s 0 (6 * 0) (WA 43 g)) KM 43 g B 4 0 h 79 [(0, .ref (gA g 0)), (1, .int l1), (2, .int l2)] [.int q0] := by
  unfold fX11_readNot_79 at hf
  refine v_istore_n (pc := 79) (lv' := [(0, .ref (gA g 0)), (1, .int l1), (2, .int l2), (3, .int q0)]) F dX11_readNot_79 rfl (by decide) rfl ?_
  refine v_aload_n (pc := 80) (j := 0) F dX11_readNot_80 rfl rfl ?_
  obtain ⟨r20, e21, hf⟩ := bnd_some hf
  refine v_callVv (pc := 81) (As := []) F cl_X11_233 dX11_readNot_81 (kX11_stepOn e21) km_0.1 km_0.2 rc_10 rfl rfl (Nat.le_of_ble_eq_true rfl) (by omega) (Nat.zero_le _) ?_
  refine v_aload_n (pc := 84) (j := 0) F dX11_readNot_84 rfl rfl ?_
  refine v_iload_n (pc := 85) (j := 1) F dX11_readNot_85 rfl rfl ?_
  obtain ⟨r22, e23, hf⟩ := bnd_some hf
  refine v_callVv (pc := 86) (As := [.int l1]) F cl_X11_266 dX11_readNot_86 (kX11_readSum hR e23) km_0.1 km_0.2 rc_10 rfl rfl (Nat.le_of_ble_eq_true rfl) (by omega) (Nat.zero_le _) ?_
  refine v_aload_n (pc := 89) (j := 0) F dX11_readNot_89 rfl rfl ?_
  refine v_iload_n (pc := 90) (j := 3) F dX11_readNot_90 rfl rfl ?_
  obtain ⟨r24, e25, hf⟩ := bnd_some hf
  refine v_callVv (pc := 91) (As := [.int q0]) F cl_X11_245 dX11_readNot_91 (kX11_lay e25) km_0.1 km_0.2 rc_10 rfl rfl (Nat.le_of_ble_eq_true rfl) (by omega) (Nat.zero_le _) ?_
  refine V.sub (lv' := [(0, .ref (gA g 0)), (2, .int l2)]) [0, 2] rfl ?_
  exact tX11_readNot_94 hR F hr hf
set_option maxRecDepth 100000 in
set_option maxHeartbeats 4000000 in
theorem tX11_readNot_63 {p : Program} {l : Launch} {e : Env} {s : State} {m : MethodId} {args : Array Value} {below : List Frame} {meth : Method} {c : Code} {g : GE} {B : Nat} {dd : Nat} {R : ST → Int32 → Option (ST)} (hR : ∀ {h : ST} {a1 : Int32} {y : ST}, R h a1 = some y → CT l yX11_readExpression cX11_readExpression 3 none (14 + 6 * dd) KM 43 g B [.ref (gA g 0), .int a1] h none y) {h : ST}  {l1 : Int32} {l2 : Int32} (F : Fx p s m args meth c cX11_readNot 4 "DustParishModel" 43 g B)
    {y : ST} (hr : meth.sig.returnType = none) (hf : fX11_readNot_63 R h l1 l2 = some y) : V p l e (14 + 6 * dd + 4) 0 s m args below meth c (MQ below (QO KM 43 g none y) args s 0 (6 * 0) (WA 43 g)) KM 43 g B 4 0 h 63 [(0, .ref (gA g 0)), (1, .int l1), (2, .int l2)] [] := by
  unfold fX11_readNot_63 at hf
  refine v_aload_n (pc := 63) (j := 0) F dX11_readNot_63 rfl rfl ?_
  refine v_bipush (pc := 64) (v := 60) F dX11_readNot_64 bp_60 ?_
  obtain ⟨r17, e18, hf⟩ := bnd_some hf
  refine v_callVi (pc := 66) (As := [.int 60]) F cl_X11_226 dX11_readNot_66 (kX11_isMarked e18) km_0.1 km_0.2 rc_10 rfl rfl (Nat.le_of_ble_eq_true rfl) (by omega) (Nat.zero_le _) ?_
  refine v_if_eq (pc := 69) (tgt := 77) F dX11_readNot_69 (by decide) (fun c19 => ?_) (fun c19 => ?_)
  · have hf := ite_t hf c19
    refine v_bipush (pc := 77) (v := (-25)) F dX11_readNot_77 bp_m25 ?_
    exact tX11_readNot_79 hR F hr hf
  · have hf := ite_f hf c19
    refine v_bipush (pc := 72) (v := (-24)) F dX11_readNot_72 bp_m24 ?_
    refine v_goto (pc := 74) (tgt := 79) F dX11_readNot_74 (by decide) ?_
    exact tX11_readNot_79 hR F hr hf
set_option maxRecDepth 100000 in
set_option maxHeartbeats 4000000 in
theorem kX11_readNot {l : Launch} {g : GE} {B : Nat} {dd : Nat} {R : ST → Int32 → Option (ST)} (hR : ∀ {h : ST} {a1 : Int32} {y : ST}, R h a1 = some y → CT l yX11_readExpression cX11_readExpression 3 none (14 + 6 * dd) KM 43 g B [.ref (gA g 0), .int a1] h none y) {h : ST} {a1 : Int32} {y : ST} (hf : fX11_readNot R h a1 = some y) : CT l yX11_readNot cX11_readNot 4 none (14 + 6 * dd + 4) KM 43 g B [.ref (gA g 0), .int a1] h none y := by
  refine CT.of pn_X11 (Nat.le_of_ble_eq_true rfl) ?_
  intro p e s m below meth c hr F
  have F : Fx p s m _ meth c cX11_readNot 4 "DustParishModel" 43 g B := F
  refine V_lv (lv' := [(0, .ref (gA g 0)), (1, .int a1)]) rfl ?_
  unfold fX11_readNot at hf
  refine v_iconst (pc := 0) (v := 0) F dX11_readNot_0 ic_0 ?_
  refine v_istore_n (pc := 1) (lv' := [(0, .ref (gA g 0)), (1, .int a1), (2, .int 0)]) F dX11_readNot_1 rfl (by decide) rfl ?_
  obtain ⟨x10, e11, hf⟩ := bnd_some hf
  refine tX11_readNot_2 (s0 := (h, 0)) hR F ?_ e11
  refine v_aload_n (pc := 40) (j := 0) F dX11_readNot_40 rfl rfl ?_
  refine v_iload_n (pc := 41) (j := 1) F dX11_readNot_41 rfl rfl ?_
  obtain ⟨r12, e13, hf⟩ := bnd_some hf
  refine v_callVv (pc := 42) (As := [.int a1]) F cl_X11_266 dX11_readNot_42 (kX11_readSum hR e13) km_0.1 km_0.2 rc_10 rfl rfl (Nat.le_of_ble_eq_true rfl) (by omega) (Nat.zero_le _) ?_
  refine v_aload_n (pc := 45) (j := 0) F dX11_readNot_45 rfl rfl ?_
  refine v_bipush (pc := 46) (v := 60) F dX11_readNot_46 bp_60 ?_
  obtain ⟨r14, e15, hf⟩ := bnd_some hf
  refine v_callVi (pc := 48) (As := [.int 60]) F cl_X11_226 dX11_readNot_48 (kX11_isMarked e15) km_0.1 km_0.2 rc_10 rfl rfl (Nat.le_of_ble_eq_true rfl) (by omega) (Nat.zero_le _) ?_
  refine v_if_ne (pc := 51) (tgt := 63) F dX11_readNot_51 (by decide) (fun c16 => ?_) (fun c16 => ?_)
  · have hf := ite_f hf c16
    exact tX11_readNot_63 hR F hr hf
  · have hf := ite_t hf c16
    refine v_aload_n (pc := 54) (j := 0) F dX11_readNot_54 rfl rfl ?_
    refine v_bipush (pc := 55) (v := 61) F dX11_readNot_55 bp_61 ?_
    obtain ⟨r31, e32, hf⟩ := bnd_some hf
    refine v_callVi (pc := 57) (As := [.int 61]) F cl_X11_226 dX11_readNot_57 (kX11_isMarked e32) km_0.1 km_0.2 rc_10 rfl rfl (Nat.le_of_ble_eq_true rfl) (by omega) (Nat.zero_le _) ?_
    refine v_if_eq (pc := 60) (tgt := 94) F dX11_readNot_60 (by decide) (fun c33 => ?_) (fun c33 => ?_)
    · have hf := ite_t hf c33
      refine V.sub (lv' := [(0, .ref (gA g 0)), (2, .int x10.2)]) [0, 2] rfl ?_
      exact tX11_readNot_94 hR F hr hf
    · have hf := ite_f hf c33
      exact tX11_readNot_63 hR F hr hf
def fX11_readAnd_5 (R : ST → Int32 → Option (ST)) (l1 : Int32) (s1 : ST) : Option (ST ⊕ ST) :=
  bnd (fX11_is s1 18) fun r3 =>
  if r3 = 0 then
  some (.inr s1)
  else
  bnd (fX11_stepOn s1) fun r6 =>
    bnd (fX11_readNot R r6 l1) fun r8 =>
    bnd (fX11_lay r8 (-26)) fun r10 =>
    some (.inl r10)
def fX11_readAnd (R : ST → Int32 → Option (ST)) (h : ST) (a1 : Int32) : Option (ST) :=
  bnd (fX11_readNot R h a1) fun r1 =>
  bnd (lp FU (fX11_readAnd_5 R a1) r1) fun x12 =>
  some x12
set_option maxRecDepth 100000 in
set_option maxHeartbeats 4000000 in
theorem tX11_readAnd_5 {p : Program} {l : Launch} {e : Env} {s : State} {m : MethodId} {args : Array Value} {below : List Frame} {meth : Method} {c : Code} {g : GE} {B : Nat} {dd : Nat} {R : ST → Int32 → Option (ST)} (hR : ∀ {h : ST} {a1 : Int32} {y : ST}, R h a1 = some y → CT l yX11_readExpression cX11_readExpression 3 none (14 + 6 * dd) KM 43 g B [.ref (gA g 0), .int a1] h none y)   {l1 : Int32} {Q : State → Prop} {x : ST} {nf : Nat} {s0 : ST} (F : Fx p s m args meth c cX11_readAnd 2 "DustParishModel" 43 g B) (hX0 : V p l e (14 + 6 * dd + 5) 0 s m args below meth c Q KM 43 g B 2 0 x 33 [] []) (hl : lp nf (fX11_readAnd_5 R l1) s0 = some x) : V p l e (14 + 6 * dd + 5) 0 s m args below meth c Q KM 43 g B 2 0 s0 5 [(0, .ref (gA g 0)), (1, .int l1)] [] := by
  refine lp_ind (P := fun s0 => V p l e (14 + 6 * dd + 5) 0 s m args below meth c Q KM 43 g B 2 0 s0 5 [(0, .ref (gA g 0)), (1, .int l1)] []) ?_ nf s0 hl
  intro s1 y hf hk hx
  have hx0 : ∀ v : ST, y = Sum.inr v → V p l e (14 + 6 * dd + 5) 0 s m args below meth c Q KM 43 g B 2 0 v 33 [] [] := fun v e9 => by rw [hx v e9]; exact hX0
  unfold fX11_readAnd_5 at hf
  refine v_aload_n (pc := 5) (j := 0) F dX11_readAnd_5 rfl rfl ?_
  refine v_ldcSW (pc := 6) (j := 18) (tx := "and") F (by decide) dX11_readAnd_6 ?_
  obtain ⟨r3, e4, hf⟩ := bnd_some hf
  refine v_callVi (pc := 9) (As := [.ref (gK g 18)]) F cl_X11_222 dX11_readAnd_9 (kX11_is (by decide) e4) km_0.1 km_0.2 rc_10 rfl rfl (Nat.le_of_ble_eq_true rfl) (by omega) (Nat.zero_le _) ?_
  refine v_if_eq (pc := 12) (tgt := 33) F dX11_readAnd_12 (by decide) (fun c5 => ?_) (fun c5 => ?_)
  · have hf := ite_t hf c5
    refine V.sub (lv' := []) [] rfl ?_
    exact hx0 s1 (Option.some.inj hf).symm
  · have hf := ite_f hf c5
    refine v_aload_n (pc := 15) (j := 0) F dX11_readAnd_15 rfl rfl ?_
    obtain ⟨r6, e7, hf⟩ := bnd_some hf
    refine v_callVv (pc := 16) (As := []) F cl_X11_233 dX11_readAnd_16 (kX11_stepOn e7) km_0.1 km_0.2 rc_10 rfl rfl (Nat.le_of_ble_eq_true rfl) (by omega) (Nat.zero_le _) ?_
    refine v_aload_n (pc := 19) (j := 0) F dX11_readAnd_19 rfl rfl ?_
    refine v_iload_n (pc := 20) (j := 1) F dX11_readAnd_20 rfl rfl ?_
    obtain ⟨r8, e9, hf⟩ := bnd_some hf
    refine v_callVv (pc := 21) (As := [.int l1]) F cl_X11_269 dX11_readAnd_21 (kX11_readNot hR e9) km_0.1 km_0.2 rc_10 rfl rfl (Nat.le_of_ble_eq_true rfl) (by omega) (Nat.zero_le _) ?_
    refine v_aload_n (pc := 24) (j := 0) F dX11_readAnd_24 rfl rfl ?_
    refine v_bipush (pc := 25) (v := (-26)) F dX11_readAnd_25 bp_m26 ?_
    obtain ⟨r10, e11, hf⟩ := bnd_some hf
    refine v_callVv (pc := 27) (As := [.int (-26)]) F cl_X11_245 dX11_readAnd_27 (kX11_lay e11) km_0.1 km_0.2 rc_10 rfl rfl (Nat.le_of_ble_eq_true rfl) (by omega) (Nat.zero_le _) ?_
    refine v_goto (pc := 30) (tgt := 5) F dX11_readAnd_30 (by decide) ?_
    exact hk r10 (Option.some.inj hf).symm
set_option maxRecDepth 100000 in
set_option maxHeartbeats 4000000 in
theorem kX11_readAnd {l : Launch} {g : GE} {B : Nat} {dd : Nat} {R : ST → Int32 → Option (ST)} (hR : ∀ {h : ST} {a1 : Int32} {y : ST}, R h a1 = some y → CT l yX11_readExpression cX11_readExpression 3 none (14 + 6 * dd) KM 43 g B [.ref (gA g 0), .int a1] h none y) {h : ST} {a1 : Int32} {y : ST} (hf : fX11_readAnd R h a1 = some y) : CT l yX11_readAnd cX11_readAnd 2 none (14 + 6 * dd + 5) KM 43 g B [.ref (gA g 0), .int a1] h none y := by
  refine CT.of pn_X11 (Nat.le_of_ble_eq_true rfl) ?_
  intro p e s m below meth c hr F
  have F : Fx p s m _ meth c cX11_readAnd 2 "DustParishModel" 43 g B := F
  refine V_lv (lv' := [(0, .ref (gA g 0)), (1, .int a1)]) rfl ?_
  unfold fX11_readAnd at hf
  refine v_aload_n (pc := 0) (j := 0) F dX11_readAnd_0 rfl rfl ?_
  refine v_iload_n (pc := 1) (j := 1) F dX11_readAnd_1 rfl rfl ?_
  obtain ⟨r1, e2, hf⟩ := bnd_some hf
  refine v_callVv (pc := 2) (As := [.int a1]) F cl_X11_269 dX11_readAnd_2 (kX11_readNot hR e2) km_0.1 km_0.2 rc_10 rfl rfl (Nat.le_of_ble_eq_true rfl) (by omega) (Nat.zero_le _) ?_
  obtain ⟨x12, e13, hf⟩ := bnd_some hf
  refine tX11_readAnd_5 (s0 := r1) hR F ?_ e13
  exact v_vret (pc := 33) F hr dX11_readAnd_33 (Option.some.inj hf) (Nat.zero_le _)
def fX11_readExpression_67 (R : ST → Int32 → Option (ST)) (l1 : Int32) (s1 : ST) : Option (ST ⊕ ST) :=
  bnd (fX11_is s1 19) fun r7 =>
  if r7 = 0 then
  some (.inr s1)
  else
  bnd (fX11_stepOn s1) fun r10 =>
    bnd (fX11_readAnd R r10 l1) fun r12 =>
    bnd (fX11_lay r12 (-27)) fun r14 =>
    some (.inl r14)
def fX11_readExpression_62 (R : ST → Int32 → Option (ST)) (h : ST) (l1 : Int32) : Option (ST) :=
  bnd (fX11_readAnd R h l1) fun r5 =>
  bnd (lp FU (fX11_readExpression_67 R l1) r5) fun x16 =>
  some x16
def fX11_readExpression_38 (R : ST → Int32 → Option (ST)) (h : ST) (l1 : Int32) (q0 : Int32) : Option (ST) :=
  if q0 = 0 then
  bnd (fX11_wrong h 1) fun r20 =>
    fX11_readExpression_62 R r20 l1
  else
  if l1 = 6 then
    bnd (fX11_wrong h 2) fun r18 =>
      fX11_readExpression_62 R r18 l1
    else
    fX11_readExpression_62 R h l1
def fX11_readExpression_33 (R : ST → Int32 → Option (ST)) (h : ST) (l1 : Int32) : Option (ST) :=
  fX11_readExpression_38 R h l1 1
def fX11_readExpression_b (R : ST → Int32 → Option (ST)) (h : ST) (a1 : Int32) : Option (ST) :=
  if (h 0 26) = 0 then
  if (h 0 22) = 2 then
    fX11_readExpression_33 R h a1
    else
    if (h 0 22) = 1 then
      fX11_readExpression_33 R h a1
      else
      bnd (fX11_isMarked h 40) fun r23 =>
        if r23 = 0 then
        fX11_readExpression_38 R h a1 0
        else
        fX11_readExpression_33 R h a1
  else
  some h
set_option maxRecDepth 100000 in
set_option maxHeartbeats 4000000 in
theorem tX11_readExpression_67 {p : Program} {l : Launch} {e : Env} {s : State} {m : MethodId} {args : Array Value} {below : List Frame} {meth : Method} {c : Code} {g : GE} {B : Nat} {dd : Nat} {R : ST → Int32 → Option (ST)} (hR : ∀ {h : ST} {a1 : Int32} {y : ST}, R h a1 = some y → CT l yX11_readExpression cX11_readExpression 3 none (14 + 6 * dd) KM 43 g B [.ref (gA g 0), .int a1] h none y)   {l1 : Int32} {Q : State → Prop} {x : ST} {nf : Nat} {s0 : ST} (F : Fx p s m args meth c cX11_readExpression 3 "DustParishModel" 43 g B) (hX0 : V p l e (14 + 6 * dd + 6) 0 s m args below meth c Q KM 43 g B 3 0 x 95 [] []) (hl : lp nf (fX11_readExpression_67 R l1) s0 = some x) : V p l e (14 + 6 * dd + 6) 0 s m args below meth c Q KM 43 g B 3 0 s0 67 [(0, .ref (gA g 0)), (1, .int l1)] [] := by
  refine lp_ind (P := fun s0 => V p l e (14 + 6 * dd + 6) 0 s m args below meth c Q KM 43 g B 3 0 s0 67 [(0, .ref (gA g 0)), (1, .int l1)] []) ?_ nf s0 hl
  intro s1 y hf hk hx
  have hx0 : ∀ v : ST, y = Sum.inr v → V p l e (14 + 6 * dd + 6) 0 s m args below meth c Q KM 43 g B 3 0 v 95 [] [] := fun v e9 => by rw [hx v e9]; exact hX0
  unfold fX11_readExpression_67 at hf
  refine v_aload_n (pc := 67) (j := 0) F dX11_readExpression_67 rfl rfl ?_
  refine v_ldcSW (pc := 68) (j := 19) (tx := "or") F (by decide) dX11_readExpression_68 ?_
  obtain ⟨r7, e8, hf⟩ := bnd_some hf
  refine v_callVi (pc := 71) (As := [.ref (gK g 19)]) F cl_X11_222 dX11_readExpression_71 (kX11_is (by decide) e8) km_0.1 km_0.2 rc_10 rfl rfl (Nat.le_of_ble_eq_true rfl) (by omega) (Nat.zero_le _) ?_
  refine v_if_eq (pc := 74) (tgt := 95) F dX11_readExpression_74 (by decide) (fun c9 => ?_) (fun c9 => ?_)
  · have hf := ite_t hf c9
    refine V.sub (lv' := []) [] rfl ?_
    exact hx0 s1 (Option.some.inj hf).symm
  · have hf := ite_f hf c9
    refine v_aload_n (pc := 77) (j := 0) F dX11_readExpression_77 rfl rfl ?_
    obtain ⟨r10, e11, hf⟩ := bnd_some hf
    refine v_callVv (pc := 78) (As := []) F cl_X11_233 dX11_readExpression_78 (kX11_stepOn e11) km_0.1 km_0.2 rc_10 rfl rfl (Nat.le_of_ble_eq_true rfl) (by omega) (Nat.zero_le _) ?_
    refine v_aload_n (pc := 81) (j := 0) F dX11_readExpression_81 rfl rfl ?_
    refine v_iload_n (pc := 82) (j := 1) F dX11_readExpression_82 rfl rfl ?_
    obtain ⟨r12, e13, hf⟩ := bnd_some hf
    refine v_callVv (pc := 83) (As := [.int l1]) F cl_X11_274 dX11_readExpression_83 (kX11_readAnd hR e13) km_0.1 km_0.2 rc_10 rfl rfl (Nat.le_of_ble_eq_true rfl) (by omega) (Nat.zero_le _) ?_
    refine v_aload_n (pc := 86) (j := 0) F dX11_readExpression_86 rfl rfl ?_
    refine v_bipush (pc := 87) (v := (-27)) F dX11_readExpression_87 bp_m27 ?_
    obtain ⟨r14, e15, hf⟩ := bnd_some hf
    refine v_callVv (pc := 89) (As := [.int (-27)]) F cl_X11_245 dX11_readExpression_89 (kX11_lay e15) km_0.1 km_0.2 rc_10 rfl rfl (Nat.le_of_ble_eq_true rfl) (by omega) (Nat.zero_le _) ?_
    refine v_goto (pc := 92) (tgt := 67) F dX11_readExpression_92 (by decide) ?_
    exact hk r14 (Option.some.inj hf).symm
set_option maxRecDepth 100000 in
set_option maxHeartbeats 4000000 in
theorem tX11_readExpression_62 {p : Program} {l : Launch} {e : Env} {s : State} {m : MethodId} {args : Array Value} {below : List Frame} {meth : Method} {c : Code} {g : GE} {B : Nat} {dd : Nat} {R : ST → Int32 → Option (ST)} (hR : ∀ {h : ST} {a1 : Int32} {y : ST}, R h a1 = some y → CT l yX11_readExpression cX11_readExpression 3 none (14 + 6 * dd) KM 43 g B [.ref (gA g 0), .int a1] h none y) {h : ST}  {l1 : Int32} (F : Fx p s m args meth c cX11_readExpression 3 "DustParishModel" 43 g B)
    {y : ST} (hr : meth.sig.returnType = none) (hf : fX11_readExpression_62 R h l1 = some y) : V p l e (14 + 6 * dd + 6) 0 s m args below meth c (MQ below (QO KM 43 g none y) args s 0 (6 * 0) (WA 43 g)) KM 43 g B 3 0 h 62 [(0, .ref (gA g 0)), (1, .int l1)] [] := by
  unfold fX11_readExpression_62 at hf
  refine v_aload_n (pc := 62) (j := 0) F dX11_readExpression_62 rfl rfl ?_
  refine v_iload_n (pc := 63) (j := 1) F dX11_readExpression_63 rfl rfl ?_
  obtain ⟨r5, e6, hf⟩ := bnd_some hf
  refine v_callVv (pc := 64) (As := [.int l1]) F cl_X11_274 dX11_readExpression_64 (kX11_readAnd hR e6) km_0.1 km_0.2 rc_10 rfl rfl (Nat.le_of_ble_eq_true rfl) (by omega) (Nat.zero_le _) ?_
  obtain ⟨x16, e17, hf⟩ := bnd_some hf
  refine tX11_readExpression_67 (s0 := r5) hR F ?_ e17
  exact v_vret (pc := 95) F hr dX11_readExpression_95 (Option.some.inj hf) (Nat.zero_le _)
set_option maxRecDepth 100000 in
set_option maxHeartbeats 4000000 in
theorem tX11_readExpression_38 {p : Program} {l : Launch} {e : Env} {s : State} {m : MethodId} {args : Array Value} {below : List Frame} {meth : Method} {c : Code} {g : GE} {B : Nat} {dd : Nat} {R : ST → Int32 → Option (ST)} (hR : ∀ {h : ST} {a1 : Int32} {y : ST}, R h a1 = some y → CT l yX11_readExpression cX11_readExpression 3 none (14 + 6 * dd) KM 43 g B [.ref (gA g 0), .int a1] h none y) {h : ST}  {l1 : Int32} {q0 : Int32} (F : Fx p s m args meth c cX11_readExpression 3 "DustParishModel" 43 g B)
    {y : ST} (hr : meth.sig.returnType = none) (hf : fX11_readExpression_38 R h l1 q0 = some y) : V p l e (14 + 6 * dd + 6) 0 s m args below meth c (MQ below (QO KM 43 g none y) args s 0 (6 * 0) (WA 43 g)) KM 43 g B 3 0 h 38 [(0, .ref (gA g 0)), (1, .int l1)] [.int q0] := by
  unfold fX11_readExpression_38 at hf
  refine v_istore_n (pc := 38) (lv' := [(0, .ref (gA g 0)), (1, .int l1), (2, .int q0)]) F dX11_readExpression_38 rfl (by decide) rfl ?_
  refine v_iload_n (pc := 39) (j := 2) F dX11_readExpression_39 rfl rfl ?_
  refine v_if_ne (pc := 40) (tgt := 51) F dX11_readExpression_40 (by decide) (fun c3 => ?_) (fun c3 => ?_)
  · have hf := ite_f hf c3
    refine v_iload_n (pc := 51) (j := 1) F dX11_readExpression_51 rfl rfl ?_
    refine v_bipush (pc := 52) (v := 6) F dX11_readExpression_52 bp_6 ?_
    refine v_icmp_ne (pc := 54) (tgt := 62) F dX11_readExpression_54 (by decide) (fun c4 => ?_) (fun c4 => ?_)
    · have hf := ite_f hf c4
      refine V.sub (lv' := [(0, .ref (gA g 0)), (1, .int l1)]) [0, 1] rfl ?_
      exact tX11_readExpression_62 hR F hr hf
    · have hf := ite_t hf c4
      refine v_aload_n (pc := 57) (j := 0) F dX11_readExpression_57 rfl rfl ?_
      refine v_iconst (pc := 58) (v := 2) F dX11_readExpression_58 ic_2 ?_
      obtain ⟨r18, e19, hf⟩ := bnd_some hf
      refine v_callVv (pc := 59) (As := [.int 2]) F cl_X11_229 dX11_readExpression_59 (kX11_wrong e19) km_0.1 km_0.2 rc_10 rfl rfl (Nat.le_of_ble_eq_true rfl) (by omega) (Nat.zero_le _) ?_
      refine V.sub (lv' := [(0, .ref (gA g 0)), (1, .int l1)]) [0, 1] rfl ?_
      exact tX11_readExpression_62 hR F hr hf
  · have hf := ite_t hf c3
    refine v_aload_n (pc := 43) (j := 0) F dX11_readExpression_43 rfl rfl ?_
    refine v_iconst (pc := 44) (v := 1) F dX11_readExpression_44 ic_1 ?_
    obtain ⟨r20, e21, hf⟩ := bnd_some hf
    refine v_callVv (pc := 45) (As := [.int 1]) F cl_X11_229 dX11_readExpression_45 (kX11_wrong e21) km_0.1 km_0.2 rc_10 rfl rfl (Nat.le_of_ble_eq_true rfl) (by omega) (Nat.zero_le _) ?_
    refine v_goto (pc := 48) (tgt := 62) F dX11_readExpression_48 (by decide) ?_
    refine V.sub (lv' := [(0, .ref (gA g 0)), (1, .int l1)]) [0, 1] rfl ?_
    exact tX11_readExpression_62 hR F hr hf
set_option maxRecDepth 100000 in
set_option maxHeartbeats 4000000 in
theorem tX11_readExpression_33 {p : Program} {l : Launch} {e : Env} {s : State} {m : MethodId} {args : Array Value} {below : List Frame} {meth : Method} {c : Code} {g : GE} {B : Nat} {dd : Nat} {R : ST → Int32 → Option (ST)} (hR : ∀ {h : ST} {a1 : Int32} {y : ST}, R h a1 = some y → CT l yX11_readExpression cX11_readExpression 3 none (14 + 6 * dd) KM 43 g B [.ref (gA g 0), .int a1] h none y) {h : ST}  {l1 : Int32} (F : Fx p s m args meth c cX11_readExpression 3 "DustParishModel" 43 g B)
    {y : ST} (hr : meth.sig.returnType = none) (hf : fX11_readExpression_33 R h l1 = some y) : V p l e (14 + 6 * dd + 6) 0 s m args below meth c (MQ below (QO KM 43 g none y) args s 0 (6 * 0) (WA 43 g)) KM 43 g B 3 0 h 33 [(0, .ref (gA g 0)), (1, .int l1)] [] := by
  unfold fX11_readExpression_33 at hf
  refine v_iconst (pc := 33) (v := 1) F dX11_readExpression_33 ic_1 ?_
  refine v_goto (pc := 34) (tgt := 38) F dX11_readExpression_34 (by decide) ?_
  exact tX11_readExpression_38 hR F hr hf
set_option maxRecDepth 100000 in
set_option maxHeartbeats 4000000 in
theorem kX11_readExpression_b {l : Launch} {g : GE} {B : Nat} {dd : Nat} {R : ST → Int32 → Option (ST)} (hR : ∀ {h : ST} {a1 : Int32} {y : ST}, R h a1 = some y → CT l yX11_readExpression cX11_readExpression 3 none (14 + 6 * dd) KM 43 g B [.ref (gA g 0), .int a1] h none y) {h : ST} {a1 : Int32} {y : ST} (hf : fX11_readExpression_b R h a1 = some y) : CT l yX11_readExpression cX11_readExpression 3 none (14 + 6 * dd + 6) KM 43 g B [.ref (gA g 0), .int a1] h none y := by
  refine CT.of pn_X11 (Nat.le_of_ble_eq_true rfl) ?_
  intro p e s m below meth c hr F
  have F : Fx p s m _ meth c cX11_readExpression 3 "DustParishModel" 43 g B := F
  refine V_lv (lv' := [(0, .ref (gA g 0)), (1, .int a1)]) rfl ?_
  unfold fX11_readExpression_b at hf
  refine v_aload_n (pc := 0) (j := 0) F dX11_readExpression_0 rfl rfl ?_
  refine v_ifl (pc := 1) F fl_X11_208 dX11_readExpression_1 km_0.1 km_0.2 fv_10_26 ?_
  refine v_if_eq (pc := 4) (tgt := 8) F dX11_readExpression_4 (by decide) (fun c1 => ?_) (fun c1 => ?_)
  · have hf := ite_t hf c1
    refine v_aload_n (pc := 8) (j := 0) F dX11_readExpression_8 rfl rfl ?_
    refine v_ifl (pc := 9) F fl_X11_182 dX11_readExpression_9 km_0.1 km_0.2 fv_10_22 ?_
    refine v_iconst (pc := 12) (v := 2) F dX11_readExpression_12 ic_2 ?_
    refine v_icmp_eq (pc := 13) (tgt := 33) F dX11_readExpression_13 (by decide) (fun c2 => ?_) (fun c2 => ?_)
    · have hf := ite_t hf c2
      exact tX11_readExpression_33 hR F hr hf
    · have hf := ite_f hf c2
      refine v_aload_n (pc := 16) (j := 0) F dX11_readExpression_16 rfl rfl ?_
      refine v_ifl (pc := 17) F fl_X11_182 dX11_readExpression_17 km_0.1 km_0.2 fv_10_22 ?_
      refine v_iconst (pc := 20) (v := 1) F dX11_readExpression_20 ic_1 ?_
      refine v_icmp_eq (pc := 21) (tgt := 33) F dX11_readExpression_21 (by decide) (fun c22 => ?_) (fun c22 => ?_)
      · have hf := ite_t hf c22
        exact tX11_readExpression_33 hR F hr hf
      · have hf := ite_f hf c22
        refine v_aload_n (pc := 24) (j := 0) F dX11_readExpression_24 rfl rfl ?_
        refine v_bipush (pc := 25) (v := 40) F dX11_readExpression_25 bp_40 ?_
        obtain ⟨r23, e24, hf⟩ := bnd_some hf
        refine v_callVi (pc := 27) (As := [.int 40]) F cl_X11_226 dX11_readExpression_27 (kX11_isMarked e24) km_0.1 km_0.2 rc_10 rfl rfl (Nat.le_of_ble_eq_true rfl) (by omega) (Nat.zero_le _) ?_
        refine v_if_eq (pc := 30) (tgt := 37) F dX11_readExpression_30 (by decide) (fun c25 => ?_) (fun c25 => ?_)
        · have hf := ite_t hf c25
          refine v_iconst (pc := 37) (v := 0) F dX11_readExpression_37 ic_0 ?_
          exact tX11_readExpression_38 hR F hr hf
        · have hf := ite_f hf c25
          exact tX11_readExpression_33 hR F hr hf
  · have hf := ite_f hf c1
    exact v_vret (pc := 7) F hr dX11_readExpression_7 (Option.some.inj hf) (Nat.zero_le _)
def fX11_readExpression : Nat → ST → Int32 → Option (ST)
  | 0, _, _ => none
  | dd + 1, h, a1 => fX11_readExpression_b (fX11_readExpression dd) h a1
theorem kX11_readExpression {l : Launch} {g : GE} {B : Nat} : ∀ {dd : Nat} {h : ST} {a1 : Int32} {y : ST}, fX11_readExpression dd h a1 = some y → CT l yX11_readExpression cX11_readExpression 3 none (14 + 6 * dd) KM 43 g B [.ref (gA g 0), .int a1] h none y
  | 0, _, _, _, hf => by cases hf
  | dd + 1, _, _, _, hf => by
    have e : 14 + 6 * (dd + 1) = 14 + 6 * dd + 6 := by omega
    rw [e]
    exact kX11_readExpression_b (fun hf => kX11_readExpression hf) hf
def fX11_sayRoom (h : ST) (a1 : Int32) : Option (ST) :=
  bnd (fX11_another h 0 9) fun r1 =>
  if r1.1 = 0 then
  some r1.2
  else
  bnd (rd 14 (r1.2 3) 7) fun v4 =>
    bnd (wr 18 r1.2 4 (9 + v4) a1) fun h6 =>
    bnd (fX11_readNumber h6 0 5) fun r8 =>
    bnd (wr 18 r8.2 5 (9 + v4) r8.1) fun h10 =>
    bnd (fX11_readNumber h10 0 999) fun r12 =>
    bnd (wr 18 r12.2 6 (9 + v4) r12.1) fun h14 =>
    bnd (fX11_readNumber h14 0 99) fun r16 =>
    bnd (wr 18 r16.2 7 (9 + v4) r16.1) fun h18 =>
    bnd (rd 14 (h18 3) 7) fun v20 =>
    bnd (wr 14 h18 3 7 (v20 + 1)) fun h22 =>
    some h22
set_option maxRecDepth 100000 in
set_option maxHeartbeats 4000000 in
theorem kX11_sayRoom {l : Launch} {g : GE} {B : Nat} {h : ST} {a1 : Int32} {y : ST} (hf : fX11_sayRoom h a1 = some y) : CT l yX11_sayRoom cX11_sayRoom 3 none 4 KM 43 g B [.ref (gA g 0), .int a1] h none y := by
  refine CT.of pn_X11 (Nat.le_of_ble_eq_true rfl) ?_
  intro p e s m below meth c hr F
  have F : Fx p s m _ meth c cX11_sayRoom 3 "DustParishModel" 43 g B := F
  refine V_lv (lv' := [(0, .ref (gA g 0)), (1, .int a1)]) rfl ?_
  unfold fX11_sayRoom at hf
  refine v_aload_n (pc := 0) (j := 0) F dX11_sayRoom_0 rfl rfl ?_
  refine v_iconst (pc := 1) (v := 0) F dX11_sayRoom_1 ic_0 ?_
  refine v_bipush (pc := 2) (v := 9) F dX11_sayRoom_2 bp_9 ?_
  obtain ⟨r1, e2, hf⟩ := bnd_some hf
  refine v_callVi (pc := 4) (As := [.int 0, .int 9]) F cl_X11_279 dX11_sayRoom_4 (kX11_another e2) km_0.1 km_0.2 rc_10 rfl rfl (Nat.le_of_ble_eq_true rfl) (by decide) (Nat.zero_le _) ?_
  refine v_if_ne (pc := 7) (tgt := 11) F dX11_sayRoom_7 (by decide) (fun c3 => ?_) (fun c3 => ?_)
  · have hf := ite_f hf c3
    refine v_bipush (pc := 11) (v := 9) F dX11_sayRoom_11 bp_9 ?_
    refine v_aload_n (pc := 13) (j := 0) F dX11_sayRoom_13 rfl rfl ?_
    refine v_ifl (pc := 14) F fl_X11_36 dX11_sayRoom_14 km_0.1 km_0.2 fv_10_3 ?_
    refine v_bipush (pc := 17) (v := 7) F dX11_sayRoom_17 bp_7 ?_
    obtain ⟨v4, e5, hf⟩ := bnd_some hf
    refine v_iald (pc := 19) F dX11_sayRoom_19 km_3.1 km_3.2 e5 ?_
    refine v_iadd (pc := 20) F dX11_sayRoom_20 ?_
    refine v_istore_n (pc := 21) (lv' := [(0, .ref (gA g 0)), (1, .int a1), (2, .int (9 + v4))]) F dX11_sayRoom_21 rfl (by decide) rfl ?_
    refine v_aload_n (pc := 22) (j := 0) F dX11_sayRoom_22 rfl rfl ?_
    refine v_ifl (pc := 23) F fl_X11_40 dX11_sayRoom_23 km_0.1 km_0.2 fv_10_4 ?_
    refine v_iload_n (pc := 26) (j := 2) F dX11_sayRoom_26 rfl rfl ?_
    refine v_iload_n (pc := 27) (j := 1) F dX11_sayRoom_27 rfl rfl ?_
    obtain ⟨h6, e7, hf⟩ := bnd_some hf
    refine v_iast (pc := 28) F dX11_sayRoom_28 km_4.1 km_4.2 e7 ?_
    refine v_aload_n (pc := 29) (j := 0) F dX11_sayRoom_29 rfl rfl ?_
    refine v_ifl (pc := 30) F fl_X11_42 dX11_sayRoom_30 km_0.1 km_0.2 fv_10_5 ?_
    refine v_iload_n (pc := 33) (j := 2) F dX11_sayRoom_33 rfl rfl ?_
    refine v_aload_n (pc := 34) (j := 0) F dX11_sayRoom_34 rfl rfl ?_
    refine v_iconst (pc := 35) (v := 0) F dX11_sayRoom_35 ic_0 ?_
    refine v_iconst (pc := 36) (v := 5) F dX11_sayRoom_36 ic_5 ?_
    obtain ⟨r8, e9, hf⟩ := bnd_some hf
    refine v_callVi (pc := 37) (As := [.int 0, .int 5]) F cl_X11_242 dX11_sayRoom_37 (kX11_readNumber e9) km_0.1 km_0.2 rc_10 rfl rfl (Nat.le_of_ble_eq_true rfl) (by decide) (Nat.zero_le _) ?_
    obtain ⟨h10, e11, hf⟩ := bnd_some hf
    refine v_iast (pc := 40) F dX11_sayRoom_40 km_5.1 km_5.2 e11 ?_
    refine v_aload_n (pc := 41) (j := 0) F dX11_sayRoom_41 rfl rfl ?_
    refine v_ifl (pc := 42) F fl_X11_44 dX11_sayRoom_42 km_0.1 km_0.2 fv_10_6 ?_
    refine v_iload_n (pc := 45) (j := 2) F dX11_sayRoom_45 rfl rfl ?_
    refine v_aload_n (pc := 46) (j := 0) F dX11_sayRoom_46 rfl rfl ?_
    refine v_iconst (pc := 47) (v := 0) F dX11_sayRoom_47 ic_0 ?_
    refine v_sipush (pc := 48) (v := 999) F dX11_sayRoom_48 sp_999 ?_
    obtain ⟨r12, e13, hf⟩ := bnd_some hf
    refine v_callVi (pc := 51) (As := [.int 0, .int 999]) F cl_X11_242 dX11_sayRoom_51 (kX11_readNumber e13) km_0.1 km_0.2 rc_10 rfl rfl (Nat.le_of_ble_eq_true rfl) (by decide) (Nat.zero_le _) ?_
    obtain ⟨h14, e15, hf⟩ := bnd_some hf
    refine v_iast (pc := 54) F dX11_sayRoom_54 km_6.1 km_6.2 e15 ?_
    refine v_aload_n (pc := 55) (j := 0) F dX11_sayRoom_55 rfl rfl ?_
    refine v_ifl (pc := 56) F fl_X11_47 dX11_sayRoom_56 km_0.1 km_0.2 fv_10_7 ?_
    refine v_iload_n (pc := 59) (j := 2) F dX11_sayRoom_59 rfl rfl ?_
    refine v_aload_n (pc := 60) (j := 0) F dX11_sayRoom_60 rfl rfl ?_
    refine v_iconst (pc := 61) (v := 0) F dX11_sayRoom_61 ic_0 ?_
    refine v_bipush (pc := 62) (v := 99) F dX11_sayRoom_62 bp_99 ?_
    obtain ⟨r16, e17, hf⟩ := bnd_some hf
    refine v_callVi (pc := 64) (As := [.int 0, .int 99]) F cl_X11_242 dX11_sayRoom_64 (kX11_readNumber e17) km_0.1 km_0.2 rc_10 rfl rfl (Nat.le_of_ble_eq_true rfl) (by decide) (Nat.zero_le _) ?_
    obtain ⟨h18, e19, hf⟩ := bnd_some hf
    refine v_iast (pc := 67) F dX11_sayRoom_67 km_7.1 km_7.2 e19 ?_
    refine v_aload_n (pc := 68) (j := 0) F dX11_sayRoom_68 rfl rfl ?_
    refine v_ifl (pc := 69) F fl_X11_36 dX11_sayRoom_69 km_0.1 km_0.2 fv_10_3 ?_
    refine v_bipush (pc := 72) (v := 7) F dX11_sayRoom_72 bp_7 ?_
    refine v_dup2_11 (pc := 74) F dX11_sayRoom_74 rfl rfl ?_
    obtain ⟨v20, e21, hf⟩ := bnd_some hf
    refine v_iald (pc := 75) F dX11_sayRoom_75 km_3.1 km_3.2 e21 ?_
    refine v_iconst (pc := 76) (v := 1) F dX11_sayRoom_76 ic_1 ?_
    refine v_iadd (pc := 77) F dX11_sayRoom_77 ?_
    obtain ⟨h22, e23, hf⟩ := bnd_some hf
    refine v_iast (pc := 78) F dX11_sayRoom_78 km_3.1 km_3.2 e23 ?_
    exact v_vret (pc := 79) F hr dX11_sayRoom_79 (Option.some.inj hf) (Nat.zero_le _)
  · have hf := ite_t hf c3
    exact v_vret (pc := 10) F hr dX11_sayRoom_10 (Option.some.inj hf) (Nat.zero_le _)
def fX11_roomNow_44 (h : ST) (q0 : Int32) : Option (Int32 × ST) :=
  some (q0, h)
def fX11_roomNow_32 (h : ST) (l1 : Int32) : Option (Int32 × ST) :=
  if (h 0 26) = 0 then
  fX11_roomNow_44 h l1
  else
  fX11_roomNow_44 h 0
def fX11_roomNow (h : ST) : Option (Int32 × ST) :=
  bnd (fX11_numberNow h 0 9999) fun r1 =>
  if (r1.2 0 26) = 0 then
  bnd (rd 14 (r1.2 3) 7) fun v5 =>
    if r1.1 < v5 then
    fX11_roomNow_32 r1.2 r1.1
    else
    bnd (fX11_wrong r1.2 3) fun r8 =>
      fX11_roomNow_32 r8 r1.1
  else
  fX11_roomNow_32 r1.2 r1.1
set_option maxRecDepth 100000 in
set_option maxHeartbeats 4000000 in
theorem tX11_roomNow_44 {p : Program} {l : Launch} {e : Env} {s : State} {m : MethodId} {args : Array Value} {below : List Frame} {meth : Method} {c : Code} {g : GE} {B : Nat} {h : ST}  {q0 : Int32} (F : Fx p s m args meth c cX11_roomNow 2 "DustParishModel" 43 g B)
    {y : Int32 × ST} (hr : meth.sig.returnType = (some .int)) (hf : fX11_roomNow_44 h q0 = some y) : V p l e 3 0 s m args below meth c (MQ below (QO KM 43 g (some (.int y.1)) y.2) args s 0 (6 * 0) (WA 43 g)) KM 43 g B 2 0 h 44 [] [.int q0] := by
  unfold fX11_roomNow_44 at hf
  exact v_iret (pc := 44) F hr dX11_roomNow_44 (some_fst hf) (some_snd hf) (Nat.zero_le _)
set_option maxRecDepth 100000 in
set_option maxHeartbeats 4000000 in
theorem tX11_roomNow_32 {p : Program} {l : Launch} {e : Env} {s : State} {m : MethodId} {args : Array Value} {below : List Frame} {meth : Method} {c : Code} {g : GE} {B : Nat} {h : ST}  {l1 : Int32} (F : Fx p s m args meth c cX11_roomNow 2 "DustParishModel" 43 g B)
    {y : Int32 × ST} (hr : meth.sig.returnType = (some .int)) (hf : fX11_roomNow_32 h l1 = some y) : V p l e 3 0 s m args below meth c (MQ below (QO KM 43 g (some (.int y.1)) y.2) args s 0 (6 * 0) (WA 43 g)) KM 43 g B 2 0 h 32 [(0, .ref (gA g 0)), (1, .int l1)] [] := by
  unfold fX11_roomNow_32 at hf
  refine v_aload_n (pc := 32) (j := 0) F dX11_roomNow_32 rfl rfl ?_
  refine v_ifl (pc := 33) F fl_X11_208 dX11_roomNow_33 km_0.1 km_0.2 fv_10_26 ?_
  refine v_if_ne (pc := 36) (tgt := 43) F dX11_roomNow_36 (by decide) (fun c4 => ?_) (fun c4 => ?_)
  · have hf := ite_f hf c4
    refine v_iconst (pc := 43) (v := 0) F dX11_roomNow_43 ic_0 ?_
    refine V.sub (lv' := []) [] rfl ?_
    exact tX11_roomNow_44 F hr hf
  · have hf := ite_t hf c4
    refine v_iload_n (pc := 39) (j := 1) F dX11_roomNow_39 rfl rfl ?_
    refine v_goto (pc := 40) (tgt := 44) F dX11_roomNow_40 (by decide) ?_
    refine V.sub (lv' := []) [] rfl ?_
    exact tX11_roomNow_44 F hr hf
set_option maxRecDepth 100000 in
set_option maxHeartbeats 4000000 in
theorem kX11_roomNow {l : Launch} {g : GE} {B : Nat} {h : ST} {y : Int32 × ST} (hf : fX11_roomNow h = some y) : CT l yX11_roomNow cX11_roomNow 2 (some .int) 3 KM 43 g B [.ref (gA g 0)] h (some (.int y.1)) y.2 := by
  refine CT.of pn_X11 (Nat.le_of_ble_eq_true rfl) ?_
  intro p e s m below meth c hr F
  have F : Fx p s m _ meth c cX11_roomNow 2 "DustParishModel" 43 g B := F
  refine V_lv (lv' := [(0, .ref (gA g 0))]) rfl ?_
  unfold fX11_roomNow at hf
  refine v_aload_n (pc := 0) (j := 0) F dX11_roomNow_0 rfl rfl ?_
  refine v_iconst (pc := 1) (v := 0) F dX11_roomNow_1 ic_0 ?_
  refine v_sipush (pc := 2) (v := 9999) F dX11_roomNow_2 sp_9999 ?_
  obtain ⟨r1, e2, hf⟩ := bnd_some hf
  refine v_callVi (pc := 5) (As := [.int 0, .int 9999]) F cl_X11_236 dX11_roomNow_5 (kX11_numberNow e2) km_0.1 km_0.2 rc_10 rfl rfl (Nat.le_of_ble_eq_true rfl) (by decide) (Nat.zero_le _) ?_
  refine v_istore_n (pc := 8) (lv' := [(0, .ref (gA g 0)), (1, .int r1.1)]) F dX11_roomNow_8 rfl (by decide) rfl ?_
  refine v_aload_n (pc := 9) (j := 0) F dX11_roomNow_9 rfl rfl ?_
  refine v_ifl (pc := 10) F fl_X11_208 dX11_roomNow_10 km_0.1 km_0.2 fv_10_26 ?_
  refine v_if_ne (pc := 13) (tgt := 32) F dX11_roomNow_13 (by decide) (fun c3 => ?_) (fun c3 => ?_)
  · have hf := ite_f hf c3
    exact tX11_roomNow_32 F hr hf
  · have hf := ite_t hf c3
    refine v_iload_n (pc := 16) (j := 1) F dX11_roomNow_16 rfl rfl ?_
    refine v_aload_n (pc := 17) (j := 0) F dX11_roomNow_17 rfl rfl ?_
    refine v_ifl (pc := 18) F fl_X11_36 dX11_roomNow_18 km_0.1 km_0.2 fv_10_3 ?_
    refine v_bipush (pc := 21) (v := 7) F dX11_roomNow_21 bp_7 ?_
    obtain ⟨v5, e6, hf⟩ := bnd_some hf
    refine v_iald (pc := 23) F dX11_roomNow_23 km_3.1 km_3.2 e6 ?_
    refine v_icmp_lt (pc := 24) (tgt := 32) F dX11_roomNow_24 (by decide) (fun c7 => ?_) (fun c7 => ?_)
    · have hf := ite_t hf c7
      exact tX11_roomNow_32 F hr hf
    · have hf := ite_f hf c7
      refine v_aload_n (pc := 27) (j := 0) F dX11_roomNow_27 rfl rfl ?_
      refine v_iconst (pc := 28) (v := 3) F dX11_roomNow_28 ic_3 ?_
      obtain ⟨r8, e9, hf⟩ := bnd_some hf
      refine v_callVv (pc := 29) (As := [.int 3]) F cl_X11_229 dX11_roomNow_29 (kX11_wrong e9) km_0.1 km_0.2 rc_10 rfl rfl (Nat.le_of_ble_eq_true rfl) (by decide) (Nat.zero_le _) ?_
      exact tX11_roomNow_32 F hr hf
def fX11_readRoom_16 (h : ST) (l1 : Int32) : Option (Int32 × ST) :=
  some (l1, h)
def fX11_readRoom (h : ST) : Option (Int32 × ST) :=
  bnd (fX11_roomNow h) fun r1 =>
  if (r1.2 0 26) = 0 then
  bnd (fX11_stepOn r1.2) fun r4 =>
    fX11_readRoom_16 r4 r1.1
  else
  fX11_readRoom_16 r1.2 r1.1
set_option maxRecDepth 100000 in
set_option maxHeartbeats 4000000 in
theorem tX11_readRoom_16 {p : Program} {l : Launch} {e : Env} {s : State} {m : MethodId} {args : Array Value} {below : List Frame} {meth : Method} {c : Code} {g : GE} {B : Nat} {h : ST}  {l1 : Int32} (F : Fx p s m args meth c cX11_readRoom 2 "DustParishModel" 43 g B)
    {y : Int32 × ST} (hr : meth.sig.returnType = (some .int)) (hf : fX11_readRoom_16 h l1 = some y) : V p l e 4 0 s m args below meth c (MQ below (QO KM 43 g (some (.int y.1)) y.2) args s 0 (6 * 0) (WA 43 g)) KM 43 g B 2 0 h 16 [(1, .int l1)] [] := by
  unfold fX11_readRoom_16 at hf
  refine v_iload_n (pc := 16) (j := 0) F dX11_readRoom_16 rfl rfl ?_
  exact v_iret (pc := 17) F hr dX11_readRoom_17 (some_fst hf) (some_snd hf) (Nat.zero_le _)
set_option maxRecDepth 100000 in
set_option maxHeartbeats 4000000 in
theorem kX11_readRoom {l : Launch} {g : GE} {B : Nat} {h : ST} {y : Int32 × ST} (hf : fX11_readRoom h = some y) : CT l yX11_readRoom cX11_readRoom 2 (some .int) 4 KM 43 g B [.ref (gA g 0)] h (some (.int y.1)) y.2 := by
  refine CT.of pn_X11 (Nat.le_of_ble_eq_true rfl) ?_
  intro p e s m below meth c hr F
  have F : Fx p s m _ meth c cX11_readRoom 2 "DustParishModel" 43 g B := F
  refine V_lv (lv' := [(0, .ref (gA g 0))]) rfl ?_
  unfold fX11_readRoom at hf
  refine v_aload_n (pc := 0) (j := 0) F dX11_readRoom_0 rfl rfl ?_
  obtain ⟨r1, e2, hf⟩ := bnd_some hf
  refine v_callVi (pc := 1) (As := []) F cl_X11_239 dX11_readRoom_1 (kX11_roomNow e2) km_0.1 km_0.2 rc_10 rfl rfl (Nat.le_of_ble_eq_true rfl) (by decide) (Nat.zero_le _) ?_
  refine v_istore_n (pc := 4) (lv' := [(0, .ref (gA g 0)), (1, .int r1.1)]) F dX11_readRoom_4 rfl (by decide) rfl ?_
  refine v_aload_n (pc := 5) (j := 0) F dX11_readRoom_5 rfl rfl ?_
  refine v_ifl (pc := 6) F fl_X11_208 dX11_readRoom_6 km_0.1 km_0.2 fv_10_26 ?_
  refine v_if_ne (pc := 9) (tgt := 16) F dX11_readRoom_9 (by decide) (fun c3 => ?_) (fun c3 => ?_)
  · have hf := ite_f hf c3
    refine V.sub (lv' := [(1, .int r1.1)]) [1] rfl ?_
    exact tX11_readRoom_16 F hr hf
  · have hf := ite_t hf c3
    refine v_aload_n (pc := 12) (j := 0) F dX11_readRoom_12 rfl rfl ?_
    obtain ⟨r4, e5, hf⟩ := bnd_some hf
    refine v_callVv (pc := 13) (As := []) F cl_X11_233 dX11_readRoom_13 (kX11_stepOn e5) km_0.1 km_0.2 rc_10 rfl rfl (Nat.le_of_ble_eq_true rfl) (by decide) (Nat.zero_le _) ?_
    refine V.sub (lv' := [(1, .int r1.1)]) [1] rfl ?_
    exact tX11_readRoom_16 F hr hf
def fX11_sayDoor_58 (h : ST) (l1 : Int32) (l2 : Int32) : Option (ST) :=
  bnd (rd 14 (h 3) 8) fun v10 =>
  bnd (wr 28 h 8 (14 + v10) l1) fun h12 =>
  bnd (wr 28 h12 9 (14 + v10) l2) fun h14 =>
  bnd (fX11_readNumber h14 1 9) fun r16 =>
  bnd (wr 28 r16.2 10 (14 + v10) r16.1) fun h18 =>
  bnd (rd 14 (h18 3) 8) fun v20 =>
  bnd (wr 14 h18 3 8 (v20 + 1)) fun h22 =>
  some h22
def fX11_sayDoor_47 (h : ST) (l1 : Int32) (l2 : Int32) : Option (ST) :=
  if (h 0 26) = 0 then
  bnd (fX11_stepOn h) fun r24 =>
    fX11_sayDoor_58 r24 l1 l2
  else
  fX11_sayDoor_58 h l1 l2
def fX11_sayDoor_42 (h : ST) (l1 : Int32) (l2 : Int32) : Option (ST) :=
  bnd (fX11_wrong h 4) fun r27 =>
  fX11_sayDoor_47 r27 l1 l2
def fX11_sayDoor (h : ST) : Option (ST) :=
  bnd (fX11_another h 1 14) fun r1 =>
  if r1.1 = 0 then
  some r1.2
  else
  bnd (fX11_readRoom r1.2) fun r4 =>
    bnd (fX11_roomNow r4.2) fun r6 =>
    if (r6.2 0 26) = 0 then
    if r4.1 = r6.1 then
      fX11_sayDoor_42 r6.2 r4.1 r6.1
      else
      bnd (fX11_isDoor r6.2 r4.1 r6.1) fun r29 =>
        if r29 = 0 then
        fX11_sayDoor_47 r6.2 r4.1 r6.1
        else
        fX11_sayDoor_42 r6.2 r4.1 r6.1
    else
    fX11_sayDoor_47 r6.2 r4.1 r6.1
set_option maxRecDepth 100000 in
set_option maxHeartbeats 4000000 in
theorem tX11_sayDoor_58 {p : Program} {l : Launch} {e : Env} {s : State} {m : MethodId} {args : Array Value} {below : List Frame} {meth : Method} {c : Code} {g : GE} {B : Nat} {h : ST}  {l1 : Int32} {l2 : Int32} (F : Fx p s m args meth c cX11_sayDoor 4 "DustParishModel" 43 g B)
    {y : ST} (hr : meth.sig.returnType = none) (hf : fX11_sayDoor_58 h l1 l2 = some y) : V p l e 5 0 s m args below meth c (MQ below (QO KM 43 g none y) args s 0 (6 * 0) (WA 43 g)) KM 43 g B 4 0 h 58 [(0, .ref (gA g 0)), (1, .int l1), (2, .int l2)] [] := by
  unfold fX11_sayDoor_58 at hf
  refine v_bipush (pc := 58) (v := 14) F dX11_sayDoor_58 bp_14 ?_
  refine v_aload_n (pc := 60) (j := 0) F dX11_sayDoor_60 rfl rfl ?_
  refine v_ifl (pc := 61) F fl_X11_36 dX11_sayDoor_61 km_0.1 km_0.2 fv_10_3 ?_
  refine v_bipush (pc := 64) (v := 8) F dX11_sayDoor_64 bp_8 ?_
  obtain ⟨v10, e11, hf⟩ := bnd_some hf
  refine v_iald (pc := 66) F dX11_sayDoor_66 km_3.1 km_3.2 e11 ?_
  refine v_iadd (pc := 67) F dX11_sayDoor_67 ?_
  refine v_istore_n (pc := 68) (lv' := [(0, .ref (gA g 0)), (1, .int l1), (2, .int l2), (3, .int (14 + v10))]) F dX11_sayDoor_68 rfl (by decide) rfl ?_
  refine v_aload_n (pc := 69) (j := 0) F dX11_sayDoor_69 rfl rfl ?_
  refine v_ifl (pc := 70) F fl_X11_50 dX11_sayDoor_70 km_0.1 km_0.2 fv_10_8 ?_
  refine v_iload_n (pc := 73) (j := 3) F dX11_sayDoor_73 rfl rfl ?_
  refine v_iload_n (pc := 74) (j := 1) F dX11_sayDoor_74 rfl rfl ?_
  obtain ⟨h12, e13, hf⟩ := bnd_some hf
  refine v_iast (pc := 75) F dX11_sayDoor_75 km_8.1 km_8.2 e13 ?_
  refine v_aload_n (pc := 76) (j := 0) F dX11_sayDoor_76 rfl rfl ?_
  refine v_ifl (pc := 77) F fl_X11_53 dX11_sayDoor_77 km_0.1 km_0.2 fv_10_9 ?_
  refine v_iload_n (pc := 80) (j := 3) F dX11_sayDoor_80 rfl rfl ?_
  refine v_iload_n (pc := 81) (j := 2) F dX11_sayDoor_81 rfl rfl ?_
  obtain ⟨h14, e15, hf⟩ := bnd_some hf
  refine v_iast (pc := 82) F dX11_sayDoor_82 km_9.1 km_9.2 e15 ?_
  refine v_aload_n (pc := 83) (j := 0) F dX11_sayDoor_83 rfl rfl ?_
  refine v_ifl (pc := 84) F fl_X11_56 dX11_sayDoor_84 km_0.1 km_0.2 fv_10_10 ?_
  refine v_iload_n (pc := 87) (j := 3) F dX11_sayDoor_87 rfl rfl ?_
  refine v_aload_n (pc := 88) (j := 0) F dX11_sayDoor_88 rfl rfl ?_
  refine v_iconst (pc := 89) (v := 1) F dX11_sayDoor_89 ic_1 ?_
  refine v_bipush (pc := 90) (v := 9) F dX11_sayDoor_90 bp_9 ?_
  obtain ⟨r16, e17, hf⟩ := bnd_some hf
  refine v_callVi (pc := 92) (As := [.int 1, .int 9]) F cl_X11_242 dX11_sayDoor_92 (kX11_readNumber e17) km_0.1 km_0.2 rc_10 rfl rfl (Nat.le_of_ble_eq_true rfl) (by decide) (Nat.zero_le _) ?_
  obtain ⟨h18, e19, hf⟩ := bnd_some hf
  refine v_iast (pc := 95) F dX11_sayDoor_95 km_10.1 km_10.2 e19 ?_
  refine v_aload_n (pc := 96) (j := 0) F dX11_sayDoor_96 rfl rfl ?_
  refine v_ifl (pc := 97) F fl_X11_36 dX11_sayDoor_97 km_0.1 km_0.2 fv_10_3 ?_
  refine v_bipush (pc := 100) (v := 8) F dX11_sayDoor_100 bp_8 ?_
  refine v_dup2_11 (pc := 102) F dX11_sayDoor_102 rfl rfl ?_
  obtain ⟨v20, e21, hf⟩ := bnd_some hf
  refine v_iald (pc := 103) F dX11_sayDoor_103 km_3.1 km_3.2 e21 ?_
  refine v_iconst (pc := 104) (v := 1) F dX11_sayDoor_104 ic_1 ?_
  refine v_iadd (pc := 105) F dX11_sayDoor_105 ?_
  obtain ⟨h22, e23, hf⟩ := bnd_some hf
  refine v_iast (pc := 106) F dX11_sayDoor_106 km_3.1 km_3.2 e23 ?_
  exact v_vret (pc := 107) F hr dX11_sayDoor_107 (Option.some.inj hf) (Nat.zero_le _)
set_option maxRecDepth 100000 in
set_option maxHeartbeats 4000000 in
theorem tX11_sayDoor_47 {p : Program} {l : Launch} {e : Env} {s : State} {m : MethodId} {args : Array Value} {below : List Frame} {meth : Method} {c : Code} {g : GE} {B : Nat} {h : ST}  {l1 : Int32} {l2 : Int32} (F : Fx p s m args meth c cX11_sayDoor 4 "DustParishModel" 43 g B)
    {y : ST} (hr : meth.sig.returnType = none) (hf : fX11_sayDoor_47 h l1 l2 = some y) : V p l e 5 0 s m args below meth c (MQ below (QO KM 43 g none y) args s 0 (6 * 0) (WA 43 g)) KM 43 g B 4 0 h 47 [(0, .ref (gA g 0)), (1, .int l1), (2, .int l2)] [] := by
  unfold fX11_sayDoor_47 at hf
  refine v_aload_n (pc := 47) (j := 0) F dX11_sayDoor_47 rfl rfl ?_
  refine v_ifl (pc := 48) F fl_X11_208 dX11_sayDoor_48 km_0.1 km_0.2 fv_10_26 ?_
  refine v_if_ne (pc := 51) (tgt := 58) F dX11_sayDoor_51 (by decide) (fun c9 => ?_) (fun c9 => ?_)
  · have hf := ite_f hf c9
    exact tX11_sayDoor_58 F hr hf
  · have hf := ite_t hf c9
    refine v_aload_n (pc := 54) (j := 0) F dX11_sayDoor_54 rfl rfl ?_
    obtain ⟨r24, e25, hf⟩ := bnd_some hf
    refine v_callVv (pc := 55) (As := []) F cl_X11_233 dX11_sayDoor_55 (kX11_stepOn e25) km_0.1 km_0.2 rc_10 rfl rfl (Nat.le_of_ble_eq_true rfl) (by decide) (Nat.zero_le _) ?_
    exact tX11_sayDoor_58 F hr hf
set_option maxRecDepth 100000 in
set_option maxHeartbeats 4000000 in
theorem tX11_sayDoor_42 {p : Program} {l : Launch} {e : Env} {s : State} {m : MethodId} {args : Array Value} {below : List Frame} {meth : Method} {c : Code} {g : GE} {B : Nat} {h : ST}  {l1 : Int32} {l2 : Int32} (F : Fx p s m args meth c cX11_sayDoor 4 "DustParishModel" 43 g B)
    {y : ST} (hr : meth.sig.returnType = none) (hf : fX11_sayDoor_42 h l1 l2 = some y) : V p l e 5 0 s m args below meth c (MQ below (QO KM 43 g none y) args s 0 (6 * 0) (WA 43 g)) KM 43 g B 4 0 h 42 [(0, .ref (gA g 0)), (1, .int l1), (2, .int l2)] [] := by
  unfold fX11_sayDoor_42 at hf
  refine v_aload_n (pc := 42) (j := 0) F dX11_sayDoor_42 rfl rfl ?_
  refine v_iconst (pc := 43) (v := 4) F dX11_sayDoor_43 ic_4 ?_
  obtain ⟨r27, e28, hf⟩ := bnd_some hf
  refine v_callVv (pc := 44) (As := [.int 4]) F cl_X11_229 dX11_sayDoor_44 (kX11_wrong e28) km_0.1 km_0.2 rc_10 rfl rfl (Nat.le_of_ble_eq_true rfl) (by decide) (Nat.zero_le _) ?_
  exact tX11_sayDoor_47 F hr hf
set_option maxRecDepth 100000 in
set_option maxHeartbeats 4000000 in
theorem kX11_sayDoor {l : Launch} {g : GE} {B : Nat} {h : ST} {y : ST} (hf : fX11_sayDoor h = some y) : CT l yX11_sayDoor cX11_sayDoor 4 none 5 KM 43 g B [.ref (gA g 0)] h none y := by
  refine CT.of pn_X11 (Nat.le_of_ble_eq_true rfl) ?_
  intro p e s m below meth c hr F
  have F : Fx p s m _ meth c cX11_sayDoor 4 "DustParishModel" 43 g B := F
  refine V_lv (lv' := [(0, .ref (gA g 0))]) rfl ?_
  unfold fX11_sayDoor at hf
  refine v_aload_n (pc := 0) (j := 0) F dX11_sayDoor_0 rfl rfl ?_
  refine v_iconst (pc := 1) (v := 1) F dX11_sayDoor_1 ic_1 ?_
  refine v_bipush (pc := 2) (v := 14) F dX11_sayDoor_2 bp_14 ?_
  obtain ⟨r1, e2, hf⟩ := bnd_some hf
  refine v_callVi (pc := 4) (As := [.int 1, .int 14]) F cl_X11_279 dX11_sayDoor_4 (kX11_another e2) km_0.1 km_0.2 rc_10 rfl rfl (Nat.le_of_ble_eq_true rfl) (by decide) (Nat.zero_le _) ?_
  refine v_if_ne (pc := 7) (tgt := 11) F dX11_sayDoor_7 (by decide) (fun c3 => ?_) (fun c3 => ?_)
  · have hf := ite_f hf c3
    refine v_aload_n (pc := 11) (j := 0) F dX11_sayDoor_11 rfl rfl ?_
    obtain ⟨r4, e5, hf⟩ := bnd_some hf
    refine v_callVi (pc := 12) (As := []) F cl_X11_283 dX11_sayDoor_12 (kX11_readRoom e5) km_0.1 km_0.2 rc_10 rfl rfl (Nat.le_of_ble_eq_true rfl) (by decide) (Nat.zero_le _) ?_
    refine v_istore_n (pc := 15) (lv' := [(0, .ref (gA g 0)), (1, .int r4.1)]) F dX11_sayDoor_15 rfl (by decide) rfl ?_
    refine v_aload_n (pc := 16) (j := 0) F dX11_sayDoor_16 rfl rfl ?_
    obtain ⟨r6, e7, hf⟩ := bnd_some hf
    refine v_callVi (pc := 17) (As := []) F cl_X11_239 dX11_sayDoor_17 (kX11_roomNow e7) km_0.1 km_0.2 rc_10 rfl rfl (Nat.le_of_ble_eq_true rfl) (by decide) (Nat.zero_le _) ?_
    refine v_istore_n (pc := 20) (lv' := [(0, .ref (gA g 0)), (1, .int r4.1), (2, .int r6.1)]) F dX11_sayDoor_20 rfl (by decide) rfl ?_
    refine v_aload_n (pc := 21) (j := 0) F dX11_sayDoor_21 rfl rfl ?_
    refine v_ifl (pc := 22) F fl_X11_208 dX11_sayDoor_22 km_0.1 km_0.2 fv_10_26 ?_
    refine v_if_ne (pc := 25) (tgt := 47) F dX11_sayDoor_25 (by decide) (fun c8 => ?_) (fun c8 => ?_)
    · have hf := ite_f hf c8
      exact tX11_sayDoor_47 F hr hf
    · have hf := ite_t hf c8
      refine v_iload_n (pc := 28) (j := 1) F dX11_sayDoor_28 rfl rfl ?_
      refine v_iload_n (pc := 29) (j := 2) F dX11_sayDoor_29 rfl rfl ?_
      refine v_icmp_eq (pc := 30) (tgt := 42) F dX11_sayDoor_30 (by decide) (fun c26 => ?_) (fun c26 => ?_)
      · have hf := ite_t hf c26
        exact tX11_sayDoor_42 F hr hf
      · have hf := ite_f hf c26
        refine v_aload_n (pc := 33) (j := 0) F dX11_sayDoor_33 rfl rfl ?_
        refine v_iload_n (pc := 34) (j := 1) F dX11_sayDoor_34 rfl rfl ?_
        refine v_iload_n (pc := 35) (j := 2) F dX11_sayDoor_35 rfl rfl ?_
        obtain ⟨r29, e30, hf⟩ := bnd_some hf
        refine v_callVi (pc := 36) (As := [.int r4.1, .int r6.1]) F cl_X11_286 dX11_sayDoor_36 (kX11_isDoor e30) km_0.1 km_0.2 rc_10 rfl rfl (Nat.le_of_ble_eq_true rfl) (by decide) (Nat.zero_le _) ?_
        refine v_if_eq (pc := 39) (tgt := 47) F dX11_sayDoor_39 (by decide) (fun c31 => ?_) (fun c31 => ?_)
        · have hf := ite_t hf c31
          exact tX11_sayDoor_47 F hr hf
        · have hf := ite_f hf c31
          exact tX11_sayDoor_42 F hr hf
  · have hf := ite_t hf c3
    exact v_vret (pc := 10) F hr dX11_sayDoor_10 (Option.some.inj hf) (Nat.zero_le _)
def fX11_sayWind (h : ST) : Option (ST) :=
  bnd (fX11_another h 2 5) fun r1 =>
  if r1.1 = 0 then
  some r1.2
  else
  bnd (rd 14 (r1.2 3) 9) fun v4 =>
    bnd (wr 10 r1.2 11 (5 + v4) 0) fun h6 =>
    bnd (rd 14 (h6 3) 9) fun v8 =>
    bnd (wr 14 h6 3 9 (v8 + 1)) fun h10 =>
    some h10
set_option maxRecDepth 100000 in
set_option maxHeartbeats 4000000 in
theorem kX11_sayWind {l : Launch} {g : GE} {B : Nat} {h : ST} {y : ST} (hf : fX11_sayWind h = some y) : CT l yX11_sayWind cX11_sayWind 1 none 4 KM 43 g B [.ref (gA g 0)] h none y := by
  refine CT.of pn_X11 (Nat.le_of_ble_eq_true rfl) ?_
  intro p e s m below meth c hr F
  have F : Fx p s m _ meth c cX11_sayWind 1 "DustParishModel" 43 g B := F
  refine V_lv (lv' := [(0, .ref (gA g 0))]) rfl ?_
  unfold fX11_sayWind at hf
  refine v_aload_n (pc := 0) (j := 0) F dX11_sayWind_0 rfl rfl ?_
  refine v_iconst (pc := 1) (v := 2) F dX11_sayWind_1 ic_2 ?_
  refine v_iconst (pc := 2) (v := 5) F dX11_sayWind_2 ic_5 ?_
  obtain ⟨r1, e2, hf⟩ := bnd_some hf
  refine v_callVi (pc := 3) (As := [.int 2, .int 5]) F cl_X11_279 dX11_sayWind_3 (kX11_another e2) km_0.1 km_0.2 rc_10 rfl rfl (Nat.le_of_ble_eq_true rfl) (by decide) (Nat.zero_le _) ?_
  refine v_if_ne (pc := 6) (tgt := 10) F dX11_sayWind_6 (by decide) (fun c3 => ?_) (fun c3 => ?_)
  · have hf := ite_f hf c3
    refine v_aload_n (pc := 10) (j := 0) F dX11_sayWind_10 rfl rfl ?_
    refine v_ifl (pc := 11) F fl_X11_59 dX11_sayWind_11 km_0.1 km_0.2 fv_10_11 ?_
    refine v_iconst (pc := 14) (v := 5) F dX11_sayWind_14 ic_5 ?_
    refine v_aload_n (pc := 15) (j := 0) F dX11_sayWind_15 rfl rfl ?_
    refine v_ifl (pc := 16) F fl_X11_36 dX11_sayWind_16 km_0.1 km_0.2 fv_10_3 ?_
    refine v_bipush (pc := 19) (v := 9) F dX11_sayWind_19 bp_9 ?_
    obtain ⟨v4, e5, hf⟩ := bnd_some hf
    refine v_iald (pc := 21) F dX11_sayWind_21 km_3.1 km_3.2 e5 ?_
    refine v_iadd (pc := 22) F dX11_sayWind_22 ?_
    refine v_iconst (pc := 23) (v := 0) F dX11_sayWind_23 ic_0 ?_
    obtain ⟨h6, e7, hf⟩ := bnd_some hf
    refine v_iast (pc := 24) F dX11_sayWind_24 km_11.1 km_11.2 e7 ?_
    refine v_aload_n (pc := 25) (j := 0) F dX11_sayWind_25 rfl rfl ?_
    refine v_ifl (pc := 26) F fl_X11_36 dX11_sayWind_26 km_0.1 km_0.2 fv_10_3 ?_
    refine v_bipush (pc := 29) (v := 9) F dX11_sayWind_29 bp_9 ?_
    refine v_dup2_11 (pc := 31) F dX11_sayWind_31 rfl rfl ?_
    obtain ⟨v8, e9, hf⟩ := bnd_some hf
    refine v_iald (pc := 32) F dX11_sayWind_32 km_3.1 km_3.2 e9 ?_
    refine v_iconst (pc := 33) (v := 1) F dX11_sayWind_33 ic_1 ?_
    refine v_iadd (pc := 34) F dX11_sayWind_34 ?_
    obtain ⟨h10, e11, hf⟩ := bnd_some hf
    refine v_iast (pc := 35) F dX11_sayWind_35 km_3.1 km_3.2 e11 ?_
    exact v_vret (pc := 36) F hr dX11_sayWind_36 (Option.some.inj hf) (Nat.zero_le _)
  · have hf := ite_t hf c3
    exact v_vret (pc := 9) F hr dX11_sayWind_9 (Option.some.inj hf) (Nat.zero_le _)
