def fX11_taken_31 (h : ST) (q0 : Int32) : Option (Int32 × ST) :=
  some (q0, h)
def fX11_taken (h : ST) (a1 : Int32) : Option (Int32 × ST) :=
  bnd (pw h 0 2 0) fun h1 =>
  bnd (fX11_isAhead h1 a1) fun r3 =>
  if r3 = 0 then
  bnd (fX11_fail h1 1) fun r6 =>
    fX11_taken_31 r6.2 r6.1
  else
  bnd (rd 14 (h1 3) 4) fun v8 =>
    bnd (fX11_takenIn h1 a1 v8) fun r10 =>
    fX11_taken_31 r10.2 r10.1
set_option maxRecDepth 100000 in
set_option maxHeartbeats 4000000 in
theorem tX11_taken_31 {p : Program} {l : Launch} {e : Env} {s : State} {m : MethodId} {args : Array Value} {below : List Frame} {meth : Method} {c : Code} {g : GE} {B : Nat} {h : ST}  {q0 : Int32} (F : Fx p s m args meth c cX11_taken 2 "DustParishModel" 43 g B)
    {y : Int32 × ST} (hr : meth.sig.returnType = (some .int)) (hf : fX11_taken_31 h q0 = some y) : V p l e 7 0 s m args below meth c (MQ below (QO KM 43 g (some (.int y.1)) y.2) args s 0 (6 * 0) (WA 43 g)) KM 43 g B 2 0 h 31 [] [.int q0] := by
  unfold fX11_taken_31 at hf
  exact v_iret (pc := 31) F hr dX11_taken_31 (some_fst hf) (some_snd hf) (Nat.zero_le _)
set_option maxRecDepth 100000 in
set_option maxHeartbeats 4000000 in
theorem kX11_taken {l : Launch} {g : GE} {B : Nat} {h : ST} {a1 : Int32} {y : Int32 × ST} (hf : fX11_taken h a1 = some y) : CT l yX11_taken cX11_taken 2 (some .int) 7 KM 43 g B [.ref (gA g 0), .int a1] h (some (.int y.1)) y.2 := by
  refine CT.of pn_X11 (Nat.le_of_ble_eq_true rfl) ?_
  intro p e s m below meth c hr F
  have F : Fx p s m _ meth c cX11_taken 2 "DustParishModel" 43 g B := F
  refine V_lv (lv' := [(0, .ref (gA g 0)), (1, .int a1)]) rfl ?_
  unfold fX11_taken at hf
  refine v_aload_n (pc := 0) (j := 0) F dX11_taken_0 rfl rfl ?_
  refine v_iconst (pc := 1) (v := 0) F dX11_taken_1 ic_0 ?_
  obtain ⟨h1, e2, hf⟩ := bnd_some hf
  refine v_pfl (pc := 2) F fl_X11_157 pl_10_2 dX11_taken_2 km_0.1 km_0.2 fv_10_2 rfl rfl e2 ?_
  refine v_iload_n (pc := 5) (j := 1) F dX11_taken_5 rfl rfl ?_
  obtain ⟨r3, e4, hf⟩ := bnd_some hf
  refine v_callSi (pc := 6) (As := [.int a1]) F cl_X11_433 dX11_taken_6 (kX11_isAhead e4) rfl rfl (Nat.le_of_ble_eq_true rfl) (by decide) (Nat.zero_le _) ?_
  refine v_if_eq (pc := 9) (tgt := 26) F dX11_taken_9 (by decide) (fun c5 => ?_) (fun c5 => ?_)
  · have hf := ite_t hf c5
    refine v_aload_n (pc := 26) (j := 0) F dX11_taken_26 rfl rfl ?_
    refine v_iconst (pc := 27) (v := 1) F dX11_taken_27 ic_1 ?_
    obtain ⟨r6, e7, hf⟩ := bnd_some hf
    refine v_callVi (pc := 28) (As := [.int 1]) F cl_X11_320 dX11_taken_28 (kX11_fail e7) km_0.1 km_0.2 rc_10 rfl rfl (Nat.le_of_ble_eq_true rfl) (by decide) (Nat.zero_le _) ?_
    refine V.sub (lv' := []) [] rfl ?_
    exact tX11_taken_31 F hr hf
  · have hf := ite_f hf c5
    refine v_aload_n (pc := 12) (j := 0) F dX11_taken_12 rfl rfl ?_
    refine v_iload_n (pc := 13) (j := 1) F dX11_taken_13 rfl rfl ?_
    refine v_aload_n (pc := 14) (j := 0) F dX11_taken_14 rfl rfl ?_
    refine v_ifl (pc := 15) F fl_X11_36 dX11_taken_15 km_0.1 km_0.2 fv_10_3 ?_
    refine v_iconst (pc := 18) (v := 4) F dX11_taken_18 ic_4 ?_
    obtain ⟨v8, e9, hf⟩ := bnd_some hf
    refine v_iald (pc := 19) F dX11_taken_19 km_3.1 km_3.2 e9 ?_
    obtain ⟨r10, e11, hf⟩ := bnd_some hf
    refine v_callVi (pc := 20) (As := [.int a1, .int v8]) F cl_X11_436 dX11_taken_20 (kX11_takenIn e11) km_0.1 km_0.2 rc_10 rfl rfl (Nat.le_of_ble_eq_true rfl) (by decide) (Nat.zero_le _) ?_
    refine v_goto (pc := 23) (tgt := 31) F dX11_taken_23 (by decide) ?_
    refine V.sub (lv' := []) [] rfl ?_
    exact tX11_taken_31 F hr hf
def fX11_then (h : ST) (a1 : Int32) (a2 : Int32) : Option (Int32 × ST) :=
  bnd (pw h 0 2 0) fun h1 =>
  bnd (fX11_isRoom h1 a1) fun r3 =>
  if r3 = 0 then
  bnd (fX11_fail h1 1) fun r19 =>
    some (r19.1, r19.2)
  else
  bnd (fX11_isAhead h1 a2) fun r6 =>
    if r6 = 0 then
    bnd (fX11_fail h1 2) fun r17 =>
      some (r17.1, r17.2)
    else
    bnd (fX11_pack h1 27 31 0) fun r9 =>
      bnd (fX11_goOn r9 a2) fun r11 =>
      bnd (rd 9 (r11 19) a1) fun v13 =>
      bnd (fX11_unpack r11 27 31 0) fun r15 =>
      some (v13, r15)
set_option maxRecDepth 100000 in
set_option maxHeartbeats 4000000 in
theorem kX11_then {l : Launch} {g : GE} {B : Nat} {h : ST} {a1 : Int32} {a2 : Int32} {y : Int32 × ST} (hf : fX11_then h a1 a2 = some y) : CT l yX11_then cX11_then 4 (some .int) 8 KM 43 g B [.ref (gA g 0), .int a1, .int a2] h (some (.int y.1)) y.2 := by
  refine CT.of pn_X11 (Nat.le_of_ble_eq_true rfl) ?_
  intro p e s m below meth c hr F
  have F : Fx p s m _ meth c cX11_then 4 "DustParishModel" 43 g B := F
  refine V_lv (lv' := [(0, .ref (gA g 0)), (1, .int a1), (2, .int a2)]) rfl ?_
  unfold fX11_then at hf
  refine v_aload_n (pc := 0) (j := 0) F dX11_then_0 rfl rfl ?_
  refine v_iconst (pc := 1) (v := 0) F dX11_then_1 ic_0 ?_
  obtain ⟨h1, e2, hf⟩ := bnd_some hf
  refine v_pfl (pc := 2) F fl_X11_157 pl_10_2 dX11_then_2 km_0.1 km_0.2 fv_10_2 rfl rfl e2 ?_
  refine v_aload_n (pc := 5) (j := 0) F dX11_then_5 rfl rfl ?_
  refine v_iload_n (pc := 6) (j := 1) F dX11_then_6 rfl rfl ?_
  obtain ⟨r3, e4, hf⟩ := bnd_some hf
  refine v_callVi (pc := 7) (As := [.int a1]) F cl_X11_387 dX11_then_7 (kX11_isRoom e4) km_0.1 km_0.2 rc_10 rfl rfl (Nat.le_of_ble_eq_true rfl) (by decide) (Nat.zero_le _) ?_
  refine v_if_ne (pc := 10) (tgt := 19) F dX11_then_10 (by decide) (fun c5 => ?_) (fun c5 => ?_)
  · have hf := ite_f hf c5
    refine v_iload_n (pc := 19) (j := 2) F dX11_then_19 rfl rfl ?_
    obtain ⟨r6, e7, hf⟩ := bnd_some hf
    refine v_callSi (pc := 20) (As := [.int a2]) F cl_X11_433 dX11_then_20 (kX11_isAhead e7) rfl rfl (Nat.le_of_ble_eq_true rfl) (by decide) (Nat.zero_le _) ?_
    refine v_if_ne (pc := 23) (tgt := 32) F dX11_then_23 (by decide) (fun c8 => ?_) (fun c8 => ?_)
    · have hf := ite_f hf c8
      refine v_aload_n (pc := 32) (j := 0) F dX11_then_32 rfl rfl ?_
      refine v_aload_n (pc := 33) (j := 0) F dX11_then_33 rfl rfl ?_
      refine v_ifl (pc := 34) F fl_X11_109 dX11_then_34 km_0.1 km_0.2 fv_10_42 ?_
      refine v_iconst (pc := 37) (v := 0) F dX11_then_37 ic_0 ?_
      obtain ⟨r9, e10, hf⟩ := bnd_some hf
      refine v_callVv (pc := 38) (As := [.ref (gA g 27), .int 0]) F cl_X11_403 dX11_then_38 (kX11_pack km_27.1 km_27.2 e10) km_0.1 km_0.2 rc_10 rfl rfl (Nat.le_of_ble_eq_true rfl) (by decide) (Nat.zero_le _) ?_
      refine v_aload_n (pc := 41) (j := 0) F dX11_then_41 rfl rfl ?_
      refine v_iload_n (pc := 42) (j := 2) F dX11_then_42 rfl rfl ?_
      obtain ⟨r11, e12, hf⟩ := bnd_some hf
      refine v_callVv (pc := 43) (As := [.int a2]) F cl_X11_415 dX11_then_43 (kX11_goOn e12) km_0.1 km_0.2 rc_10 rfl rfl (Nat.le_of_ble_eq_true rfl) (by decide) (Nat.zero_le _) ?_
      refine v_aload_n (pc := 46) (j := 0) F dX11_then_46 rfl rfl ?_
      refine v_ifl (pc := 47) F fl_X11_87 dX11_then_47 km_0.1 km_0.2 fv_10_29 ?_
      refine v_iload_n (pc := 50) (j := 1) F dX11_then_50 rfl rfl ?_
      obtain ⟨v13, e14, hf⟩ := bnd_some hf
      refine v_iald (pc := 51) F dX11_then_51 km_19.1 km_19.2 e14 ?_
      refine v_istore_n (pc := 52) (lv' := [(0, .ref (gA g 0)), (1, .int a1), (2, .int a2), (3, .int v13)]) F dX11_then_52 rfl (by decide) rfl ?_
      refine v_aload_n (pc := 53) (j := 0) F dX11_then_53 rfl rfl ?_
      refine v_aload_n (pc := 54) (j := 0) F dX11_then_54 rfl rfl ?_
      refine v_ifl (pc := 55) F fl_X11_109 dX11_then_55 km_0.1 km_0.2 fv_10_42 ?_
      refine v_iconst (pc := 58) (v := 0) F dX11_then_58 ic_0 ?_
      obtain ⟨r15, e16, hf⟩ := bnd_some hf
      refine v_callVv (pc := 59) (As := [.ref (gA g 27), .int 0]) F cl_X11_430 dX11_then_59 (kX11_unpack km_27.1 km_27.2 e16) km_0.1 km_0.2 rc_10 rfl rfl (Nat.le_of_ble_eq_true rfl) (by decide) (Nat.zero_le _) ?_
      refine v_iload_n (pc := 62) (j := 3) F dX11_then_62 rfl rfl ?_
      exact v_iret (pc := 63) F hr dX11_then_63 (some_fst hf) (some_snd hf) (Nat.zero_le _)
    · have hf := ite_t hf c8
      refine v_aload_n (pc := 26) (j := 0) F dX11_then_26 rfl rfl ?_
      refine v_iconst (pc := 27) (v := 2) F dX11_then_27 ic_2 ?_
      obtain ⟨r17, e18, hf⟩ := bnd_some hf
      refine v_callVi (pc := 28) (As := [.int 2]) F cl_X11_320 dX11_then_28 (kX11_fail e18) km_0.1 km_0.2 rc_10 rfl rfl (Nat.le_of_ble_eq_true rfl) (by decide) (Nat.zero_le _) ?_
      exact v_iret (pc := 31) F hr dX11_then_31 (some_fst hf) (some_snd hf) (Nat.zero_le _)
  · have hf := ite_t hf c5
    refine v_aload_n (pc := 13) (j := 0) F dX11_then_13 rfl rfl ?_
    refine v_iconst (pc := 14) (v := 1) F dX11_then_14 ic_1 ?_
    obtain ⟨r19, e20, hf⟩ := bnd_some hf
    refine v_callVi (pc := 15) (As := [.int 1]) F cl_X11_320 dX11_then_15 (kX11_fail e20) km_0.1 km_0.2 rc_10 rfl rfl (Nat.le_of_ble_eq_true rfl) (by decide) (Nat.zero_le _) ?_
    exact v_iret (pc := 18) F hr dX11_then_18 (some_fst hf) (some_snd hf) (Nat.zero_le _)
def fX11_thick_76 (h : ST) (l1 : Int32) (l2 : Int32) (l3 : Int32) (l4 : Int32) : Option ((ST × Int32 × Int32) ⊕ (ST × Int32)) :=
  bnd (fX11_aDay h) fun r16 =>
  some (.inl (r16, l3, l4 + 1))
def fX11_thick_51 (l1 : Int32) (l2 : Int32) (s1 : (ST × Int32 × Int32)) : Option ((ST × Int32 × Int32) ⊕ (ST × Int32)) :=
  if 99 < s1.2.2 then
  some (.inr (s1.1, s1.2.1))
  else
  if s1.2.1 = (-1) then
    bnd (rd 9 (s1.1 19) l1) fun v13 =>
      if v13 < l2 then
      fX11_thick_76 s1.1 l1 l2 s1.2.1 s1.2.2
      else
      fX11_thick_76 s1.1 l1 l2 s1.2.2 s1.2.2
    else
    some (.inr (s1.1, s1.2.1))
def fX11_thick_86 (h : ST) (l3 : Int32) : Option (Int32 × ST) :=
  bnd (fX11_unpack h 27 31 0) fun r20 =>
  some (l3, r20)
def fX11_thick (h : ST) (a1 : Int32) (a2 : Int32) : Option (Int32 × ST) :=
  bnd (pw h 0 2 0) fun h1 =>
  bnd (fX11_isRoom h1 a1) fun r3 =>
  if r3 = 0 then
  bnd (fX11_fail h1 1) fun r24 =>
    some (r24.1, r24.2)
  else
  bnd (fX11_isIn h1 a2.toInt64 (0 : Int64) (9999 : Int64)) fun r6 =>
    if r6 = 0 then
    bnd (fX11_fail h1 2) fun r22 =>
      some (r22.1, r22.2)
    else
    bnd (fX11_pack h1 27 31 0) fun r9 =>
      bnd (lp FU (fX11_thick_51 a1 a2) (r9, (-1), 0)) fun x18 =>
      fX11_thick_86 x18.1 x18.2
set_option maxRecDepth 100000 in
set_option maxHeartbeats 4000000 in
theorem tX11_thick_76 {p : Program} {l : Launch} {e : Env} {s : State} {m : MethodId} {args : Array Value} {below : List Frame} {meth : Method} {c : Code} {g : GE} {B : Nat} {h : ST}  {l1 : Int32} {l2 : Int32} {l3 : Int32} {l4 : Int32} (F : Fx p s m args meth c cX11_thick 5 "DustParishModel" 43 g B)
    {Q : State → Prop} {y : (ST × Int32 × Int32) ⊕ (ST × Int32)} (hk : ∀ v : (ST × Int32 × Int32), y = Sum.inl v → V p l e 7 0 s m args below meth c Q KM 43 g B 5 0 v.1 51 [(0, .ref (gA g 0)), (1, .int l1), (2, .int l2), (3, .int v.2.1), (4, .int v.2.2)] []) (hx0 : ∀ v : (ST × Int32), y = Sum.inr v → V p l e 7 0 s m args below meth c Q KM 43 g B 5 0 v.1 86 [(0, .ref (gA g 0)), (3, .int v.2)] []) (hf : fX11_thick_76 h l1 l2 l3 l4 = some y) : V p l e 7 0 s m args below meth c Q KM 43 g B 5 0 h 76 [(0, .ref (gA g 0)), (1, .int l1), (2, .int l2), (3, .int l3), (4, .int l4)] [] := by
  unfold fX11_thick_76 at hf
  refine v_aload_n (pc := 76) (j := 0) F dX11_thick_76 rfl rfl ?_
  obtain ⟨r16, e17, hf⟩ := bnd_some hf
  refine v_callVv (pc := 77) (As := []) F cl_X11_378 dX11_thick_77 (kX11_aDay e17) km_0.1 km_0.2 rc_10 rfl rfl (Nat.le_of_ble_eq_true rfl) (by decide) (Nat.zero_le _) ?_
  refine v_iinc (pc := 80) (j := 4) (v := l4 + 1) (lv' := [(0, .ref (gA g 0)), (1, .int l1), (2, .int l2), (3, .int l3), (4, .int (l4 + 1))]) F dX11_thick_80 rfl (congrArg (fun z => l4 + z) ic_1) (by decide) rfl ?_
  refine v_goto (pc := 83) (tgt := 51) F dX11_thick_83 (by decide) ?_
  exact hk (r16, l3, l4 + 1) (Option.some.inj hf).symm
set_option maxRecDepth 100000 in
set_option maxHeartbeats 4000000 in
theorem tX11_thick_51 {p : Program} {l : Launch} {e : Env} {s : State} {m : MethodId} {args : Array Value} {below : List Frame} {meth : Method} {c : Code} {g : GE} {B : Nat}   {l1 : Int32} {l2 : Int32} {Q : State → Prop} {x : (ST × Int32)} {nf : Nat} {s0 : (ST × Int32 × Int32)} (F : Fx p s m args meth c cX11_thick 5 "DustParishModel" 43 g B) (hX0 : V p l e 7 0 s m args below meth c Q KM 43 g B 5 0 x.1 86 [(0, .ref (gA g 0)), (3, .int x.2)] []) (hl : lp nf (fX11_thick_51 l1 l2) s0 = some x) : V p l e 7 0 s m args below meth c Q KM 43 g B 5 0 s0.1 51 [(0, .ref (gA g 0)), (1, .int l1), (2, .int l2), (3, .int s0.2.1), (4, .int s0.2.2)] [] := by
  refine lp_ind (P := fun s0 => V p l e 7 0 s m args below meth c Q KM 43 g B 5 0 s0.1 51 [(0, .ref (gA g 0)), (1, .int l1), (2, .int l2), (3, .int s0.2.1), (4, .int s0.2.2)] []) ?_ nf s0 hl
  intro s1 y hf hk hx
  have hx0 : ∀ v : (ST × Int32), y = Sum.inr v → V p l e 7 0 s m args below meth c Q KM 43 g B 5 0 v.1 86 [(0, .ref (gA g 0)), (3, .int v.2)] [] := fun v e9 => by rw [hx v e9]; exact hX0
  unfold fX11_thick_51 at hf
  refine v_iload (pc := 51) (j := 4) F dX11_thick_51 rfl ?_
  refine v_bipush (pc := 53) (v := 99) F dX11_thick_53 bp_99 ?_
  refine v_icmp_gt (pc := 55) (tgt := 86) F dX11_thick_55 (by decide) (fun c11 => ?_) (fun c11 => ?_)
  · have hf := ite_t hf c11
    refine V.sub (lv' := [(0, .ref (gA g 0)), (3, .int s1.2.1)]) [0, 3] rfl ?_
    exact hx0 (s1.1, s1.2.1) (Option.some.inj hf).symm
  · have hf := ite_f hf c11
    refine v_iload_n (pc := 58) (j := 3) F dX11_thick_58 rfl rfl ?_
    refine v_iconst (pc := 59) (v := (-1)) F dX11_thick_59 ic_m1 ?_
    refine v_icmp_ne (pc := 60) (tgt := 86) F dX11_thick_60 (by decide) (fun c12 => ?_) (fun c12 => ?_)
    · have hf := ite_f hf c12
      refine V.sub (lv' := [(0, .ref (gA g 0)), (3, .int s1.2.1)]) [0, 3] rfl ?_
      exact hx0 (s1.1, s1.2.1) (Option.some.inj hf).symm
    · have hf := ite_t hf c12
      refine v_aload_n (pc := 63) (j := 0) F dX11_thick_63 rfl rfl ?_
      refine v_ifl (pc := 64) F fl_X11_87 dX11_thick_64 km_0.1 km_0.2 fv_10_29 ?_
      refine v_iload_n (pc := 67) (j := 1) F dX11_thick_67 rfl rfl ?_
      obtain ⟨v13, e14, hf⟩ := bnd_some hf
      refine v_iald (pc := 68) F dX11_thick_68 km_19.1 km_19.2 e14 ?_
      refine v_iload_n (pc := 69) (j := 2) F dX11_thick_69 rfl rfl ?_
      refine v_icmp_lt (pc := 70) (tgt := 76) F dX11_thick_70 (by decide) (fun c15 => ?_) (fun c15 => ?_)
      · have hf := ite_t hf c15
        exact tX11_thick_76 F hk hx0 hf
      · have hf := ite_f hf c15
        refine v_iload (pc := 73) (j := 4) F dX11_thick_73 rfl ?_
        refine v_istore_n (pc := 75) (lv' := [(0, .ref (gA g 0)), (1, .int l1), (2, .int l2), (3, .int s1.2.2), (4, .int s1.2.2)]) F dX11_thick_75 rfl (by decide) rfl ?_
        exact tX11_thick_76 F hk hx0 hf
set_option maxRecDepth 100000 in
set_option maxHeartbeats 4000000 in
theorem tX11_thick_86 {p : Program} {l : Launch} {e : Env} {s : State} {m : MethodId} {args : Array Value} {below : List Frame} {meth : Method} {c : Code} {g : GE} {B : Nat} {h : ST}  {l3 : Int32} (F : Fx p s m args meth c cX11_thick 5 "DustParishModel" 43 g B)
    {y : Int32 × ST} (hr : meth.sig.returnType = (some .int)) (hf : fX11_thick_86 h l3 = some y) : V p l e 7 0 s m args below meth c (MQ below (QO KM 43 g (some (.int y.1)) y.2) args s 0 (6 * 0) (WA 43 g)) KM 43 g B 5 0 h 86 [(0, .ref (gA g 0)), (3, .int l3)] [] := by
  unfold fX11_thick_86 at hf
  refine v_aload_n (pc := 86) (j := 0) F dX11_thick_86 rfl rfl ?_
  refine v_aload_n (pc := 87) (j := 0) F dX11_thick_87 rfl rfl ?_
  refine v_ifl (pc := 88) F fl_X11_109 dX11_thick_88 km_0.1 km_0.2 fv_10_42 ?_
  refine v_iconst (pc := 91) (v := 0) F dX11_thick_91 ic_0 ?_
  obtain ⟨r20, e21, hf⟩ := bnd_some hf
  refine v_callVv (pc := 92) (As := [.ref (gA g 27), .int 0]) F cl_X11_430 dX11_thick_92 (kX11_unpack km_27.1 km_27.2 e21) km_0.1 km_0.2 rc_10 rfl rfl (Nat.le_of_ble_eq_true rfl) (by decide) (Nat.zero_le _) ?_
  refine v_iload_n (pc := 95) (j := 1) F dX11_thick_95 rfl rfl ?_
  exact v_iret (pc := 96) F hr dX11_thick_96 (some_fst hf) (some_snd hf) (Nat.zero_le _)
set_option maxRecDepth 100000 in
set_option maxHeartbeats 4000000 in
theorem kX11_thick {l : Launch} {g : GE} {B : Nat} {h : ST} {a1 : Int32} {a2 : Int32} {y : Int32 × ST} (hf : fX11_thick h a1 a2 = some y) : CT l yX11_thick cX11_thick 5 (some .int) 7 KM 43 g B [.ref (gA g 0), .int a1, .int a2] h (some (.int y.1)) y.2 := by
  refine CT.of pn_X11 (Nat.le_of_ble_eq_true rfl) ?_
  intro p e s m below meth c hr F
  have F : Fx p s m _ meth c cX11_thick 5 "DustParishModel" 43 g B := F
  refine V_lv (lv' := [(0, .ref (gA g 0)), (1, .int a1), (2, .int a2)]) rfl ?_
  unfold fX11_thick at hf
  refine v_aload_n (pc := 0) (j := 0) F dX11_thick_0 rfl rfl ?_
  refine v_iconst (pc := 1) (v := 0) F dX11_thick_1 ic_0 ?_
  obtain ⟨h1, e2, hf⟩ := bnd_some hf
  refine v_pfl (pc := 2) F fl_X11_157 pl_10_2 dX11_thick_2 km_0.1 km_0.2 fv_10_2 rfl rfl e2 ?_
  refine v_aload_n (pc := 5) (j := 0) F dX11_thick_5 rfl rfl ?_
  refine v_iload_n (pc := 6) (j := 1) F dX11_thick_6 rfl rfl ?_
  obtain ⟨r3, e4, hf⟩ := bnd_some hf
  refine v_callVi (pc := 7) (As := [.int a1]) F cl_X11_387 dX11_thick_7 (kX11_isRoom e4) km_0.1 km_0.2 rc_10 rfl rfl (Nat.le_of_ble_eq_true rfl) (by decide) (Nat.zero_le _) ?_
  refine v_if_ne (pc := 10) (tgt := 19) F dX11_thick_10 (by decide) (fun c5 => ?_) (fun c5 => ?_)
  · have hf := ite_f hf c5
    refine v_iload_n (pc := 19) (j := 2) F dX11_thick_19 rfl rfl ?_
    refine v_i2l (pc := 20) F dX11_thick_20 rfl ?_
    refine v_lconst (pc := 21) (v := 0) F dX11_thick_21 rfl ?_
    refine v_ldc2 (pc := 22) F tw_1674 dX11_thick_22 ?_
    obtain ⟨r6, e7, hf⟩ := bnd_some hf
    refine v_callSi (pc := 25) (As := [.long a2.toInt64, .long (0 : Int64), .long (9999 : Int64)]) F cl_X11_160 dX11_thick_25 (kX11_isIn e7) rfl rfl (Nat.le_of_ble_eq_true rfl) (by decide) (Nat.zero_le _) ?_
    refine v_if_ne (pc := 28) (tgt := 37) F dX11_thick_28 (by decide) (fun c8 => ?_) (fun c8 => ?_)
    · have hf := ite_f hf c8
      refine v_aload_n (pc := 37) (j := 0) F dX11_thick_37 rfl rfl ?_
      refine v_aload_n (pc := 38) (j := 0) F dX11_thick_38 rfl rfl ?_
      refine v_ifl (pc := 39) F fl_X11_109 dX11_thick_39 km_0.1 km_0.2 fv_10_42 ?_
      refine v_iconst (pc := 42) (v := 0) F dX11_thick_42 ic_0 ?_
      obtain ⟨r9, e10, hf⟩ := bnd_some hf
      refine v_callVv (pc := 43) (As := [.ref (gA g 27), .int 0]) F cl_X11_403 dX11_thick_43 (kX11_pack km_27.1 km_27.2 e10) km_0.1 km_0.2 rc_10 rfl rfl (Nat.le_of_ble_eq_true rfl) (by decide) (Nat.zero_le _) ?_
      refine v_iconst (pc := 46) (v := (-1)) F dX11_thick_46 ic_m1 ?_
      refine v_istore_n (pc := 47) (lv' := [(0, .ref (gA g 0)), (1, .int a1), (2, .int a2), (3, .int (-1))]) F dX11_thick_47 rfl (by decide) rfl ?_
      refine v_iconst (pc := 48) (v := 0) F dX11_thick_48 ic_0 ?_
      refine v_istore (pc := 49) (lv' := [(0, .ref (gA g 0)), (1, .int a1), (2, .int a2), (3, .int (-1)), (4, .int 0)]) F dX11_thick_49 (by decide) rfl ?_
      obtain ⟨x18, e19, hf⟩ := bnd_some hf
      refine tX11_thick_51 (s0 := (r9, (-1), 0)) F ?_ e19
      exact tX11_thick_86 F hr hf
    · have hf := ite_t hf c8
      refine v_aload_n (pc := 31) (j := 0) F dX11_thick_31 rfl rfl ?_
      refine v_iconst (pc := 32) (v := 2) F dX11_thick_32 ic_2 ?_
      obtain ⟨r22, e23, hf⟩ := bnd_some hf
      refine v_callVi (pc := 33) (As := [.int 2]) F cl_X11_320 dX11_thick_33 (kX11_fail e23) km_0.1 km_0.2 rc_10 rfl rfl (Nat.le_of_ble_eq_true rfl) (by decide) (Nat.zero_le _) ?_
      exact v_iret (pc := 36) F hr dX11_thick_36 (some_fst hf) (some_snd hf) (Nat.zero_le _)
  · have hf := ite_t hf c5
    refine v_aload_n (pc := 13) (j := 0) F dX11_thick_13 rfl rfl ?_
    refine v_iconst (pc := 14) (v := 1) F dX11_thick_14 ic_1 ?_
    obtain ⟨r24, e25, hf⟩ := bnd_some hf
    refine v_callVi (pc := 15) (As := [.int 1]) F cl_X11_320 dX11_thick_15 (kX11_fail e25) km_0.1 km_0.2 rc_10 rfl rfl (Nat.le_of_ble_eq_true rfl) (by decide) (Nat.zero_le _) ?_
    exact v_iret (pc := 18) F hr dX11_thick_18 (some_fst hf) (some_snd hf) (Nat.zero_le _)
def fX11_thrown (h : ST) : Option (Int32) :=
  some (h 0 2)
set_option maxRecDepth 100000 in
set_option maxHeartbeats 4000000 in
theorem kX11_thrown {l : Launch} {g : GE} {B : Nat} {h : ST} {y : Int32} (hf : fX11_thrown h = some y) : CT l yX11_thrown cX11_thrown 1 (some .int) 1 KM 43 g B [.ref (gA g 0)] h (some (.int y)) h := by
  refine CT.of pn_X11 (Nat.le_of_ble_eq_true rfl) ?_
  intro p e s m below meth c hr F
  have F : Fx p s m _ meth c cX11_thrown 1 "DustParishModel" 43 g B := F
  refine V_lv (lv' := [(0, .ref (gA g 0))]) rfl ?_
  unfold fX11_thrown at hf
  refine v_aload_n (pc := 0) (j := 0) F dX11_thrown_0 rfl rfl ?_
  refine v_ifl (pc := 1) F fl_X11_157 dX11_thrown_1 km_0.1 km_0.2 fv_10_2 ?_
  exact v_iret (pc := 4) F hr dX11_thrown_4 (Option.some.inj hf) rfl (Nat.zero_le _)
def fX11_undo (h : ST) : Option (Int32 × ST) :=
  bnd (pw h 0 2 0) fun h1 =>
  if (h1 0 36) = 0 then
  some ((-1), h1)
  else
  bnd (pw h1 0 36 ((h1 0 36) - 1)) fun h4 =>
    bnd (fX11_unpack h4 22 1240 (31 * (h4 0 36))) fun r6 =>
    some (r6 0 36, r6)
set_option maxRecDepth 100000 in
set_option maxHeartbeats 4000000 in
theorem kX11_undo {l : Launch} {g : GE} {B : Nat} {h : ST} {y : Int32 × ST} (hf : fX11_undo h = some y) : CT l yX11_undo cX11_undo 1 (some .int) 2 KM 43 g B [.ref (gA g 0)] h (some (.int y.1)) y.2 := by
  refine CT.of pn_X11 (Nat.le_of_ble_eq_true rfl) ?_
  intro p e s m below meth c hr F
  have F : Fx p s m _ meth c cX11_undo 1 "DustParishModel" 43 g B := F
  refine V_lv (lv' := [(0, .ref (gA g 0))]) rfl ?_
  unfold fX11_undo at hf
  refine v_aload_n (pc := 0) (j := 0) F dX11_undo_0 rfl rfl ?_
  refine v_iconst (pc := 1) (v := 0) F dX11_undo_1 ic_0 ?_
  obtain ⟨h1, e2, hf⟩ := bnd_some hf
  refine v_pfl (pc := 2) F fl_X11_157 pl_10_2 dX11_undo_2 km_0.1 km_0.2 fv_10_2 rfl rfl e2 ?_
  refine v_aload_n (pc := 5) (j := 0) F dX11_undo_5 rfl rfl ?_
  refine v_ifl (pc := 6) F fl_X11_341 dX11_undo_6 km_0.1 km_0.2 fv_10_36 ?_
  refine v_if_ne (pc := 9) (tgt := 14) F dX11_undo_9 (by decide) (fun c3 => ?_) (fun c3 => ?_)
  · have hf := ite_f hf c3
    refine v_aload_n (pc := 14) (j := 0) F dX11_undo_14 rfl rfl ?_
    refine v_dup (pc := 15) F dX11_undo_15 rfl ?_
    refine v_ifl (pc := 16) F fl_X11_341 dX11_undo_16 km_0.1 km_0.2 fv_10_36 ?_
    refine v_iconst (pc := 19) (v := 1) F dX11_undo_19 ic_1 ?_
    refine v_isub (pc := 20) F dX11_undo_20 ?_
    obtain ⟨h4, e5, hf⟩ := bnd_some hf
    refine v_pfl (pc := 21) F fl_X11_341 pl_10_36 dX11_undo_21 km_0.1 km_0.2 fv_10_36 rfl rfl e5 ?_
    refine v_aload_n (pc := 24) (j := 0) F dX11_undo_24 rfl rfl ?_
    refine v_aload_n (pc := 25) (j := 0) F dX11_undo_25 rfl rfl ?_
    refine v_ifl (pc := 26) F fl_X11_94 dX11_undo_26 km_0.1 km_0.2 fv_10_32 ?_
    refine v_bipush (pc := 29) (v := 31) F dX11_undo_29 bp_31 ?_
    refine v_aload_n (pc := 31) (j := 0) F dX11_undo_31 rfl rfl ?_
    refine v_ifl (pc := 32) F fl_X11_341 dX11_undo_32 km_0.1 km_0.2 fv_10_36 ?_
    refine v_imul (pc := 35) F dX11_undo_35 ?_
    obtain ⟨r6, e7, hf⟩ := bnd_some hf
    refine v_callVv (pc := 36) (As := [.ref (gA g 22), .int (31 * (h4 0 36))]) F cl_X11_430 dX11_undo_36 (kX11_unpack km_22.1 km_22.2 e7) km_0.1 km_0.2 rc_10 rfl rfl (Nat.le_of_ble_eq_true rfl) (by decide) (Nat.zero_le _) ?_
    refine v_aload_n (pc := 39) (j := 0) F dX11_undo_39 rfl rfl ?_
    refine v_ifl (pc := 40) F fl_X11_341 dX11_undo_40 km_0.1 km_0.2 fv_10_36 ?_
    exact v_iret (pc := 43) F hr dX11_undo_43 (some_fst hf) (some_snd hf) (Nat.zero_le _)
  · have hf := ite_t hf c3
    refine v_iconst (pc := 12) (v := (-1)) F dX11_undo_12 ic_m1 ?_
    exact v_iret (pc := 13) F hr dX11_undo_13 (some_fst hf) (some_snd hf) (Nat.zero_le _)
def fX11_wind_30 (h : ST) (q0 : Int32) : Option (Int32 × ST) :=
  some (q0, h)
def fX11_wind (h : ST) (a1 : Int32) : Option (Int32 × ST) :=
  bnd (pw h 0 2 0) fun h1 =>
  bnd (fX11_isIn h1 a1.toInt64 (0 : Int64) (9999 : Int64)) fun r3 =>
  if r3 = 0 then
  bnd (fX11_fail h1 1) fun r6 =>
    fX11_wind_30 r6.2 r6.1
  else
  bnd (fX11_windOf h1 a1) fun r8 =>
    fX11_wind_30 h1 r8
set_option maxRecDepth 100000 in
set_option maxHeartbeats 4000000 in
theorem tX11_wind_30 {p : Program} {l : Launch} {e : Env} {s : State} {m : MethodId} {args : Array Value} {below : List Frame} {meth : Method} {c : Code} {g : GE} {B : Nat} {h : ST}  {q0 : Int32} (F : Fx p s m args meth c cX11_wind 2 "DustParishModel" 43 g B)
    {y : Int32 × ST} (hr : meth.sig.returnType = (some .int)) (hf : fX11_wind_30 h q0 = some y) : V p l e 2 0 s m args below meth c (MQ below (QO KM 43 g (some (.int y.1)) y.2) args s 0 (6 * 0) (WA 43 g)) KM 43 g B 2 0 h 30 [] [.int q0] := by
  unfold fX11_wind_30 at hf
  exact v_iret (pc := 30) F hr dX11_wind_30 (some_fst hf) (some_snd hf) (Nat.zero_le _)
set_option maxRecDepth 100000 in
set_option maxHeartbeats 4000000 in
theorem kX11_wind {l : Launch} {g : GE} {B : Nat} {h : ST} {a1 : Int32} {y : Int32 × ST} (hf : fX11_wind h a1 = some y) : CT l yX11_wind cX11_wind 2 (some .int) 2 KM 43 g B [.ref (gA g 0), .int a1] h (some (.int y.1)) y.2 := by
  refine CT.of pn_X11 (Nat.le_of_ble_eq_true rfl) ?_
  intro p e s m below meth c hr F
  have F : Fx p s m _ meth c cX11_wind 2 "DustParishModel" 43 g B := F
  refine V_lv (lv' := [(0, .ref (gA g 0)), (1, .int a1)]) rfl ?_
  unfold fX11_wind at hf
  refine v_aload_n (pc := 0) (j := 0) F dX11_wind_0 rfl rfl ?_
  refine v_iconst (pc := 1) (v := 0) F dX11_wind_1 ic_0 ?_
  obtain ⟨h1, e2, hf⟩ := bnd_some hf
  refine v_pfl (pc := 2) F fl_X11_157 pl_10_2 dX11_wind_2 km_0.1 km_0.2 fv_10_2 rfl rfl e2 ?_
  refine v_iload_n (pc := 5) (j := 1) F dX11_wind_5 rfl rfl ?_
  refine v_i2l (pc := 6) F dX11_wind_6 rfl ?_
  refine v_lconst (pc := 7) (v := 0) F dX11_wind_7 rfl ?_
  refine v_ldc2 (pc := 8) F tw_1674 dX11_wind_8 ?_
  obtain ⟨r3, e4, hf⟩ := bnd_some hf
  refine v_callSi (pc := 11) (As := [.long a1.toInt64, .long (0 : Int64), .long (9999 : Int64)]) F cl_X11_160 dX11_wind_11 (kX11_isIn e4) rfl rfl (Nat.le_of_ble_eq_true rfl) (by decide) (Nat.zero_le _) ?_
  refine v_if_eq (pc := 14) (tgt := 25) F dX11_wind_14 (by decide) (fun c5 => ?_) (fun c5 => ?_)
  · have hf := ite_t hf c5
    refine v_aload_n (pc := 25) (j := 0) F dX11_wind_25 rfl rfl ?_
    refine v_iconst (pc := 26) (v := 1) F dX11_wind_26 ic_1 ?_
    obtain ⟨r6, e7, hf⟩ := bnd_some hf
    refine v_callVi (pc := 27) (As := [.int 1]) F cl_X11_320 dX11_wind_27 (kX11_fail e7) km_0.1 km_0.2 rc_10 rfl rfl (Nat.le_of_ble_eq_true rfl) (by decide) (Nat.zero_le _) ?_
    refine V.sub (lv' := []) [] rfl ?_
    exact tX11_wind_30 F hr hf
  · have hf := ite_f hf c5
    refine v_aload_n (pc := 17) (j := 0) F dX11_wind_17 rfl rfl ?_
    refine v_iload_n (pc := 18) (j := 1) F dX11_wind_18 rfl rfl ?_
    obtain ⟨r8, e9, hf⟩ := bnd_some hf
    refine v_callVi (pc := 19) (As := [.int a1]) F cl_X11_372 dX11_wind_19 (kX11_windOf e9) km_0.1 km_0.2 rc_10 rfl rfl (Nat.le_of_ble_eq_true rfl) (by decide) (Nat.zero_le _) ?_
    refine v_goto (pc := 22) (tgt := 30) F dX11_wind_22 (by decide) ?_
    refine V.sub (lv' := []) [] rfl ?_
    exact tX11_wind_30 F hr hf
def fX11_years_95 (h : ST) (l2 : Int32) (l3 : Int32) (l4 : Int32) (l6 : Int32) (q0 : Int32) (q1 : Int32) : Option ((ST × Int32 × Int32) ⊕ (ST × Int32)) :=
  some (.inl (h, q0 + q1, l6 + 1))
def fX11_years_67 (l2 : Int32) (l3 : Int32) (l4 : Int32) (s1 : (ST × Int32 × Int32)) : Option ((ST × Int32 × Int32) ⊕ (ST × Int32)) :=
  if l2 ≤ s1.2.2 then
  some (.inr (s1.1, s1.2.1))
  else
  bnd (fX11_something s1.1) fun r14 =>
    bnd (fX11_aDay r14) fun r16 =>
    bnd (fX11_heretics r16) fun r18 =>
    if r18 = 0 then
    fX11_years_95 r16 l2 l3 l4 s1.2.2 s1.2.1 0
    else
    fX11_years_95 r16 l2 l3 l4 s1.2.2 s1.2.1 1
def fX11_years_110 (h : ST) (l3 : Int32) (l4 : Int32) (l5 : Int32) (s1 : (Int32 × Int32)) : Option ((Int32 × Int32) ⊕ Int32) :=
  bnd (rd 14 (h 3) 0) fun v23 =>
  if v23 ≤ s1.2 then
  some (.inr s1.1)
  else
  bnd (rd 9 (h 19) s1.2) fun v26 =>
    some (.inl ((if s1.1 < v26 then v26 else s1.1), s1.2 + 1))
def fX11_years_167 (h : ST) (q0 : Int32) : Option (Int32 × ST) :=
  bnd (fX11_unpack h 27 31 0) fun r32 =>
  some (q0, r32)
def fX11_years (h : ST) (a1 : Int32) (a2 : Int32) (a3 : Int32) : Option (Int32 × ST) :=
  bnd (pw h 0 2 0) fun h1 =>
  bnd (fX11_isIn h1 a3.toInt64 (0 : Int64) (2 : Int64)) fun r3 =>
  if r3 = 0 then
  bnd (fX11_fail h1 1) fun r36 =>
    some (r36.1, r36.2)
  else
  bnd (fX11_isIn h1 a2.toInt64 (0 : Int64) (60 : Int64)) fun r6 =>
    if r6 = 0 then
    bnd (fX11_fail h1 2) fun r34 =>
      some (r34.1, r34.2)
    else
    bnd (fX11_pack h1 27 31 0) fun r9 =>
      bnd (pw r9 0 53 a1) fun h11 =>
      bnd (lp FU (fX11_years_67 a2 a3 (h11 0 34)) (h11, 0, 0)) fun x21 =>
      bnd (lp FU (fX11_years_110 x21.1 a3 (h11 0 34) x21.2) (0, 0)) fun x28 =>
      if a3 = 0 then
      fX11_years_167 x21.1 ((x21.1 0 34) - (h11 0 34))
      else
      if a3 = 1 then
        fX11_years_167 x21.1 x21.2
        else
        fX11_years_167 x21.1 x28
set_option maxRecDepth 100000 in
set_option maxHeartbeats 4000000 in
theorem tX11_years_95 {p : Program} {l : Launch} {e : Env} {s : State} {m : MethodId} {args : Array Value} {below : List Frame} {meth : Method} {c : Code} {g : GE} {B : Nat} {h : ST}  {l2 : Int32} {l3 : Int32} {l4 : Int32} {l6 : Int32} {q0 : Int32} {q1 : Int32} (F : Fx p s m args meth c cX11_years 8 "DustParishModel" 43 g B)
    {Q : State → Prop} {y : (ST × Int32 × Int32) ⊕ (ST × Int32)} (hk : ∀ v : (ST × Int32 × Int32), y = Sum.inl v → V p l e 7 0 s m args below meth c Q KM 43 g B 8 0 v.1 67 [(0, .ref (gA g 0)), (2, .int l2), (3, .int l3), (4, .int l4), (5, .int v.2.1), (6, .int v.2.2)] []) (hx0 : ∀ v : (ST × Int32), y = Sum.inr v → V p l e 7 0 s m args below meth c Q KM 43 g B 8 0 v.1 104 [(0, .ref (gA g 0)), (3, .int l3), (4, .int l4), (5, .int v.2)] []) (hf : fX11_years_95 h l2 l3 l4 l6 q0 q1 = some y) : V p l e 7 0 s m args below meth c Q KM 43 g B 8 0 h 95 [(0, .ref (gA g 0)), (2, .int l2), (3, .int l3), (4, .int l4), (6, .int l6)] [.int q1, .int q0] := by
  unfold fX11_years_95 at hf
  refine v_iadd (pc := 95) F dX11_years_95 ?_
  refine v_istore (pc := 96) (lv' := [(0, .ref (gA g 0)), (2, .int l2), (3, .int l3), (4, .int l4), (5, .int (q0 + q1)), (6, .int l6)]) F dX11_years_96 (by decide) rfl ?_
  refine v_iinc (pc := 98) (j := 5) (v := l6 + 1) (lv' := [(0, .ref (gA g 0)), (2, .int l2), (3, .int l3), (4, .int l4), (5, .int (q0 + q1)), (6, .int (l6 + 1))]) F dX11_years_98 rfl (congrArg (fun z => l6 + z) ic_1) (by decide) rfl ?_
  refine v_goto (pc := 101) (tgt := 67) F dX11_years_101 (by decide) ?_
  exact hk (h, q0 + q1, l6 + 1) (Option.some.inj hf).symm
set_option maxRecDepth 100000 in
set_option maxHeartbeats 4000000 in
theorem tX11_years_67 {p : Program} {l : Launch} {e : Env} {s : State} {m : MethodId} {args : Array Value} {below : List Frame} {meth : Method} {c : Code} {g : GE} {B : Nat}   {l2 : Int32} {l3 : Int32} {l4 : Int32} {Q : State → Prop} {x : (ST × Int32)} {nf : Nat} {s0 : (ST × Int32 × Int32)} (F : Fx p s m args meth c cX11_years 8 "DustParishModel" 43 g B) (hX0 : V p l e 7 0 s m args below meth c Q KM 43 g B 8 0 x.1 104 [(0, .ref (gA g 0)), (3, .int l3), (4, .int l4), (5, .int x.2)] []) (hl : lp nf (fX11_years_67 l2 l3 l4) s0 = some x) : V p l e 7 0 s m args below meth c Q KM 43 g B 8 0 s0.1 67 [(0, .ref (gA g 0)), (2, .int l2), (3, .int l3), (4, .int l4), (5, .int s0.2.1), (6, .int s0.2.2)] [] := by
  refine lp_ind (P := fun s0 => V p l e 7 0 s m args below meth c Q KM 43 g B 8 0 s0.1 67 [(0, .ref (gA g 0)), (2, .int l2), (3, .int l3), (4, .int l4), (5, .int s0.2.1), (6, .int s0.2.2)] []) ?_ nf s0 hl
  intro s1 y hf hk hx
  have hx0 : ∀ v : (ST × Int32), y = Sum.inr v → V p l e 7 0 s m args below meth c Q KM 43 g B 8 0 v.1 104 [(0, .ref (gA g 0)), (3, .int l3), (4, .int l4), (5, .int v.2)] [] := fun v e9 => by rw [hx v e9]; exact hX0
  unfold fX11_years_67 at hf
  refine v_iload (pc := 67) (j := 5) F dX11_years_67 rfl ?_
  refine v_iload_n (pc := 69) (j := 1) F dX11_years_69 rfl rfl ?_
  refine v_icmp_ge (pc := 70) (tgt := 104) F dX11_years_70 (by decide) (fun c13 => ?_) (fun c13 => ?_)
  · have hf := ite_t hf c13
    refine V.sub (lv' := [(0, .ref (gA g 0)), (3, .int l3), (4, .int l4), (5, .int s1.2.1)]) [0, 2, 3, 4] rfl ?_
    exact hx0 (s1.1, s1.2.1) (Option.some.inj hf).symm
  · have hf := ite_f hf c13
    refine v_aload_n (pc := 73) (j := 0) F dX11_years_73 rfl rfl ?_
    obtain ⟨r14, e15, hf⟩ := bnd_some hf
    refine v_callVv (pc := 74) (As := []) F cl_X11_486 dX11_years_74 (kX11_something e15) km_0.1 km_0.2 rc_10 rfl rfl (Nat.le_of_ble_eq_true rfl) (by decide) (Nat.zero_le _) ?_
    refine v_aload_n (pc := 77) (j := 0) F dX11_years_77 rfl rfl ?_
    obtain ⟨r16, e17, hf⟩ := bnd_some hf
    refine v_callVv (pc := 78) (As := []) F cl_X11_378 dX11_years_78 (kX11_aDay e17) km_0.1 km_0.2 rc_10 rfl rfl (Nat.le_of_ble_eq_true rfl) (by decide) (Nat.zero_le _) ?_
    refine v_iload (pc := 81) (j := 4) F dX11_years_81 rfl ?_
    refine v_aload_n (pc := 83) (j := 0) F dX11_years_83 rfl rfl ?_
    obtain ⟨r18, e19, hf⟩ := bnd_some hf
    refine v_callVi (pc := 84) (As := []) F cl_X11_384 dX11_years_84 (kX11_heretics e19) km_0.1 km_0.2 rc_10 rfl rfl (Nat.le_of_ble_eq_true rfl) (by decide) (Nat.zero_le _) ?_
    refine v_if_eq (pc := 87) (tgt := 94) F dX11_years_87 (by decide) (fun c20 => ?_) (fun c20 => ?_)
    · have hf := ite_t hf c20
      refine v_iconst (pc := 94) (v := 0) F dX11_years_94 ic_0 ?_
      refine V.sub (lv' := [(0, .ref (gA g 0)), (2, .int l2), (3, .int l3), (4, .int l4), (6, .int s1.2.2)]) [0, 1, 2, 3, 5] rfl ?_
      exact tX11_years_95 F hk hx0 hf
    · have hf := ite_f hf c20
      refine v_iconst (pc := 90) (v := 1) F dX11_years_90 ic_1 ?_
      refine v_goto (pc := 91) (tgt := 95) F dX11_years_91 (by decide) ?_
      refine V.sub (lv' := [(0, .ref (gA g 0)), (2, .int l2), (3, .int l3), (4, .int l4), (6, .int s1.2.2)]) [0, 1, 2, 3, 5] rfl ?_
      exact tX11_years_95 F hk hx0 hf
set_option maxRecDepth 100000 in
set_option maxHeartbeats 4000000 in
theorem tX11_years_110 {p : Program} {l : Launch} {e : Env} {s : State} {m : MethodId} {args : Array Value} {below : List Frame} {meth : Method} {c : Code} {g : GE} {B : Nat}  {h : ST}  {l3 : Int32} {l4 : Int32} {l5 : Int32} {Q : State → Prop} {x : Int32} {nf : Nat} {s0 : (Int32 × Int32)} (F : Fx p s m args meth c cX11_years 8 "DustParishModel" 43 g B) (hX0 : V p l e 7 0 s m args below meth c Q KM 43 g B 8 0 h 141 [(0, .ref (gA g 0)), (3, .int l3), (4, .int l4), (5, .int l5), (6, .int x)] []) (hl : lp nf (fX11_years_110 h l3 l4 l5) s0 = some x) : V p l e 7 0 s m args below meth c Q KM 43 g B 8 0 h 110 [(0, .ref (gA g 0)), (3, .int l3), (4, .int l4), (5, .int l5), (6, .int s0.1), (7, .int s0.2)] [] := by
  refine lp_ind (P := fun s0 => V p l e 7 0 s m args below meth c Q KM 43 g B 8 0 h 110 [(0, .ref (gA g 0)), (3, .int l3), (4, .int l4), (5, .int l5), (6, .int s0.1), (7, .int s0.2)] []) ?_ nf s0 hl
  intro s1 y hf hk hx
  have hx0 : ∀ v : Int32, y = Sum.inr v → V p l e 7 0 s m args below meth c Q KM 43 g B 8 0 h 141 [(0, .ref (gA g 0)), (3, .int l3), (4, .int l4), (5, .int l5), (6, .int v)] [] := fun v e9 => by rw [hx v e9]; exact hX0
  unfold fX11_years_110 at hf
  refine v_iload (pc := 110) (j := 5) F dX11_years_110 rfl ?_
  refine v_aload_n (pc := 112) (j := 0) F dX11_years_112 rfl rfl ?_
  refine v_ifl (pc := 113) F fl_X11_36 dX11_years_113 km_0.1 km_0.2 fv_10_3 ?_
  refine v_iconst (pc := 116) (v := 0) F dX11_years_116 ic_0 ?_
  obtain ⟨v23, e24, hf⟩ := bnd_some hf
  refine v_iald (pc := 117) F dX11_years_117 km_3.1 km_3.2 e24 ?_
  refine v_icmp_ge (pc := 118) (tgt := 141) F dX11_years_118 (by decide) (fun c25 => ?_) (fun c25 => ?_)
  · have hf := ite_t hf c25
    refine V.sub (lv' := [(0, .ref (gA g 0)), (3, .int l3), (4, .int l4), (5, .int l5), (6, .int s1.1)]) [0, 1, 2, 3, 4] rfl ?_
    exact hx0 s1.1 (Option.some.inj hf).symm
  · have hf := ite_f hf c25
    refine v_iload (pc := 121) (j := 4) F dX11_years_121 rfl ?_
    refine v_aload_n (pc := 123) (j := 0) F dX11_years_123 rfl rfl ?_
    refine v_ifl (pc := 124) F fl_X11_87 dX11_years_124 km_0.1 km_0.2 fv_10_29 ?_
    refine v_iload (pc := 127) (j := 5) F dX11_years_127 rfl ?_
    obtain ⟨v26, e27, hf⟩ := bnd_some hf
    refine v_iald (pc := 129) F dX11_years_129 km_19.1 km_19.2 e27 ?_
    refine v_mmax (pc := 130) F tw_1602 mmaxW dX11_years_130 (by decide) (Nat.le_of_ble_eq_true rfl) (Nat.zero_le _) ?_
    refine v_istore (pc := 133) (lv' := [(0, .ref (gA g 0)), (3, .int l3), (4, .int l4), (5, .int l5), (6, .int (if s1.1 < v26 then v26 else s1.1)), (7, .int s1.2)]) F dX11_years_133 (by decide) rfl ?_
    refine v_iinc (pc := 135) (j := 5) (v := s1.2 + 1) (lv' := [(0, .ref (gA g 0)), (3, .int l3), (4, .int l4), (5, .int l5), (6, .int (if s1.1 < v26 then v26 else s1.1)), (7, .int (s1.2 + 1))]) F dX11_years_135 rfl (congrArg (fun z => s1.2 + z) ic_1) (by decide) rfl ?_
    refine v_goto (pc := 138) (tgt := 110) F dX11_years_138 (by decide) ?_
    exact hk ((if s1.1 < v26 then v26 else s1.1), s1.2 + 1) (Option.some.inj hf).symm
set_option maxRecDepth 100000 in
set_option maxHeartbeats 4000000 in
theorem tX11_years_167 {p : Program} {l : Launch} {e : Env} {s : State} {m : MethodId} {args : Array Value} {below : List Frame} {meth : Method} {c : Code} {g : GE} {B : Nat} {h : ST}  {q0 : Int32} (F : Fx p s m args meth c cX11_years 8 "DustParishModel" 43 g B)
    {y : Int32 × ST} (hr : meth.sig.returnType = (some .int)) (hf : fX11_years_167 h q0 = some y) : V p l e 7 0 s m args below meth c (MQ below (QO KM 43 g (some (.int y.1)) y.2) args s 0 (6 * 0) (WA 43 g)) KM 43 g B 8 0 h 167 [(0, .ref (gA g 0))] [.int q0] := by
  unfold fX11_years_167 at hf
  refine v_istore (pc := 167) (lv' := [(0, .ref (gA g 0)), (7, .int q0)]) F dX11_years_167 (by decide) rfl ?_
  refine v_aload_n (pc := 169) (j := 0) F dX11_years_169 rfl rfl ?_
  refine v_aload_n (pc := 170) (j := 0) F dX11_years_170 rfl rfl ?_
  refine v_ifl (pc := 171) F fl_X11_109 dX11_years_171 km_0.1 km_0.2 fv_10_42 ?_
  refine v_iconst (pc := 174) (v := 0) F dX11_years_174 ic_0 ?_
  obtain ⟨r32, e33, hf⟩ := bnd_some hf
  refine v_callVv (pc := 175) (As := [.ref (gA g 27), .int 0]) F cl_X11_430 dX11_years_175 (kX11_unpack km_27.1 km_27.2 e33) km_0.1 km_0.2 rc_10 rfl rfl (Nat.le_of_ble_eq_true rfl) (by decide) (Nat.zero_le _) ?_
  refine v_iload (pc := 178) (j := 1) F dX11_years_178 rfl ?_
  exact v_iret (pc := 180) F hr dX11_years_180 (some_fst hf) (some_snd hf) (Nat.zero_le _)
set_option maxRecDepth 100000 in
set_option maxHeartbeats 4000000 in
theorem kX11_years {l : Launch} {g : GE} {B : Nat} {h : ST} {a1 : Int32} {a2 : Int32} {a3 : Int32} {y : Int32 × ST} (hf : fX11_years h a1 a2 a3 = some y) : CT l yX11_years cX11_years 8 (some .int) 7 KM 43 g B [.ref (gA g 0), .int a1, .int a2, .int a3] h (some (.int y.1)) y.2 := by
  refine CT.of pn_X11 (Nat.le_of_ble_eq_true rfl) ?_
  intro p e s m below meth c hr F
  have F : Fx p s m _ meth c cX11_years 8 "DustParishModel" 43 g B := F
  refine V_lv (lv' := [(0, .ref (gA g 0)), (1, .int a1), (2, .int a2), (3, .int a3)]) rfl ?_
  unfold fX11_years at hf
  refine v_aload_n (pc := 0) (j := 0) F dX11_years_0 rfl rfl ?_
  refine v_iconst (pc := 1) (v := 0) F dX11_years_1 ic_0 ?_
  obtain ⟨h1, e2, hf⟩ := bnd_some hf
  refine v_pfl (pc := 2) F fl_X11_157 pl_10_2 dX11_years_2 km_0.1 km_0.2 fv_10_2 rfl rfl e2 ?_
  refine v_iload_n (pc := 5) (j := 3) F dX11_years_5 rfl rfl ?_
  refine v_i2l (pc := 6) F dX11_years_6 rfl ?_
  refine v_lconst (pc := 7) (v := 0) F dX11_years_7 rfl ?_
  refine v_ldc2 (pc := 8) F tw_1668 dX11_years_8 ?_
  obtain ⟨r3, e4, hf⟩ := bnd_some hf
  refine v_callSi (pc := 11) (As := [.long a3.toInt64, .long (0 : Int64), .long (2 : Int64)]) F cl_X11_160 dX11_years_11 (kX11_isIn e4) rfl rfl (Nat.le_of_ble_eq_true rfl) (by decide) (Nat.zero_le _) ?_
  refine v_if_ne (pc := 14) (tgt := 23) F dX11_years_14 (by decide) (fun c5 => ?_) (fun c5 => ?_)
  · have hf := ite_f hf c5
    refine v_iload_n (pc := 23) (j := 2) F dX11_years_23 rfl rfl ?_
    refine v_i2l (pc := 24) F dX11_years_24 rfl ?_
    refine v_lconst (pc := 25) (v := 0) F dX11_years_25 rfl ?_
    refine v_ldc2 (pc := 26) F tw_1887 dX11_years_26 ?_
    obtain ⟨r6, e7, hf⟩ := bnd_some hf
    refine v_callSi (pc := 29) (As := [.long a2.toInt64, .long (0 : Int64), .long (60 : Int64)]) F cl_X11_160 dX11_years_29 (kX11_isIn e7) rfl rfl (Nat.le_of_ble_eq_true rfl) (by decide) (Nat.zero_le _) ?_
    refine v_if_ne (pc := 32) (tgt := 41) F dX11_years_32 (by decide) (fun c8 => ?_) (fun c8 => ?_)
    · have hf := ite_f hf c8
      refine v_aload_n (pc := 41) (j := 0) F dX11_years_41 rfl rfl ?_
      refine v_aload_n (pc := 42) (j := 0) F dX11_years_42 rfl rfl ?_
      refine v_ifl (pc := 43) F fl_X11_109 dX11_years_43 km_0.1 km_0.2 fv_10_42 ?_
      refine v_iconst (pc := 46) (v := 0) F dX11_years_46 ic_0 ?_
      obtain ⟨r9, e10, hf⟩ := bnd_some hf
      refine v_callVv (pc := 47) (As := [.ref (gA g 27), .int 0]) F cl_X11_403 dX11_years_47 (kX11_pack km_27.1 km_27.2 e10) km_0.1 km_0.2 rc_10 rfl rfl (Nat.le_of_ble_eq_true rfl) (by decide) (Nat.zero_le _) ?_
      refine v_aload_n (pc := 50) (j := 0) F dX11_years_50 rfl rfl ?_
      refine v_iload_n (pc := 51) (j := 1) F dX11_years_51 rfl rfl ?_
      obtain ⟨h11, e12, hf⟩ := bnd_some hf
      refine v_pfl (pc := 52) F fl_X11_474 pl_10_53 dX11_years_52 km_0.1 km_0.2 fv_10_53 rfl rfl e12 ?_
      refine v_aload_n (pc := 55) (j := 0) F dX11_years_55 rfl rfl ?_
      refine v_ifl (pc := 56) F fl_X11_335 dX11_years_56 km_0.1 km_0.2 fv_10_34 ?_
      refine v_istore (pc := 59) (lv' := [(0, .ref (gA g 0)), (1, .int a1), (2, .int a2), (3, .int a3), (4, .int (h11 0 34))]) F dX11_years_59 (by decide) rfl ?_
      refine v_iconst (pc := 61) (v := 0) F dX11_years_61 ic_0 ?_
      refine v_istore (pc := 62) (lv' := [(0, .ref (gA g 0)), (1, .int a1), (2, .int a2), (3, .int a3), (4, .int (h11 0 34)), (5, .int 0)]) F dX11_years_62 (by decide) rfl ?_
      refine v_iconst (pc := 64) (v := 0) F dX11_years_64 ic_0 ?_
      refine v_istore (pc := 65) (lv' := [(0, .ref (gA g 0)), (1, .int a1), (2, .int a2), (3, .int a3), (4, .int (h11 0 34)), (5, .int 0), (6, .int 0)]) F dX11_years_65 (by decide) rfl ?_
      obtain ⟨x21, e22, hf⟩ := bnd_some hf
      refine V.sub (lv' := [(0, .ref (gA g 0)), (2, .int a2), (3, .int a3), (4, .int (h11 0 34)), (5, .int 0), (6, .int 0)]) [0, 2, 3, 4, 5, 6] rfl ?_
      refine tX11_years_67 (s0 := (h11, 0, 0)) F ?_ e22
      refine v_iconst (pc := 104) (v := 0) F dX11_years_104 ic_0 ?_
      refine v_istore (pc := 105) (lv' := [(0, .ref (gA g 0)), (3, .int a3), (4, .int (h11 0 34)), (5, .int x21.2), (6, .int 0)]) F dX11_years_105 (by decide) rfl ?_
      refine v_iconst (pc := 107) (v := 0) F dX11_years_107 ic_0 ?_
      refine v_istore (pc := 108) (lv' := [(0, .ref (gA g 0)), (3, .int a3), (4, .int (h11 0 34)), (5, .int x21.2), (6, .int 0), (7, .int 0)]) F dX11_years_108 (by decide) rfl ?_
      obtain ⟨x28, e29, hf⟩ := bnd_some hf
      refine tX11_years_110 (s0 := (0, 0)) F ?_ e29
      refine v_iload_n (pc := 141) (j := 1) F dX11_years_141 rfl rfl ?_
      refine v_if_ne (pc := 142) (tgt := 155) F dX11_years_142 (by decide) (fun c30 => ?_) (fun c30 => ?_)
      · have hf := ite_f hf c30
        refine v_iload_n (pc := 155) (j := 1) F dX11_years_155 rfl rfl ?_
        refine v_iconst (pc := 156) (v := 1) F dX11_years_156 ic_1 ?_
        refine v_icmp_ne (pc := 157) (tgt := 165) F dX11_years_157 (by decide) (fun c31 => ?_) (fun c31 => ?_)
        · have hf := ite_f hf c31
          refine v_iload (pc := 165) (j := 4) F dX11_years_165 rfl ?_
          refine V.sub (lv' := [(0, .ref (gA g 0))]) [0] rfl ?_
          exact tX11_years_167 F hr hf
        · have hf := ite_t hf c31
          refine v_iload (pc := 160) (j := 3) F dX11_years_160 rfl ?_
          refine v_goto (pc := 162) (tgt := 167) F dX11_years_162 (by decide) ?_
          refine V.sub (lv' := [(0, .ref (gA g 0))]) [0] rfl ?_
          exact tX11_years_167 F hr hf
      · have hf := ite_t hf c30
        refine v_aload_n (pc := 145) (j := 0) F dX11_years_145 rfl rfl ?_
        refine v_ifl (pc := 146) F fl_X11_335 dX11_years_146 km_0.1 km_0.2 fv_10_34 ?_
        refine v_iload (pc := 149) (j := 2) F dX11_years_149 rfl ?_
        refine v_isub (pc := 151) F dX11_years_151 ?_
        refine v_goto (pc := 152) (tgt := 167) F dX11_years_152 (by decide) ?_
        refine V.sub (lv' := [(0, .ref (gA g 0))]) [0] rfl ?_
        exact tX11_years_167 F hr hf
    · have hf := ite_t hf c8
      refine v_aload_n (pc := 35) (j := 0) F dX11_years_35 rfl rfl ?_
      refine v_iconst (pc := 36) (v := 2) F dX11_years_36 ic_2 ?_
      obtain ⟨r34, e35, hf⟩ := bnd_some hf
      refine v_callVi (pc := 37) (As := [.int 2]) F cl_X11_320 dX11_years_37 (kX11_fail e35) km_0.1 km_0.2 rc_10 rfl rfl (Nat.le_of_ble_eq_true rfl) (by decide) (Nat.zero_le _) ?_
      exact v_iret (pc := 40) F hr dX11_years_40 (some_fst hf) (some_snd hf) (Nat.zero_le _)
  · have hf := ite_t hf c5
    refine v_aload_n (pc := 17) (j := 0) F dX11_years_17 rfl rfl ?_
    refine v_iconst (pc := 18) (v := 1) F dX11_years_18 ic_1 ?_
    obtain ⟨r36, e37, hf⟩ := bnd_some hf
    refine v_callVi (pc := 19) (As := [.int 1]) F cl_X11_320 dX11_years_19 (kX11_fail e37) km_0.1 km_0.2 rc_10 rfl rfl (Nat.le_of_ble_eq_true rfl) (by decide) (Nat.zero_le _) ?_
    exact v_iret (pc := 22) F hr dX11_years_22 (some_fst hf) (some_snd hf) (Nat.zero_le _)
