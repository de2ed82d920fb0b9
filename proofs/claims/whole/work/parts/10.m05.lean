def fX11_sayRoom (h : ST) (a1 : Int32) : Option (ST) :=
  bnd (fX11_another h 0 9) fun r1 =>
  if r1.1 = 0 then
  some r1.2
  else
  bnd (rd 14 (r1.2 3) 7) fun v4 =>
    bnd (wr 18 r1.2 4 (9 + v4) a1) fun h6 =>
    bnd (fX11_readNumber h6 0 5) fun r8 =>
    bnd (wr 18 r8.2 5 (9 + v4) r8.1) fun h10 =>
    bnd (fX11_readNumber h10 0 999) fun r12 =>
    bnd (wr 18 r12.2 6 (9 + v4) r12.1) fun h14 =>
    bnd (fX11_readNumber h14 0 99) fun r16 =>
    bnd (wr 18 r16.2 7 (9 + v4) r16.1) fun h18 =>
    bnd (rd 14 (h18 3) 7) fun v20 =>
    bnd (wr 14 h18 3 7 (v20 + 1)) fun h22 =>
    some h22
set_option maxRecDepth 100000 in
set_option maxHeartbeats 4000000 in
theorem kX11_sayRoom {l : Launch} {g : GE} {B : Nat} {h : ST} {a1 : Int32} {y : ST} (hf : fX11_sayRoom h a1 = some y) : CT l yX11_sayRoom cX11_sayRoom 3 none 4 KM 43 g B [.ref (gA g 0), .int a1] h none y := by
  refine CT.of pn_X11 (Nat.le_of_ble_eq_true rfl) ?_
  intro p e s m below meth c hr F
  have F : Fx p s m _ meth c cX11_sayRoom 3 "DustParishModel" 43 g B := F
  refine V_lv (lv' := [(0, .ref (gA g 0)), (1, .int a1)]) rfl ?_
  unfold fX11_sayRoom at hf
  refine v_aload_n (pc := 0) (j := 0) F dX11_sayRoom_0 rfl rfl ?_
  refine v_iconst (pc := 1) (v := 0) F dX11_sayRoom_1 ic_0 ?_
  refine v_bipush (pc := 2) (v := 9) F dX11_sayRoom_2 bp_9 ?_
  obtain ⟨r1, e2, hf⟩ := bnd_some hf
  refine v_callVi (pc := 4) (As := [.int 0, .int 9]) F cl_X11_279 dX11_sayRoom_4 (kX11_another e2) km_0.1 km_0.2 rc_10 rfl rfl (Nat.le_of_ble_eq_true rfl) (by decide) (Nat.zero_le _) ?_
  refine v_if_ne (pc := 7) (tgt := 11) F dX11_sayRoom_7 (by decide) (fun c3 => ?_) (fun c3 => ?_)
  · have hf := ite_f hf c3
    refine v_bipush (pc := 11) (v := 9) F dX11_sayRoom_11 bp_9 ?_
    refine v_aload_n (pc := 13) (j := 0) F dX11_sayRoom_13 rfl rfl ?_
    refine v_ifl (pc := 14) F fl_X11_36 dX11_sayRoom_14 km_0.1 km_0.2 fv_10_3 ?_
    refine v_bipush (pc := 17) (v := 7) F dX11_sayRoom_17 bp_7 ?_
    obtain ⟨v4, e5, hf⟩ := bnd_some hf
    refine v_iald (pc := 19) F dX11_sayRoom_19 km_3.1 km_3.2 e5 ?_
    refine v_iadd (pc := 20) F dX11_sayRoom_20 ?_
    refine v_istore_n (pc := 21) (lv' := [(0, .ref (gA g 0)), (1, .int a1), (2, .int (9 + v4))]) F dX11_sayRoom_21 rfl (by decide) rfl ?_
    refine v_aload_n (pc := 22) (j := 0) F dX11_sayRoom_22 rfl rfl ?_
    refine v_ifl (pc := 23) F fl_X11_40 dX11_sayRoom_23 km_0.1 km_0.2 fv_10_4 ?_
    refine v_iload_n (pc := 26) (j := 2) F dX11_sayRoom_26 rfl rfl ?_
    refine v_iload_n (pc := 27) (j := 1) F dX11_sayRoom_27 rfl rfl ?_
    obtain ⟨h6, e7, hf⟩ := bnd_some hf
    refine v_iast (pc := 28) F dX11_sayRoom_28 km_4.1 km_4.2 e7 ?_
    refine v_aload_n (pc := 29) (j := 0) F dX11_sayRoom_29 rfl rfl ?_
    refine v_ifl (pc := 30) F fl_X11_42 dX11_sayRoom_30 km_0.1 km_0.2 fv_10_5 ?_
    refine v_iload_n (pc := 33) (j := 2) F dX11_sayRoom_33 rfl rfl ?_
    refine v_aload_n (pc := 34) (j := 0) F dX11_sayRoom_34 rfl rfl ?_
    refine v_iconst (pc := 35) (v := 0) F dX11_sayRoom_35 ic_0 ?_
    refine v_iconst (pc := 36) (v := 5) F dX11_sayRoom_36 ic_5 ?_
    obtain ⟨r8, e9, hf⟩ := bnd_some hf
    refine v_callVi (pc := 37) (As := [.int 0, .int 5]) F cl_X11_242 dX11_sayRoom_37 (kX11_readNumber e9) km_0.1 km_0.2 rc_10 rfl rfl (Nat.le_of_ble_eq_true rfl) (by decide) (Nat.zero_le _) ?_
    obtain ⟨h10, e11, hf⟩ := bnd_some hf
    refine v_iast (pc := 40) F dX11_sayRoom_40 km_5.1 km_5.2 e11 ?_
    refine v_aload_n (pc := 41) (j := 0) F dX11_sayRoom_41 rfl rfl ?_
    refine v_ifl (pc := 42) F fl_X11_44 dX11_sayRoom_42 km_0.1 km_0.2 fv_10_6 ?_
    refine v_iload_n (pc := 45) (j := 2) F dX11_sayRoom_45 rfl rfl ?_
    refine v_aload_n (pc := 46) (j := 0) F dX11_sayRoom_46 rfl rfl ?_
    refine v_iconst (pc := 47) (v := 0) F dX11_sayRoom_47 ic_0 ?_
    refine v_sipush (pc := 48) (v := 999) F dX11_sayRoom_48 sp_999 ?_
    obtain ⟨r12, e13, hf⟩ := bnd_some hf
    refine v_callVi (pc := 51) (As := [.int 0, .int 999]) F cl_X11_242 dX11_sayRoom_51 (kX11_readNumber e13) km_0.1 km_0.2 rc_10 rfl rfl (Nat.le_of_ble_eq_true rfl) (by decide) (Nat.zero_le _) ?_
    obtain ⟨h14, e15, hf⟩ := bnd_some hf
    refine v_iast (pc := 54) F dX11_sayRoom_54 km_6.1 km_6.2 e15 ?_
    refine v_aload_n (pc := 55) (j := 0) F dX11_sayRoom_55 rfl rfl ?_
    refine v_ifl (pc := 56) F fl_X11_47 dX11_sayRoom_56 km_0.1 km_0.2 fv_10_7 ?_
    refine v_iload_n (pc := 59) (j := 2) F dX11_sayRoom_59 rfl rfl ?_
    refine v_aload_n (pc := 60) (j := 0) F dX11_sayRoom_60 rfl rfl ?_
    refine v_iconst (pc := 61) (v := 0) F dX11_sayRoom_61 ic_0 ?_
    refine v_bipush (pc := 62) (v := 99) F dX11_sayRoom_62 bp_99 ?_
    obtain ⟨r16, e17, hf⟩ := bnd_some hf
    refine v_callVi (pc := 64) (As := [.int 0, .int 99]) F cl_X11_242 dX11_sayRoom_64 (kX11_readNumber e17) km_0.1 km_0.2 rc_10 rfl rfl (Nat.le_of_ble_eq_true rfl) (by decide) (Nat.zero_le _) ?_
    obtain ⟨h18, e19, hf⟩ := bnd_some hf
    refine v_iast (pc := 67) F dX11_sayRoom_67 km_7.1 km_7.2 e19 ?_
    refine v_aload_n (pc := 68) (j := 0) F dX11_sayRoom_68 rfl rfl ?_
    refine v_ifl (pc := 69) F fl_X11_36 dX11_sayRoom_69 km_0.1 km_0.2 fv_10_3 ?_
    refine v_bipush (pc := 72) (v := 7) F dX11_sayRoom_72 bp_7 ?_
    refine v_dup2_11 (pc := 74) F dX11_sayRoom_74 rfl rfl ?_
    obtain ⟨v20, e21, hf⟩ := bnd_some hf
    refine v_iald (pc := 75) F dX11_sayRoom_75 km_3.1 km_3.2 e21 ?_
    refine v_iconst (pc := 76) (v := 1) F dX11_sayRoom_76 ic_1 ?_
    refine v_iadd (pc := 77) F dX11_sayRoom_77 ?_
    obtain ⟨h22, e23, hf⟩ := bnd_some hf
    refine v_iast (pc := 78) F dX11_sayRoom_78 km_3.1 km_3.2 e23 ?_
    exact v_vret (pc := 79) F hr dX11_sayRoom_79 (Option.some.inj hf) (Nat.zero_le _)
  · have hf := ite_t hf c3
    exact v_vret (pc := 10) F hr dX11_sayRoom_10 (Option.some.inj hf) (Nat.zero_le _)
def fX11_roomNow_44 (h : ST) (q0 : Int32) : Option (Int32 × ST) :=
  some (q0, h)
def fX11_roomNow_32 (h : ST) (l1 : Int32) : Option (Int32 × ST) :=
  if (h 0 26) = 0 then
  fX11_roomNow_44 h l1
  else
  fX11_roomNow_44 h 0
def fX11_roomNow (h : ST) : Option (Int32 × ST) :=
  bnd (fX11_numberNow h 0 9999) fun r1 =>
  if (r1.2 0 26) = 0 then
  bnd (rd 14 (r1.2 3) 7) fun v5 =>
    if r1.1 < v5 then
    fX11_roomNow_32 r1.2 r1.1
    else
    bnd (fX11_wrong r1.2 3) fun r8 =>
      fX11_roomNow_32 r8 r1.1
  else
  fX11_roomNow_32 r1.2 r1.1
set_option maxRecDepth 100000 in
set_option maxHeartbeats 4000000 in
theorem tX11_roomNow_44 {p : Program} {l : Launch} {e : Env} {s : State} {m : MethodId} {args : Array Value} {below : List Frame} {meth : Method} {c : Code} {g : GE} {B : Nat} {h : ST}  {q0 : Int32} (F : Fx p s m args meth c cX11_roomNow 2 "DustParishModel" 43 g B)
    {y : Int32 × ST} (hr : meth.sig.returnType = (some .int)) (hf : fX11_roomNow_44 h q0 = some y) : V p l e 3 0 s m args below meth c (MQ below (QO KM 43 g (some (.int y.1)) y.2) args s 0 (6 * 0) (WA 43 g)) KM 43 g B 2 0 h 44 [] [.int q0] := by
  unfold fX11_roomNow_44 at hf
  exact v_iret (pc := 44) F hr dX11_roomNow_44 (some_fst hf) (some_snd hf) (Nat.zero_le _)
set_option maxRecDepth 100000 in
set_option maxHeartbeats 4000000 in
theorem tX11_roomNow_32 {p : Program} {l : Launch} {e : Env} {s : State} {m : MethodId} {args : Array Value} {below : List Frame} {meth : Method} {c : Code} {g : GE} {B : Nat} {h : ST}  {l1 : Int32} (F : Fx p s m args meth c cX11_roomNow 2 "DustParishModel" 43 g B)
    {y : Int32 × ST} (hr : meth.sig.returnType = (some .int)) (hf : fX11_roomNow_32 h l1 = some y) : V p l e 3 0 s m args below meth c (MQ below (QO KM 43 g (some (.int y.1)) y.2) args s 0 (6 * 0) (WA 43 g)) KM 43 g B 2 0 h 32 [(0, .ref (gA g 0)), (1, .int l1)] [] := by
  unfold fX11_roomNow_32 at hf
  refine v_aload_n (pc := 32) (j := 0) F dX11_roomNow_32 rfl rfl ?_
  refine v_ifl (pc := 33) F fl_X11_208 dX11_roomNow_33 km_0.1 km_0.2 fv_10_26 ?_
  refine v_if_ne (pc := 36) (tgt := 43) F dX11_roomNow_36 (by decide) (fun c4 => ?_) (fun c4 => ?_)
  · have hf := ite_f hf c4
    refine v_iconst (pc := 43) (v := 0) F dX11_roomNow_43 ic_0 ?_
    refine V.sub (lv' := []) [] rfl ?_
    exact tX11_roomNow_44 F hr hf
  · have hf := ite_t hf c4
    refine v_iload_n (pc := 39) (j := 1) F dX11_roomNow_39 rfl rfl ?_
    refine v_goto (pc := 40) (tgt := 44) F dX11_roomNow_40 (by decide) ?_
    refine V.sub (lv' := []) [] rfl ?_
    exact tX11_roomNow_44 F hr hf
set_option maxRecDepth 100000 in
set_option maxHeartbeats 4000000 in
theorem kX11_roomNow {l : Launch} {g : GE} {B : Nat} {h : ST} {y : Int32 × ST} (hf : fX11_roomNow h = some y) : CT l yX11_roomNow cX11_roomNow 2 (some .int) 3 KM 43 g B [.ref (gA g 0)] h (some (.int y.1)) y.2 := by
  refine CT.of pn_X11 (Nat.le_of_ble_eq_true rfl) ?_
  intro p e s m below meth c hr F
  have F : Fx p s m _ meth c cX11_roomNow 2 "DustParishModel" 43 g B := F
  refine V_lv (lv' := [(0, .ref (gA g 0))]) rfl ?_
  unfold fX11_roomNow at hf
  refine v_aload_n (pc := 0) (j := 0) F dX11_roomNow_0 rfl rfl ?_
  refine v_iconst (pc := 1) (v := 0) F dX11_roomNow_1 ic_0 ?_
  refine v_sipush (pc := 2) (v := 9999) F dX11_roomNow_2 sp_9999 ?_
  obtain ⟨r1, e2, hf⟩ := bnd_some hf
  refine v_callVi (pc := 5) (As := [.int 0, .int 9999]) F cl_X11_236 dX11_roomNow_5 (kX11_numberNow e2) km_0.1 km_0.2 rc_10 rfl rfl (Nat.le_of_ble_eq_true rfl) (by decide) (Nat.zero_le _) ?_
  refine v_istore_n (pc := 8) (lv' := [(0, .ref (gA g 0)), (1, .int r1.1)]) F dX11_roomNow_8 rfl (by decide) rfl ?_
  refine v_aload_n (pc := 9) (j := 0) F dX11_roomNow_9 rfl rfl ?_
  refine v_ifl (pc := 10) F fl_X11_208 dX11_roomNow_10 km_0.1 km_0.2 fv_10_26 ?_
  refine v_if_ne (pc := 13) (tgt := 32) F dX11_roomNow_13 (by decide) (fun c3 => ?_) (fun c3 => ?_)
  · have hf := ite_f hf c3
    exact tX11_roomNow_32 F hr hf
  · have hf := ite_t hf c3
    refine v_iload_n (pc := 16) (j := 1) F dX11_roomNow_16 rfl rfl ?_
    refine v_aload_n (pc := 17) (j := 0) F dX11_roomNow_17 rfl rfl ?_
    refine v_ifl (pc := 18) F fl_X11_36 dX11_roomNow_18 km_0.1 km_0.2 fv_10_3 ?_
    refine v_bipush (pc := 21) (v := 7) F dX11_roomNow_21 bp_7 ?_
    obtain ⟨v5, e6, hf⟩ := bnd_some hf
    refine v_iald (pc := 23) F dX11_roomNow_23 km_3.1 km_3.2 e6 ?_
    refine v_icmp_lt (pc := 24) (tgt := 32) F dX11_roomNow_24 (by decide) (fun c7 => ?_) (fun c7 => ?_)
    · have hf := ite_t hf c7
      exact tX11_roomNow_32 F hr hf
    · have hf := ite_f hf c7
      refine v_aload_n (pc := 27) (j := 0) F dX11_roomNow_27 rfl rfl ?_
      refine v_iconst (pc := 28) (v := 3) F dX11_roomNow_28 ic_3 ?_
      obtain ⟨r8, e9, hf⟩ := bnd_some hf
      refine v_callVv (pc := 29) (As := [.int 3]) F cl_X11_229 dX11_roomNow_29 (kX11_wrong e9) km_0.1 km_0.2 rc_10 rfl rfl (Nat.le_of_ble_eq_true rfl) (by decide) (Nat.zero_le _) ?_
      exact tX11_roomNow_32 F hr hf
def fX11_readRoom_16 (h : ST) (l1 : Int32) : Option (Int32 × ST) :=
  some (l1, h)
def fX11_readRoom (h : ST) : Option (Int32 × ST) :=
  bnd (fX11_roomNow h) fun r1 =>
  if (r1.2 0 26) = 0 then
  bnd (fX11_stepOn r1.2) fun r4 =>
    fX11_readRoom_16 r4 r1.1
  else
  fX11_readRoom_16 r1.2 r1.1
set_option maxRecDepth 100000 in
set_option maxHeartbeats 4000000 in
theorem tX11_readRoom_16 {p : Program} {l : Launch} {e : Env} {s : State} {m : MethodId} {args : Array Value} {below : List Frame} {meth : Method} {c : Code} {g : GE} {B : Nat} {h : ST}  {l1 : Int32} (F : Fx p s m args meth c cX11_readRoom 2 "DustParishModel" 43 g B)
    {y : Int32 × ST} (hr : meth.sig.returnType = (some .int)) (hf : fX11_readRoom_16 h l1 = some y) : V p l e 4 0 s m args below meth c (MQ below (QO KM 43 g (some (.int y.1)) y.2) args s 0 (6 * 0) (WA 43 g)) KM 43 g B 2 0 h 16 [(1, .int l1)] [] := by
  unfold fX11_readRoom_16 at hf
  refine v_iload_n (pc := 16) (j := 0) F dX11_readRoom_16 rfl rfl ?_
  exact v_iret (pc := 17) F hr dX11_readRoom_17 (some_fst hf) (some_snd hf) (Nat.zero_le _)
set_option maxRecDepth 100000 in
set_option maxHeartbeats 4000000 in
theorem kX11_readRoom {l : Launch} {g : GE} {B : Nat} {h : ST} {y : Int32 × ST} (hf : fX11_readRoom h = some y) : CT l yX11_readRoom cX11_readRoom 2 (some .int) 4 KM 43 g B [.ref (gA g 0)] h (some (.int y.1)) y.2 := by
  refine CT.of pn_X11 (Nat.le_of_ble_eq_true rfl) ?_
  intro p e s m below meth c hr F
  have F : Fx p s m _ meth c cX11_readRoom 2 "DustParishModel" 43 g B := F
  refine V_lv (lv' := [(0, .ref (gA g 0))]) rfl ?_
  unfold fX11_readRoom at hf
  refine v_aload_n (pc := 0) (j := 0) F dX11_readRoom_0 rfl rfl ?_
  obtain ⟨r1, e2, hf⟩ := bnd_some hf
  refine v_callVi (pc := 1) (As := []) F cl_X11_239 dX11_readRoom_1 (kX11_roomNow e2) km_0.1 km_0.2 rc_10 rfl rfl (Nat.le_of_ble_eq_true rfl) (by decide) (Nat.zero_le _) ?_
  refine v_istore_n (pc := 4) (lv' := [(0, .ref (gA g 0)), (1, .int r1.1)]) F dX11_readRoom_4 rfl (by decide) rfl ?_
  refine v_aload_n (pc := 5) (j := 0) F dX11_readRoom_5 rfl rfl ?_
  refine v_ifl (pc := 6) F fl_X11_208 dX11_readRoom_6 km_0.1 km_0.2 fv_10_26 ?_
  refine v_if_ne (pc := 9) (tgt := 16) F dX11_readRoom_9 (by decide) (fun c3 => ?_) (fun c3 => ?_)
  · have hf := ite_f hf c3
    refine V.sub (lv' := [(1, .int r1.1)]) [1] rfl ?_
    exact tX11_readRoom_16 F hr hf
  · have hf := ite_t hf c3
    refine v_aload_n (pc := 12) (j := 0) F dX11_readRoom_12 rfl rfl ?_
    obtain ⟨r4, e5, hf⟩ := bnd_some hf
    refine v_callVv (pc := 13) (As := []) F cl_X11_233 dX11_readRoom_13 (kX11_stepOn e5) km_0.1 km_0.2 rc_10 rfl rfl (Nat.le_of_ble_eq_true rfl) (by decide) (Nat.zero_le _) ?_
    refine V.sub (lv' := [(1, .int r1.1)]) [1] rfl ?_
    exact tX11_readRoom_16 F hr hf
def fX11_sayDoor_58 (h : ST) (l1 : Int32) (l2 : Int32) : Option (ST) :=
  bnd (rd 14 (h 3) 8) fun v10 =>
  bnd (wr 28 h 8 (14 + v10) l1) fun h12 =>
  bnd (wr 28 h12 9 (14 + v10) l2) fun h14 =>
  bnd (fX11_readNumber h14 1 9) fun r16 =>
  bnd (wr 28 r16.2 10 (14 + v10) r16.1) fun h18 =>
  bnd (rd 14 (h18 3) 8) fun v20 =>
  bnd (wr 14 h18 3 8 (v20 + 1)) fun h22 =>
  some h22
def fX11_sayDoor_47 (h : ST) (l1 : Int32) (l2 : Int32) : Option (ST) :=
  if (h 0 26) = 0 then
  bnd (fX11_stepOn h) fun r24 =>
    fX11_sayDoor_58 r24 l1 l2
  else
  fX11_sayDoor_58 h l1 l2
def fX11_sayDoor_42 (h : ST) (l1 : Int32) (l2 : Int32) : Option (ST) :=
  bnd (fX11_wrong h 4) fun r27 =>
  fX11_sayDoor_47 r27 l1 l2
def fX11_sayDoor (h : ST) : Option (ST) :=
  bnd (fX11_another h 1 14) fun r1 =>
  if r1.1 = 0 then
  some r1.2
  else
  bnd (fX11_readRoom r1.2) fun r4 =>
    bnd (fX11_roomNow r4.2) fun r6 =>
    if (r6.2 0 26) = 0 then
    if r4.1 = r6.1 then
      fX11_sayDoor_42 r6.2 r4.1 r6.1
      else
      bnd (fX11_isDoor r6.2 r4.1 r6.1) fun r29 =>
        if r29 = 0 then
        fX11_sayDoor_47 r6.2 r4.1 r6.1
        else
        fX11_sayDoor_42 r6.2 r4.1 r6.1
    else
    fX11_sayDoor_47 r6.2 r4.1 r6.1
set_option maxRecDepth 100000 in
set_option maxHeartbeats 4000000 in
theorem tX11_sayDoor_58 {p : Program} {l : Launch} {e : Env} {s : State} {m : MethodId} {args : Array Value} {below : List Frame} {meth : Method} {c : Code} {g : GE} {B : Nat} {h : ST}  {l1 : Int32} {l2 : Int32} (F : Fx p s m args meth c cX11_sayDoor 4 "DustParishModel" 43 g B)
    {y : ST} (hr : meth.sig.returnType = none) (hf : fX11_sayDoor_58 h l1 l2 = some y) : V p l e 5 0 s m args below meth c (MQ below (QO KM 43 g none y) args s 0 (6 * 0) (WA 43 g)) KM 43 g B 4 0 h 58 [(0, .ref (gA g 0)), (1, .int l1), (2, .int l2)] [] := by
  unfold fX11_sayDoor_58 at hf
  refine v_bipush (pc := 58) (v := 14) F dX11_sayDoor_58 bp_14 ?_
  refine v_aload_n (pc := 60) (j := 0) F dX11_sayDoor_60 rfl rfl ?_
  refine v_ifl (pc := 61) F fl_X11_36 dX11_sayDoor_61 km_0.1 km_0.2 fv_10_3 ?_
  refine v_bipush (pc := 64) (v := 8) F dX11_sayDoor_64 bp_8 ?_
  obtain ⟨v10, e11, hf⟩ := bnd_some hf
  refine v_iald (pc := 66) F dX11_sayDoor_66 km_3.1 km_3.2 e11 ?_
  refine v_iadd (pc := 67) F dX11_sayDoor_67 ?_
  refine v_istore_n (pc := 68) (lv' := [(0, .ref (gA g 0)), (1, .int l1), (2, .int l2), (3, .int (14 + v10))]) F dX11_sayDoor_68 rfl (by decide) rfl ?_
  refine v_aload_n (pc := 69) (j := 0) F dX11_sayDoor_69 rfl rfl ?_
  refine v_ifl (pc := 70) F fl_X11_50 dX11_sayDoor_70 km_0.1 km_0.2 fv_10_8 ?_
  refine v_iload_n (pc := 73) (j := 3) F dX11_sayDoor_73 rfl rfl ?_
  refine v_iload_n (pc := 74) (j := 1) F dX11_sayDoor_74 rfl rfl ?_
  obtain ⟨h12, e13, hf⟩ := bnd_some hf
  refine v_iast (pc := 75) F dX11_sayDoor_75 km_8.1 km_8.2 e13 ?_
  refine v_aload_n (pc := 76) (j := 0) F dX11_sayDoor_76 rfl rfl ?_
  refine v_ifl (pc := 77) F fl_X11_53 dX11_sayDoor_77 km_0.1 km_0.2 fv_10_9 ?_
  refine v_iload_n (pc := 80) (j := 3) F dX11_sayDoor_80 rfl rfl ?_
  refine v_iload_n (pc := 81) (j := 2) F dX11_sayDoor_81 rfl rfl ?_
  obtain ⟨h14, e15, hf⟩ := bnd_some hf
  refine v_iast (pc := 82) F dX11_sayDoor_82 km_9.1 km_9.2 e15 ?_
  refine v_aload_n (pc := 83) (j := 0) F dX11_sayDoor_83 rfl rfl ?_
  refine v_ifl (pc := 84) F fl_X11_56 dX11_sayDoor_84 km_0.1 km_0.2 fv_10_10 ?_
  refine v_iload_n (pc := 87) (j := 3) F dX11_sayDoor_87 rfl rfl ?_
  refine v_aload_n (pc := 88) (j := 0) F dX11_sayDoor_88 rfl rfl ?_
  refine v_iconst (pc := 89) (v := 1) F dX11_sayDoor_89 ic_1 ?_
  refine v_bipush (pc := 90) (v := 9) F dX11_sayDoor_90 bp_9 ?_
  obtain ⟨r16, e17, hf⟩ := bnd_some hf
  refine v_callVi (pc := 92) (As := [.int 1, .int 9]) F cl_X11_242 dX11_sayDoor_92 (kX11_readNumber e17) km_0.1 km_0.2 rc_10 rfl rfl (Nat.le_of_ble_eq_true rfl) (by decide) (Nat.zero_le _) ?_
  obtain ⟨h18, e19, hf⟩ := bnd_some hf
  refine v_iast (pc := 95) F dX11_sayDoor_95 km_10.1 km_10.2 e19 ?_
  refine v_aload_n (pc := 96) (j := 0) F dX11_sayDoor_96 rfl rfl ?_
  refine v_ifl (pc := 97) F fl_X11_36 dX11_sayDoor_97 km_0.1 km_0.2 fv_10_3 ?_
  refine v_bipush (pc := 100) (v := 8) F dX11_sayDoor_100 bp_8 ?_
  refine v_dup2_11 (pc := 102) F dX11_sayDoor_102 rfl rfl ?_
  obtain ⟨v20, e21, hf⟩ := bnd_some hf
  refine v_iald (pc := 103) F dX11_sayDoor_103 km_3.1 km_3.2 e21 ?_
  refine v_iconst (pc := 104) (v := 1) F dX11_sayDoor_104 ic_1 ?_
  refine v_iadd (pc := 105) F dX11_sayDoor_105 ?_
  obtain ⟨h22, e23, hf⟩ := bnd_some hf
  refine v_iast (pc := 106) F dX11_sayDoor_106 km_3.1 km_3.2 e23 ?_
  exact v_vret (pc := 107) F hr dX11_sayDoor_107 (Option.some.inj hf) (Nat.zero_le _)
set_option maxRecDepth 100000 in
set_option maxHeartbeats 4000000 in
theorem tX11_sayDoor_47 {p : Program} {l : Launch} {e : Env} {s : State} {m : MethodId} {args : Array Value} {below : List Frame} {meth : Method} {c : Code} {g : GE} {B : Nat} {h : ST}  {l1 : Int32} {l2 : Int32} (F : Fx p s m args meth c cX11_sayDoor 4 "DustParishModel" 43 g B)
    {y : ST} (hr : meth.sig.returnType = none) (hf : fX11_sayDoor_47 h l1 l2 = some y) : V p l e 5 0 s m args below meth c (MQ below (QO KM 43 g none y) args s 0 (6 * 0) (WA 43 g)) KM 43 g B 4 0 h 47 [(0, .ref (gA g 0)), (1, .int l1), (2, .int l2)] [] := by
  unfold fX11_sayDoor_47 at hf
  refine v_aload_n (pc := 47) (j := 0) F dX11_sayDoor_47 rfl rfl ?_
  refine v_ifl (pc := 48) F fl_X11_208 dX11_sayDoor_48 km_0.1 km_0.2 fv_10_26 ?_
  refine v_if_ne (pc := 51) (tgt := 58) F dX11_sayDoor_51 (by decide) (fun c9 => ?_) (fun c9 => ?_)
  · have hf := ite_f hf c9
    exact tX11_sayDoor_58 F hr hf
  · have hf := ite_t hf c9
    refine v_aload_n (pc := 54) (j := 0) F dX11_sayDoor_54 rfl rfl ?_
    obtain ⟨r24, e25, hf⟩ := bnd_some hf
    refine v_callVv (pc := 55) (As := []) F cl_X11_233 dX11_sayDoor_55 (kX11_stepOn e25) km_0.1 km_0.2 rc_10 rfl rfl (Nat.le_of_ble_eq_true rfl) (by decide) (Nat.zero_le _) ?_
    exact tX11_sayDoor_58 F hr hf
set_option maxRecDepth 100000 in
set_option maxHeartbeats 4000000 in
theorem tX11_sayDoor_42 {p : Program} {l : Launch} {e : Env} {s : State} {m : MethodId} {args : Array Value} {below : List Frame} {meth : Method} {c : Code} {g : GE} {B : Nat} {h : ST}  {l1 : Int32} {l2 : Int32} (F : Fx p s m args meth c cX11_sayDoor 4 "DustParishModel" 43 g B)
    {y : ST} (hr : meth.sig.returnType = none) (hf : fX11_sayDoor_42 h l1 l2 = some y) : V p l e 5 0 s m args below meth c (MQ below (QO KM 43 g none y) args s 0 (6 * 0) (WA 43 g)) KM 43 g B 4 0 h 42 [(0, .ref (gA g 0)), (1, .int l1), (2, .int l2)] [] := by
  unfold fX11_sayDoor_42 at hf
  refine v_aload_n (pc := 42) (j := 0) F dX11_sayDoor_42 rfl rfl ?_
  refine v_iconst (pc := 43) (v := 4) F dX11_sayDoor_43 ic_4 ?_
  obtain ⟨r27, e28, hf⟩ := bnd_some hf
  refine v_callVv (pc := 44) (As := [.int 4]) F cl_X11_229 dX11_sayDoor_44 (kX11_wrong e28) km_0.1 km_0.2 rc_10 rfl rfl (Nat.le_of_ble_eq_true rfl) (by decide) (Nat.zero_le _) ?_
  exact tX11_sayDoor_47 F hr hf
set_option maxRecDepth 100000 in
set_option maxHeartbeats 4000000 in
theorem kX11_sayDoor {l : Launch} {g : GE} {B : Nat} {h : ST} {y : ST} (hf : fX11_sayDoor h = some y) : CT l yX11_sayDoor cX11_sayDoor 4 none 5 KM 43 g B [.ref (gA g 0)] h none y := by
  refine CT.of pn_X11 (Nat.le_of_ble_eq_true rfl) ?_
  intro p e s m below meth c hr F
  have F : Fx p s m _ meth c cX11_sayDoor 4 "DustParishModel" 43 g B := F
  refine V_lv (lv' := [(0, .ref (gA g 0))]) rfl ?_
  unfold fX11_sayDoor at hf
  refine v_aload_n (pc := 0) (j := 0) F dX11_sayDoor_0 rfl rfl ?_
  refine v_iconst (pc := 1) (v := 1) F dX11_sayDoor_1 ic_1 ?_
  refine v_bipush (pc := 2) (v := 14) F dX11_sayDoor_2 bp_14 ?_
  obtain ⟨r1, e2, hf⟩ := bnd_some hf
  refine v_callVi (pc := 4) (As := [.int 1, .int 14]) F cl_X11_279 dX11_sayDoor_4 (kX11_another e2) km_0.1 km_0.2 rc_10 rfl rfl (Nat.le_of_ble_eq_true rfl) (by decide) (Nat.zero_le _) ?_
  refine v_if_ne (pc := 7) (tgt := 11) F dX11_sayDoor_7 (by decide) (fun c3 => ?_) (fun c3 => ?_)
  · have hf := ite_f hf c3
    refine v_aload_n (pc := 11) (j := 0) F dX11_sayDoor_11 rfl rfl ?_
    obtain ⟨r4, e5, hf⟩ := bnd_some hf
    refine v_callVi (pc := 12) (As := []) F cl_X11_283 dX11_sayDoor_12 (kX11_readRoom e5) km_0.1 km_0.2 rc_10 rfl rfl (Nat.le_of_ble_eq_true rfl) (by decide) (Nat.zero_le _) ?_
    refine v_istore_n (pc := 15) (lv' := [(0, .ref (gA g 0)), (1, .int r4.1)]) F dX11_sayDoor_15 rfl (by decide) rfl ?_
    refine v_aload_n (pc := 16) (j := 0) F dX11_sayDoor_16 rfl rfl ?_
    obtain ⟨r6, e7, hf⟩ := bnd_some hf
    refine v_callVi (pc := 17) (As := []) F cl_X11_239 dX11_sayDoor_17 (kX11_roomNow e7) km_0.1 km_0.2 rc_10 rfl rfl (Nat.le_of_ble_eq_true rfl) (by decide) (Nat.zero_le _) ?_
    refine v_istore_n (pc := 20) (lv' := [(0, .ref (gA g 0)), (1, .int r4.1), (2, .int r6.1)]) F dX11_sayDoor_20 rfl (by decide) rfl ?_
    refine v_aload_n (pc := 21) (j := 0) F dX11_sayDoor_21 rfl rfl ?_
    refine v_ifl (pc := 22) F fl_X11_208 dX11_sayDoor_22 km_0.1 km_0.2 fv_10_26 ?_
    refine v_if_ne (pc := 25) (tgt := 47) F dX11_sayDoor_25 (by decide) (fun c8 => ?_) (fun c8 => ?_)
    · have hf := ite_f hf c8
      exact tX11_sayDoor_47 F hr hf
    · have hf := ite_t hf c8
      refine v_iload_n (pc := 28) (j := 1) F dX11_sayDoor_28 rfl rfl ?_
      refine v_iload_n (pc := 29) (j := 2) F dX11_sayDoor_29 rfl rfl ?_
      refine v_icmp_eq (pc := 30) (tgt := 42) F dX11_sayDoor_30 (by decide) (fun c26 => ?_) (fun c26 => ?_)
      · have hf := ite_t hf c26
        exact tX11_sayDoor_42 F hr hf
      · have hf := ite_f hf c26
        refine v_aload_n (pc := 33) (j := 0) F dX11_sayDoor_33 rfl rfl ?_
        refine v_iload_n (pc := 34) (j := 1) F dX11_sayDoor_34 rfl rfl ?_
        refine v_iload_n (pc := 35) (j := 2) F dX11_sayDoor_35 rfl rfl ?_
        obtain ⟨r29, e30, hf⟩ := bnd_some hf
        refine v_callVi (pc := 36) (As := [.int r4.1, .int r6.1]) F cl_X11_286 dX11_sayDoor_36 (kX11_isDoor e30) km_0.1 km_0.2 rc_10 rfl rfl (Nat.le_of_ble_eq_true rfl) (by decide) (Nat.zero_le _) ?_
        refine v_if_eq (pc := 39) (tgt := 47) F dX11_sayDoor_39 (by decide) (fun c31 => ?_) (fun c31 => ?_)
        · have hf := ite_t hf c31
          exact tX11_sayDoor_47 F hr hf
        · have hf := ite_f hf c31
          exact tX11_sayDoor_42 F hr hf
  · have hf := ite_t hf c3
    exact v_vret (pc := 10) F hr dX11_sayDoor_10 (Option.some.inj hf) (Nat.zero_le _)
def fX11_sayWind (h : ST) : Option (ST) :=
  bnd (fX11_another h 2 5) fun r1 =>
  if r1.1 = 0 then
  some r1.2
  else
  bnd (rd 14 (r1.2 3) 9) fun v4 =>
    bnd (wr 10 r1.2 11 (5 + v4) 0) fun h6 =>
    bnd (rd 14 (h6 3) 9) fun v8 =>
    bnd (wr 14 h6 3 9 (v8 + 1)) fun h10 =>
    some h10
set_option maxRecDepth 100000 in
set_option maxHeartbeats 4000000 in
theorem kX11_sayWind {l : Launch} {g : GE} {B : Nat} {h : ST} {y : ST} (hf : fX11_sayWind h = some y) : CT l yX11_sayWind cX11_sayWind 1 none 4 KM 43 g B [.ref (gA g 0)] h none y := by
  refine CT.of pn_X11 (Nat.le_of_ble_eq_true rfl) ?_
  intro p e s m below meth c hr F
  have F : Fx p s m _ meth c cX11_sayWind 1 "DustParishModel" 43 g B := F
  refine V_lv (lv' := [(0, .ref (gA g 0))]) rfl ?_
  unfold fX11_sayWind at hf
  refine v_aload_n (pc := 0) (j := 0) F dX11_sayWind_0 rfl rfl ?_
  refine v_iconst (pc := 1) (v := 2) F dX11_sayWind_1 ic_2 ?_
  refine v_iconst (pc := 2) (v := 5) F dX11_sayWind_2 ic_5 ?_
  obtain ⟨r1, e2, hf⟩ := bnd_some hf
  refine v_callVi (pc := 3) (As := [.int 2, .int 5]) F cl_X11_279 dX11_sayWind_3 (kX11_another e2) km_0.1 km_0.2 rc_10 rfl rfl (Nat.le_of_ble_eq_true rfl) (by decide) (Nat.zero_le _) ?_
  refine v_if_ne (pc := 6) (tgt := 10) F dX11_sayWind_6 (by decide) (fun c3 => ?_) (fun c3 => ?_)
  · have hf := ite_f hf c3
    refine v_aload_n (pc := 10) (j := 0) F dX11_sayWind_10 rfl rfl ?_
    refine v_ifl (pc := 11) F fl_X11_59 dX11_sayWind_11 km_0.1 km_0.2 fv_10_11 ?_
    refine v_iconst (pc := 14) (v := 5) F dX11_sayWind_14 ic_5 ?_
    refine v_aload_n (pc := 15) (j := 0) F dX11_sayWind_15 rfl rfl ?_
    refine v_ifl (pc := 16) F fl_X11_36 dX11_sayWind_16 km_0.1 km_0.2 fv_10_3 ?_
    refine v_bipush (pc := 19) (v := 9) F dX11_sayWind_19 bp_9 ?_
    obtain ⟨v4, e5, hf⟩ := bnd_some hf
    refine v_iald (pc := 21) F dX11_sayWind_21 km_3.1 km_3.2 e5 ?_
    refine v_iadd (pc := 22) F dX11_sayWind_22 ?_
    refine v_iconst (pc := 23) (v := 0) F dX11_sayWind_23 ic_0 ?_
    obtain ⟨h6, e7, hf⟩ := bnd_some hf
    refine v_iast (pc := 24) F dX11_sayWind_24 km_11.1 km_11.2 e7 ?_
    refine v_aload_n (pc := 25) (j := 0) F dX11_sayWind_25 rfl rfl ?_
    refine v_ifl (pc := 26) F fl_X11_36 dX11_sayWind_26 km_0.1 km_0.2 fv_10_3 ?_
    refine v_bipush (pc := 29) (v := 9) F dX11_sayWind_29 bp_9 ?_
    refine v_dup2_11 (pc := 31) F dX11_sayWind_31 rfl rfl ?_
    obtain ⟨v8, e9, hf⟩ := bnd_some hf
    refine v_iald (pc := 32) F dX11_sayWind_32 km_3.1 km_3.2 e9 ?_
    refine v_iconst (pc := 33) (v := 1) F dX11_sayWind_33 ic_1 ?_
    refine v_iadd (pc := 34) F dX11_sayWind_34 ?_
    obtain ⟨h10, e11, hf⟩ := bnd_some hf
    refine v_iast (pc := 35) F dX11_sayWind_35 km_3.1 km_3.2 e11 ?_
    exact v_vret (pc := 36) F hr dX11_sayWind_36 (Option.some.inj hf) (Nat.zero_le _)
  · have hf := ite_t hf c3
    exact v_vret (pc := 9) F hr dX11_sayWind_9 (Option.some.inj hf) (Nat.zero_le _)
def fX11_sayBlow_109 (h : ST) (l1 : Int32) (l2 : Int32) (l3 : Int32) : Option (ST) :=
  bnd (rd 10 (h 11) l1) fun v16 =>
  bnd (wr 80 h 12 ((8 * l1) + v16) l2) fun h18 =>
  bnd (wr 80 h18 13 ((8 * l1) + v16) l3) fun h20 =>
  bnd (fX11_readNumber h20 1 9) fun r22 =>
  bnd (wr 80 r22.2 14 ((8 * l1) + v16) r22.1) fun h24 =>
  bnd (rd 10 (h24 11) l1) fun v26 =>
  bnd (wr 10 h24 11 l1 (v26 + 1)) fun h28 =>
  some h28
def fX11_sayBlow_98 (h : ST) (l1 : Int32) (l2 : Int32) (l3 : Int32) : Option (ST) :=
  if (h 0 26) = 0 then
  bnd (fX11_stepOn h) fun r30 =>
    fX11_sayBlow_109 r30 l1 l2 l3
  else
  fX11_sayBlow_109 h l1 l2 l3
def fX11_sayBlow_54 (h : ST) (l1 : Int32) : Option (ST) :=
  if (h 0 26) = 0 then
  bnd (fX11_stepOn h) fun r8 =>
    bnd (fX11_readRoom r8) fun r10 =>
    bnd (fX11_roomNow r10.2) fun r12 =>
    if (r12.2 0 26) = 0 then
    bnd (fX11_isDoor r12.2 r10.1 r12.1) fun r32 =>
      if r32 = 0 then
      bnd (fX11_wrong r12.2 6) fun r35 =>
        fX11_sayBlow_98 r35 l1 r10.1 r12.1
      else
      fX11_sayBlow_98 r12.2 l1 r10.1 r12.1
    else
    fX11_sayBlow_98 r12.2 l1 r10.1 r12.1
  else
  some h
def fX11_sayBlow_15 (h : ST)  : Option (ST) :=
  bnd (rd 14 (h 3) 9) fun v4 =>
  if (h 0 26) = 0 then
  bnd (rd 10 (h 11) ((5 + (if (1 : Int32) < v4 then v4 else 1)) - 1)) fun v37 =>
    if v37 = 8 then
    bnd (fX11_wrong h 2) fun r40 =>
      fX11_sayBlow_54 r40 ((5 + (if (1 : Int32) < v4 then v4 else 1)) - 1)
    else
    fX11_sayBlow_54 h ((5 + (if (1 : Int32) < v4 then v4 else 1)) - 1)
  else
  fX11_sayBlow_54 h ((5 + (if (1 : Int32) < v4 then v4 else 1)) - 1)
def fX11_sayBlow (h : ST) : Option (ST) :=
  bnd (rd 14 (h 3) 9) fun v1 =>
  if v1 = 0 then
  bnd (fX11_wrong h 1) fun r42 =>
    fX11_sayBlow_15 r42 
  else
  fX11_sayBlow_15 h 
set_option maxRecDepth 100000 in
set_option maxHeartbeats 4000000 in
theorem tX11_sayBlow_109 {p : Program} {l : Launch} {e : Env} {s : State} {m : MethodId} {args : Array Value} {below : List Frame} {meth : Method} {c : Code} {g : GE} {B : Nat} {h : ST}  {l1 : Int32} {l2 : Int32} {l3 : Int32} (F : Fx p s m args meth c cX11_sayBlow 5 "DustParishModel" 43 g B)
    {y : ST} (hr : meth.sig.returnType = none) (hf : fX11_sayBlow_109 h l1 l2 l3 = some y) : V p l e 5 0 s m args below meth c (MQ below (QO KM 43 g none y) args s 0 (6 * 0) (WA 43 g)) KM 43 g B 5 0 h 109 [(0, .ref (gA g 0)), (1, .int l1), (2, .int l2), (3, .int l3)] [] := by
  unfold fX11_sayBlow_109 at hf
  refine v_bipush (pc := 109) (v := 8) F dX11_sayBlow_109 bp_8 ?_
  refine v_iload_n (pc := 111) (j := 1) F dX11_sayBlow_111 rfl rfl ?_
  refine v_imul (pc := 112) F dX11_sayBlow_112 ?_
  refine v_aload_n (pc := 113) (j := 0) F dX11_sayBlow_113 rfl rfl ?_
  refine v_ifl (pc := 114) F fl_X11_59 dX11_sayBlow_114 km_0.1 km_0.2 fv_10_11 ?_
  refine v_iload_n (pc := 117) (j := 1) F dX11_sayBlow_117 rfl rfl ?_
  obtain ⟨v16, e17, hf⟩ := bnd_some hf
  refine v_iald (pc := 118) F dX11_sayBlow_118 km_11.1 km_11.2 e17 ?_
  refine v_iadd (pc := 119) F dX11_sayBlow_119 ?_
  refine v_istore (pc := 120) (lv' := [(0, .ref (gA g 0)), (1, .int l1), (2, .int l2), (3, .int l3), (4, .int ((8 * l1) + v16))]) F dX11_sayBlow_120 (by decide) rfl ?_
  refine v_aload_n (pc := 122) (j := 0) F dX11_sayBlow_122 rfl rfl ?_
  refine v_ifl (pc := 123) F fl_X11_62 dX11_sayBlow_123 km_0.1 km_0.2 fv_10_12 ?_
  refine v_iload (pc := 126) (j := 4) F dX11_sayBlow_126 rfl ?_
  refine v_iload_n (pc := 128) (j := 2) F dX11_sayBlow_128 rfl rfl ?_
  obtain ⟨h18, e19, hf⟩ := bnd_some hf
  refine v_iast (pc := 129) F dX11_sayBlow_129 km_12.1 km_12.2 e19 ?_
  refine v_aload_n (pc := 130) (j := 0) F dX11_sayBlow_130 rfl rfl ?_
  refine v_ifl (pc := 131) F fl_X11_65 dX11_sayBlow_131 km_0.1 km_0.2 fv_10_13 ?_
  refine v_iload (pc := 134) (j := 4) F dX11_sayBlow_134 rfl ?_
  refine v_iload_n (pc := 136) (j := 3) F dX11_sayBlow_136 rfl rfl ?_
  obtain ⟨h20, e21, hf⟩ := bnd_some hf
  refine v_iast (pc := 137) F dX11_sayBlow_137 km_13.1 km_13.2 e21 ?_
  refine v_aload_n (pc := 138) (j := 0) F dX11_sayBlow_138 rfl rfl ?_
  refine v_ifl (pc := 139) F fl_X11_68 dX11_sayBlow_139 km_0.1 km_0.2 fv_10_14 ?_
  refine v_iload (pc := 142) (j := 4) F dX11_sayBlow_142 rfl ?_
  refine v_aload_n (pc := 144) (j := 0) F dX11_sayBlow_144 rfl rfl ?_
  refine v_iconst (pc := 145) (v := 1) F dX11_sayBlow_145 ic_1 ?_
  refine v_bipush (pc := 146) (v := 9) F dX11_sayBlow_146 bp_9 ?_
  obtain ⟨r22, e23, hf⟩ := bnd_some hf
  refine v_callVi (pc := 148) (As := [.int 1, .int 9]) F cl_X11_242 dX11_sayBlow_148 (kX11_readNumber e23) km_0.1 km_0.2 rc_10 rfl rfl (Nat.le_of_ble_eq_true rfl) (by decide) (Nat.zero_le _) ?_
  obtain ⟨h24, e25, hf⟩ := bnd_some hf
  refine v_iast (pc := 151) F dX11_sayBlow_151 km_14.1 km_14.2 e25 ?_
  refine v_aload_n (pc := 152) (j := 0) F dX11_sayBlow_152 rfl rfl ?_
  refine v_ifl (pc := 153) F fl_X11_59 dX11_sayBlow_153 km_0.1 km_0.2 fv_10_11 ?_
  refine v_iload_n (pc := 156) (j := 1) F dX11_sayBlow_156 rfl rfl ?_
  refine v_dup2_11 (pc := 157) F dX11_sayBlow_157 rfl rfl ?_
  obtain ⟨v26, e27, hf⟩ := bnd_some hf
  refine v_iald (pc := 158) F dX11_sayBlow_158 km_11.1 km_11.2 e27 ?_
  refine v_iconst (pc := 159) (v := 1) F dX11_sayBlow_159 ic_1 ?_
  refine v_iadd (pc := 160) F dX11_sayBlow_160 ?_
  obtain ⟨h28, e29, hf⟩ := bnd_some hf
  refine v_iast (pc := 161) F dX11_sayBlow_161 km_11.1 km_11.2 e29 ?_
  exact v_vret (pc := 162) F hr dX11_sayBlow_162 (Option.some.inj hf) (Nat.zero_le _)
set_option maxRecDepth 100000 in
set_option maxHeartbeats 4000000 in
theorem tX11_sayBlow_98 {p : Program} {l : Launch} {e : Env} {s : State} {m : MethodId} {args : Array Value} {below : List Frame} {meth : Method} {c : Code} {g : GE} {B : Nat} {h : ST}  {l1 : Int32} {l2 : Int32} {l3 : Int32} (F : Fx p s m args meth c cX11_sayBlow 5 "DustParishModel" 43 g B)
    {y : ST} (hr : meth.sig.returnType = none) (hf : fX11_sayBlow_98 h l1 l2 l3 = some y) : V p l e 5 0 s m args below meth c (MQ below (QO KM 43 g none y) args s 0 (6 * 0) (WA 43 g)) KM 43 g B 5 0 h 98 [(0, .ref (gA g 0)), (1, .int l1), (2, .int l2), (3, .int l3)] [] := by
  unfold fX11_sayBlow_98 at hf
  refine v_aload_n (pc := 98) (j := 0) F dX11_sayBlow_98 rfl rfl ?_
  refine v_ifl (pc := 99) F fl_X11_208 dX11_sayBlow_99 km_0.1 km_0.2 fv_10_26 ?_
  refine v_if_ne (pc := 102) (tgt := 109) F dX11_sayBlow_102 (by decide) (fun c15 => ?_) (fun c15 => ?_)
  · have hf := ite_f hf c15
    exact tX11_sayBlow_109 F hr hf
  · have hf := ite_t hf c15
    refine v_aload_n (pc := 105) (j := 0) F dX11_sayBlow_105 rfl rfl ?_
    obtain ⟨r30, e31, hf⟩ := bnd_some hf
    refine v_callVv (pc := 106) (As := []) F cl_X11_233 dX11_sayBlow_106 (kX11_stepOn e31) km_0.1 km_0.2 rc_10 rfl rfl (Nat.le_of_ble_eq_true rfl) (by decide) (Nat.zero_le _) ?_
    exact tX11_sayBlow_109 F hr hf
set_option maxRecDepth 100000 in
set_option maxHeartbeats 4000000 in
theorem tX11_sayBlow_54 {p : Program} {l : Launch} {e : Env} {s : State} {m : MethodId} {args : Array Value} {below : List Frame} {meth : Method} {c : Code} {g : GE} {B : Nat} {h : ST}  {l1 : Int32} (F : Fx p s m args meth c cX11_sayBlow 5 "DustParishModel" 43 g B)
    {y : ST} (hr : meth.sig.returnType = none) (hf : fX11_sayBlow_54 h l1 = some y) : V p l e 5 0 s m args below meth c (MQ below (QO KM 43 g none y) args s 0 (6 * 0) (WA 43 g)) KM 43 g B 5 0 h 54 [(0, .ref (gA g 0)), (1, .int l1)] [] := by
  unfold fX11_sayBlow_54 at hf
  refine v_aload_n (pc := 54) (j := 0) F dX11_sayBlow_54 rfl rfl ?_
  refine v_ifl (pc := 55) F fl_X11_208 dX11_sayBlow_55 km_0.1 km_0.2 fv_10_26 ?_
  refine v_if_eq (pc := 58) (tgt := 62) F dX11_sayBlow_58 (by decide) (fun c7 => ?_) (fun c7 => ?_)
  · have hf := ite_t hf c7
    refine v_aload_n (pc := 62) (j := 0) F dX11_sayBlow_62 rfl rfl ?_
    obtain ⟨r8, e9, hf⟩ := bnd_some hf
    refine v_callVv (pc := 63) (As := []) F cl_X11_233 dX11_sayBlow_63 (kX11_stepOn e9) km_0.1 km_0.2 rc_10 rfl rfl (Nat.le_of_ble_eq_true rfl) (by decide) (Nat.zero_le _) ?_
    refine v_aload_n (pc := 66) (j := 0) F dX11_sayBlow_66 rfl rfl ?_
    obtain ⟨r10, e11, hf⟩ := bnd_some hf
    refine v_callVi (pc := 67) (As := []) F cl_X11_283 dX11_sayBlow_67 (kX11_readRoom e11) km_0.1 km_0.2 rc_10 rfl rfl (Nat.le_of_ble_eq_true rfl) (by decide) (Nat.zero_le _) ?_
    refine v_istore_n (pc := 70) (lv' := [(0, .ref (gA g 0)), (1, .int l1), (2, .int r10.1)]) F dX11_sayBlow_70 rfl (by decide) rfl ?_
    refine v_aload_n (pc := 71) (j := 0) F dX11_sayBlow_71 rfl rfl ?_
    obtain ⟨r12, e13, hf⟩ := bnd_some hf
    refine v_callVi (pc := 72) (As := []) F cl_X11_239 dX11_sayBlow_72 (kX11_roomNow e13) km_0.1 km_0.2 rc_10 rfl rfl (Nat.le_of_ble_eq_true rfl) (by decide) (Nat.zero_le _) ?_
    refine v_istore_n (pc := 75) (lv' := [(0, .ref (gA g 0)), (1, .int l1), (2, .int r10.1), (3, .int r12.1)]) F dX11_sayBlow_75 rfl (by decide) rfl ?_
    refine v_aload_n (pc := 76) (j := 0) F dX11_sayBlow_76 rfl rfl ?_
    refine v_ifl (pc := 77) F fl_X11_208 dX11_sayBlow_77 km_0.1 km_0.2 fv_10_26 ?_
    refine v_if_ne (pc := 80) (tgt := 98) F dX11_sayBlow_80 (by decide) (fun c14 => ?_) (fun c14 => ?_)
    · have hf := ite_f hf c14
      exact tX11_sayBlow_98 F hr hf
    · have hf := ite_t hf c14
      refine v_aload_n (pc := 83) (j := 0) F dX11_sayBlow_83 rfl rfl ?_
      refine v_iload_n (pc := 84) (j := 2) F dX11_sayBlow_84 rfl rfl ?_
      refine v_iload_n (pc := 85) (j := 3) F dX11_sayBlow_85 rfl rfl ?_
      obtain ⟨r32, e33, hf⟩ := bnd_some hf
      refine v_callVi (pc := 86) (As := [.int r10.1, .int r12.1]) F cl_X11_286 dX11_sayBlow_86 (kX11_isDoor e33) km_0.1 km_0.2 rc_10 rfl rfl (Nat.le_of_ble_eq_true rfl) (by decide) (Nat.zero_le _) ?_
      refine v_if_ne (pc := 89) (tgt := 98) F dX11_sayBlow_89 (by decide) (fun c34 => ?_) (fun c34 => ?_)
      · have hf := ite_f hf c34
        exact tX11_sayBlow_98 F hr hf
      · have hf := ite_t hf c34
        refine v_aload_n (pc := 92) (j := 0) F dX11_sayBlow_92 rfl rfl ?_
        refine v_bipush (pc := 93) (v := 6) F dX11_sayBlow_93 bp_6 ?_
        obtain ⟨r35, e36, hf⟩ := bnd_some hf
        refine v_callVv (pc := 95) (As := [.int 6]) F cl_X11_229 dX11_sayBlow_95 (kX11_wrong e36) km_0.1 km_0.2 rc_10 rfl rfl (Nat.le_of_ble_eq_true rfl) (by decide) (Nat.zero_le _) ?_
        exact tX11_sayBlow_98 F hr hf
  · have hf := ite_f hf c7
    exact v_vret (pc := 61) F hr dX11_sayBlow_61 (Option.some.inj hf) (Nat.zero_le _)
set_option maxRecDepth 100000 in
set_option maxHeartbeats 4000000 in
theorem tX11_sayBlow_15 {p : Program} {l : Launch} {e : Env} {s : State} {m : MethodId} {args : Array Value} {below : List Frame} {meth : Method} {c : Code} {g : GE} {B : Nat} {h : ST}  (F : Fx p s m args meth c cX11_sayBlow 5 "DustParishModel" 43 g B)
    {y : ST} (hr : meth.sig.returnType = none) (hf : fX11_sayBlow_15 h  = some y) : V p l e 5 0 s m args below meth c (MQ below (QO KM 43 g none y) args s 0 (6 * 0) (WA 43 g)) KM 43 g B 5 0 h 15 [(0, .ref (gA g 0))] [] := by
  unfold fX11_sayBlow_15 at hf
  refine v_iconst (pc := 15) (v := 5) F dX11_sayBlow_15 ic_5 ?_
  refine v_iconst (pc := 16) (v := 1) F dX11_sayBlow_16 ic_1 ?_
  refine v_aload_n (pc := 17) (j := 0) F dX11_sayBlow_17 rfl rfl ?_
  refine v_ifl (pc := 18) F fl_X11_36 dX11_sayBlow_18 km_0.1 km_0.2 fv_10_3 ?_
  refine v_bipush (pc := 21) (v := 9) F dX11_sayBlow_21 bp_9 ?_
  obtain ⟨v4, e5, hf⟩ := bnd_some hf
  refine v_iald (pc := 23) F dX11_sayBlow_23 km_3.1 km_3.2 e5 ?_
  refine v_mmax (pc := 24) F tw_1602 mmaxW dX11_sayBlow_24 (by decide) (Nat.le_of_ble_eq_true rfl) (Nat.zero_le _) ?_
  refine v_iadd (pc := 27) F dX11_sayBlow_27 ?_
  refine v_iconst (pc := 28) (v := 1) F dX11_sayBlow_28 ic_1 ?_
  refine v_isub (pc := 29) F dX11_sayBlow_29 ?_
  refine v_istore_n (pc := 30) (lv' := [(0, .ref (gA g 0)), (1, .int ((5 + (if (1 : Int32) < v4 then v4 else 1)) - 1))]) F dX11_sayBlow_30 rfl (by decide) rfl ?_
  refine v_aload_n (pc := 31) (j := 0) F dX11_sayBlow_31 rfl rfl ?_
  refine v_ifl (pc := 32) F fl_X11_208 dX11_sayBlow_32 km_0.1 km_0.2 fv_10_26 ?_
  refine v_if_ne (pc := 35) (tgt := 54) F dX11_sayBlow_35 (by decide) (fun c6 => ?_) (fun c6 => ?_)
  · have hf := ite_f hf c6
    exact tX11_sayBlow_54 F hr hf
  · have hf := ite_t hf c6
    refine v_aload_n (pc := 38) (j := 0) F dX11_sayBlow_38 rfl rfl ?_
    refine v_ifl (pc := 39) F fl_X11_59 dX11_sayBlow_39 km_0.1 km_0.2 fv_10_11 ?_
    refine v_iload_n (pc := 42) (j := 1) F dX11_sayBlow_42 rfl rfl ?_
    obtain ⟨v37, e38, hf⟩ := bnd_some hf
    refine v_iald (pc := 43) F dX11_sayBlow_43 km_11.1 km_11.2 e38 ?_
    refine v_bipush (pc := 44) (v := 8) F dX11_sayBlow_44 bp_8 ?_
    refine v_icmp_ne (pc := 46) (tgt := 54) F dX11_sayBlow_46 (by decide) (fun c39 => ?_) (fun c39 => ?_)
    · have hf := ite_f hf c39
      exact tX11_sayBlow_54 F hr hf
    · have hf := ite_t hf c39
      refine v_aload_n (pc := 49) (j := 0) F dX11_sayBlow_49 rfl rfl ?_
      refine v_iconst (pc := 50) (v := 2) F dX11_sayBlow_50 ic_2 ?_
      obtain ⟨r40, e41, hf⟩ := bnd_some hf
      refine v_callVv (pc := 51) (As := [.int 2]) F cl_X11_229 dX11_sayBlow_51 (kX11_wrong e41) km_0.1 km_0.2 rc_10 rfl rfl (Nat.le_of_ble_eq_true rfl) (by decide) (Nat.zero_le _) ?_
      exact tX11_sayBlow_54 F hr hf
set_option maxRecDepth 100000 in
set_option maxHeartbeats 4000000 in
theorem kX11_sayBlow {l : Launch} {g : GE} {B : Nat} {h : ST} {y : ST} (hf : fX11_sayBlow h = some y) : CT l yX11_sayBlow cX11_sayBlow 5 none 5 KM 43 g B [.ref (gA g 0)] h none y := by
  refine CT.of pn_X11 (Nat.le_of_ble_eq_true rfl) ?_
  intro p e s m below meth c hr F
  have F : Fx p s m _ meth c cX11_sayBlow 5 "DustParishModel" 43 g B := F
  refine V_lv (lv' := [(0, .ref (gA g 0))]) rfl ?_
  unfold fX11_sayBlow at hf
  refine v_aload_n (pc := 0) (j := 0) F dX11_sayBlow_0 rfl rfl ?_
  refine v_ifl (pc := 1) F fl_X11_36 dX11_sayBlow_1 km_0.1 km_0.2 fv_10_3 ?_
  refine v_bipush (pc := 4) (v := 9) F dX11_sayBlow_4 bp_9 ?_
  obtain ⟨v1, e2, hf⟩ := bnd_some hf
  refine v_iald (pc := 6) F dX11_sayBlow_6 km_3.1 km_3.2 e2 ?_
  refine v_if_ne (pc := 7) (tgt := 15) F dX11_sayBlow_7 (by decide) (fun c3 => ?_) (fun c3 => ?_)
  · have hf := ite_f hf c3
    exact tX11_sayBlow_15 F hr hf
  · have hf := ite_t hf c3
    refine v_aload_n (pc := 10) (j := 0) F dX11_sayBlow_10 rfl rfl ?_
    refine v_iconst (pc := 11) (v := 1) F dX11_sayBlow_11 ic_1 ?_
    obtain ⟨r42, e43, hf⟩ := bnd_some hf
    refine v_callVv (pc := 12) (As := [.int 1]) F cl_X11_229 dX11_sayBlow_12 (kX11_wrong e43) km_0.1 km_0.2 rc_10 rfl rfl (Nat.le_of_ble_eq_true rfl) (by decide) (Nat.zero_le _) ?_
    exact tX11_sayBlow_15 F hr hf
def fX11_takeHalf_2 (o1 : Nat) (n_o1 : Nat) (s1 : (ST × Int32)) : Option ((ST × Int32) ⊕ ST) :=
  if ((Int32.ofNat n_o1) / 2) ≤ s1.2 then
  some (.inr s1.1)
  else
  bnd (rd n_o1 (s1.1 o1) (((Int32.ofNat n_o1) / 2) + s1.2)) fun v2 =>
    bnd (wr n_o1 s1.1 o1 s1.2 v2) fun h4 =>
    some (.inl (h4, s1.2 + 1))
def fX11_takeHalf (h : ST) (o1 : Nat) (n_o1 : Nat) : Option (ST) :=
  bnd (lp FU (fX11_takeHalf_2 o1 n_o1) (h, 0)) fun x6 =>
  some x6
set_option maxRecDepth 100000 in
set_option maxHeartbeats 4000000 in
theorem tX11_takeHalf_2 {p : Program} {l : Launch} {e : Env} {s : State} {m : MethodId} {args : Array Value} {below : List Frame} {meth : Method} {c : Code} {g : GE} {B : Nat} {o1 n_o1 : Nat} (ho_o1 : o1 < 43) (hk_o1 : KM o1 = (20, n_o1)) {Q : State → Prop} {x : ST} {nf : Nat} {s0 : (ST × Int32)} (F : Fx p s m args meth c cX11_takeHalf 2 "DustParishModel" 43 g B) (hX0 : V p l e 1 0 s m args below meth c Q KM 43 g B 2 0 x 27 [] []) (hl : lp nf (fX11_takeHalf_2 o1 n_o1) s0 = some x) : V p l e 1 0 s m args below meth c Q KM 43 g B 2 0 s0.1 2 [(0, .ref (gA g o1)), (1, .int s0.2)] [] := by
  refine lp_ind (P := fun s0 => V p l e 1 0 s m args below meth c Q KM 43 g B 2 0 s0.1 2 [(0, .ref (gA g o1)), (1, .int s0.2)] []) ?_ nf s0 hl
  intro s1 y hf hk hx
  have hx0 : ∀ v : ST, y = Sum.inr v → V p l e 1 0 s m args below meth c Q KM 43 g B 2 0 v 27 [] [] := fun v e9 => by rw [hx v e9]; exact hX0
  unfold fX11_takeHalf_2 at hf
  refine v_iload_n (pc := 2) (j := 1) F dX11_takeHalf_2 rfl rfl ?_
  refine v_aload_n (pc := 3) (j := 0) F dX11_takeHalf_3 rfl rfl ?_
  refine v_alen (pc := 4) (v := Int32.ofNat n_o1) F dX11_takeHalf_4 ho_o1 hk_o1 (by decide) (by decide) rfl ?_
  refine v_iconst (pc := 5) (v := 2) F dX11_takeHalf_5 ic_2 ?_
  refine v_idiv (pc := 6) F dX11_takeHalf_6 (by decide) ?_
  refine v_icmp_ge (pc := 7) (tgt := 27) F dX11_takeHalf_7 (by decide) (fun c1 => ?_) (fun c1 => ?_)
  · have hf := ite_t hf c1
    refine V.sub (lv' := []) [] rfl ?_
    exact hx0 s1.1 (Option.some.inj hf).symm
  · have hf := ite_f hf c1
    refine v_aload_n (pc := 10) (j := 0) F dX11_takeHalf_10 rfl rfl ?_
    refine v_iload_n (pc := 11) (j := 1) F dX11_takeHalf_11 rfl rfl ?_
    refine v_aload_n (pc := 12) (j := 0) F dX11_takeHalf_12 rfl rfl ?_
    refine v_aload_n (pc := 13) (j := 0) F dX11_takeHalf_13 rfl rfl ?_
    refine v_alen (pc := 14) (v := Int32.ofNat n_o1) F dX11_takeHalf_14 ho_o1 hk_o1 (by decide) (by decide) rfl ?_
    refine v_iconst (pc := 15) (v := 2) F dX11_takeHalf_15 ic_2 ?_
    refine v_idiv (pc := 16) F dX11_takeHalf_16 (by decide) ?_
    refine v_iload_n (pc := 17) (j := 1) F dX11_takeHalf_17 rfl rfl ?_
    refine v_iadd (pc := 18) F dX11_takeHalf_18 ?_
    obtain ⟨v2, e3, hf⟩ := bnd_some hf
    refine v_iald (pc := 19) F dX11_takeHalf_19 ho_o1 hk_o1 e3 ?_
    obtain ⟨h4, e5, hf⟩ := bnd_some hf
    refine v_iast (pc := 20) F dX11_takeHalf_20 ho_o1 hk_o1 e5 ?_
    refine v_iinc (pc := 21) (j := 1) (v := s1.2 + 1) (lv' := [(0, .ref (gA g o1)), (1, .int (s1.2 + 1))]) F dX11_takeHalf_21 rfl (congrArg (fun z => s1.2 + z) ic_1) (by decide) rfl ?_
    refine v_goto (pc := 24) (tgt := 2) F dX11_takeHalf_24 (by decide) ?_
    exact hk (h4, s1.2 + 1) (Option.some.inj hf).symm
set_option maxRecDepth 100000 in
set_option maxHeartbeats 4000000 in
theorem kX11_takeHalf {l : Launch} {g : GE} {B : Nat} {h : ST} {o1 n_o1 : Nat} (ho_o1 : o1 < 43) (hk_o1 : KM o1 = (20, n_o1)) {y : ST} (hf : fX11_takeHalf h o1 n_o1 = some y) : CT l yX11_takeHalf cX11_takeHalf 2 none 1 KM 43 g B [.ref (gA g o1)] h none y := by
  refine CT.of pn_X11 (Nat.le_of_ble_eq_true rfl) ?_
  intro p e s m below meth c hr F
  have F : Fx p s m _ meth c cX11_takeHalf 2 "DustParishModel" 43 g B := F
  refine V_lv (lv' := [(0, .ref (gA g o1))]) rfl ?_
  unfold fX11_takeHalf at hf
  refine v_iconst (pc := 0) (v := 0) F dX11_takeHalf_0 ic_0 ?_
  refine v_istore_n (pc := 1) (lv' := [(0, .ref (gA g o1)), (1, .int 0)]) F dX11_takeHalf_1 rfl (by decide) rfl ?_
  obtain ⟨x6, e7, hf⟩ := bnd_some hf
  refine tX11_takeHalf_2 (s0 := (h, 0)) ho_o1 hk_o1 F ?_ e7
  exact v_vret (pc := 27) F hr dX11_takeHalf_27 (Option.some.inj hf) (Nat.zero_le _)
def fX11_takeOver_146 (h : ST) (l1 : Int32) (q1 : Int32) (q2 : Int32) : Option ((ST × Int32) ⊕ ST) :=
  bnd (wr 9 h 19 q1 q2) fun h39 =>
  bnd (wr 9 h39 20 l1 0) fun h41 =>
  some (.inl (h41, l1 + 1))
def fX11_takeOver_115 (s1 : (ST × Int32)) : Option ((ST × Int32) ⊕ ST) :=
  if 9 ≤ s1.2 then
  some (.inr s1.1)
  else
  bnd (rd 14 (s1.1 3) 0) fun v36 =>
    if v36 ≤ s1.2 then
    fX11_takeOver_146 s1.1 s1.2 s1.2 0
    else
    bnd (rd 18 (s1.1 6) s1.2) fun v43 =>
      fX11_takeOver_146 s1.1 s1.2 s1.2 v43
def fX11_takeOver_162 (s1 : (ST × Int32)) : Option ((ST × Int32) ⊕ ST) :=
  if 10 ≤ s1.2 then
  some (.inr s1.1)
  else
  bnd (rd 20 (s1.1 15) s1.2) fun v48 =>
    bnd (wr 10 s1.1 21 s1.2 v48) fun h50 =>
    some (.inl (h50, s1.2 + 1))
def fX11_takeOver (h : ST) : Option (ST) :=
  bnd (fX11_takeHalf h 3 14) fun r1 =>
  bnd (fX11_takeHalf r1 4 18) fun r3 =>
  bnd (fX11_takeHalf r3 5 18) fun r5 =>
  bnd (fX11_takeHalf r5 6 18) fun r7 =>
  bnd (fX11_takeHalf r7 7 18) fun r9 =>
  bnd (fX11_takeHalf r9 8 28) fun r11 =>
  bnd (fX11_takeHalf r11 9 28) fun r13 =>
  bnd (fX11_takeHalf r13 10 28) fun r15 =>
  bnd (fX11_takeHalf r15 11 10) fun r17 =>
  bnd (fX11_takeHalf r17 12 80) fun r19 =>
  bnd (fX11_takeHalf r19 13 80) fun r21 =>
  bnd (fX11_takeHalf r21 14 80) fun r23 =>
  bnd (fX11_takeHalf r23 15 20) fun r25 =>
  bnd (fX11_takeHalf r25 16 1400) fun r27 =>
  bnd (pw r27 0 33 0) fun h29 =>
  bnd (pw h29 0 34 0) fun h31 =>
  bnd (pw h31 0 35 0) fun h33 =>
  bnd (lp FU (fX11_takeOver_115) (h33, 0)) fun x45 =>
  bnd (lp FU (fX11_takeOver_162) (x45, 0)) fun x52 =>
  bnd (pw x52 0 36 0) fun h54 =>
  bnd (pw h54 0 37 0) fun h56 =>
  bnd (pw h56 0 54 0) fun h58 =>
  some h58
set_option maxRecDepth 100000 in
set_option maxHeartbeats 4000000 in
theorem tX11_takeOver_146 {p : Program} {l : Launch} {e : Env} {s : State} {m : MethodId} {args : Array Value} {below : List Frame} {meth : Method} {c : Code} {g : GE} {B : Nat} {h : ST}  {l1 : Int32} {q1 : Int32} {q2 : Int32} (F : Fx p s m args meth c cX11_takeOver 2 "DustParishModel" 43 g B)
    {Q : State → Prop} {y : (ST × Int32) ⊕ ST} (hk : ∀ v : (ST × Int32), y = Sum.inl v → V p l e 2 0 s m args below meth c Q KM 43 g B 2 0 v.1 115 [(0, .ref (gA g 0)), (1, .int v.2)] []) (hx0 : ∀ v : ST, y = Sum.inr v → V p l e 2 0 s m args below meth c Q KM 43 g B 2 0 v 160 [(0, .ref (gA g 0))] []) (hf : fX11_takeOver_146 h l1 q1 q2 = some y) : V p l e 2 0 s m args below meth c Q KM 43 g B 2 0 h 146 [(0, .ref (gA g 0)), (1, .int l1)] [.int q2, .int q1, .ref (gA g 19)] := by
  unfold fX11_takeOver_146 at hf
  obtain ⟨h39, e40, hf⟩ := bnd_some hf
  refine v_iast (pc := 146) F dX11_takeOver_146 km_19.1 km_19.2 e40 ?_
  refine v_aload_n (pc := 147) (j := 0) F dX11_takeOver_147 rfl rfl ?_
  refine v_ifl (pc := 148) F fl_X11_89 dX11_takeOver_148 km_0.1 km_0.2 fv_10_30 ?_
  refine v_iload_n (pc := 151) (j := 1) F dX11_takeOver_151 rfl rfl ?_
  refine v_iconst (pc := 152) (v := 0) F dX11_takeOver_152 ic_0 ?_
  obtain ⟨h41, e42, hf⟩ := bnd_some hf
  refine v_iast (pc := 153) F dX11_takeOver_153 km_20.1 km_20.2 e42 ?_
  refine v_iinc (pc := 154) (j := 1) (v := l1 + 1) (lv' := [(0, .ref (gA g 0)), (1, .int (l1 + 1))]) F dX11_takeOver_154 rfl (congrArg (fun z => l1 + z) ic_1) (by decide) rfl ?_
  refine v_goto (pc := 157) (tgt := 115) F dX11_takeOver_157 (by decide) ?_
  exact hk (h41, l1 + 1) (Option.some.inj hf).symm
set_option maxRecDepth 100000 in
set_option maxHeartbeats 4000000 in
theorem tX11_takeOver_115 {p : Program} {l : Launch} {e : Env} {s : State} {m : MethodId} {args : Array Value} {below : List Frame} {meth : Method} {c : Code} {g : GE} {B : Nat}  {Q : State → Prop} {x : ST} {nf : Nat} {s0 : (ST × Int32)} (F : Fx p s m args meth c cX11_takeOver 2 "DustParishModel" 43 g B) (hX0 : V p l e 2 0 s m args below meth c Q KM 43 g B 2 0 x 160 [(0, .ref (gA g 0))] []) (hl : lp nf (fX11_takeOver_115) s0 = some x) : V p l e 2 0 s m args below meth c Q KM 43 g B 2 0 s0.1 115 [(0, .ref (gA g 0)), (1, .int s0.2)] [] := by
  refine lp_ind (P := fun s0 => V p l e 2 0 s m args below meth c Q KM 43 g B 2 0 s0.1 115 [(0, .ref (gA g 0)), (1, .int s0.2)] []) ?_ nf s0 hl
  intro s1 y hf hk hx
  have hx0 : ∀ v : ST, y = Sum.inr v → V p l e 2 0 s m args below meth c Q KM 43 g B 2 0 v 160 [(0, .ref (gA g 0))] [] := fun v e9 => by rw [hx v e9]; exact hX0
  unfold fX11_takeOver_115 at hf
  refine v_iload_n (pc := 115) (j := 1) F dX11_takeOver_115 rfl rfl ?_
  refine v_bipush (pc := 116) (v := 9) F dX11_takeOver_116 bp_9 ?_
  refine v_icmp_ge (pc := 118) (tgt := 160) F dX11_takeOver_118 (by decide) (fun c35 => ?_) (fun c35 => ?_)
  · have hf := ite_t hf c35
    refine V.sub (lv' := [(0, .ref (gA g 0))]) [0] rfl ?_
    exact hx0 s1.1 (Option.some.inj hf).symm
  · have hf := ite_f hf c35
    refine v_aload_n (pc := 121) (j := 0) F dX11_takeOver_121 rfl rfl ?_
    refine v_ifl (pc := 122) F fl_X11_87 dX11_takeOver_122 km_0.1 km_0.2 fv_10_29 ?_
    refine v_iload_n (pc := 125) (j := 1) F dX11_takeOver_125 rfl rfl ?_
    refine v_iload_n (pc := 126) (j := 1) F dX11_takeOver_126 rfl rfl ?_
    refine v_aload_n (pc := 127) (j := 0) F dX11_takeOver_127 rfl rfl ?_
    refine v_ifl (pc := 128) F fl_X11_36 dX11_takeOver_128 km_0.1 km_0.2 fv_10_3 ?_
    refine v_iconst (pc := 131) (v := 0) F dX11_takeOver_131 ic_0 ?_
    obtain ⟨v36, e37, hf⟩ := bnd_some hf
    refine v_iald (pc := 132) F dX11_takeOver_132 km_3.1 km_3.2 e37 ?_
    refine v_icmp_ge (pc := 133) (tgt := 145) F dX11_takeOver_133 (by decide) (fun c38 => ?_) (fun c38 => ?_)
    · have hf := ite_t hf c38
      refine v_iconst (pc := 145) (v := 0) F dX11_takeOver_145 ic_0 ?_
      exact tX11_takeOver_146 F hk hx0 hf
    · have hf := ite_f hf c38
      refine v_aload_n (pc := 136) (j := 0) F dX11_takeOver_136 rfl rfl ?_
      refine v_ifl (pc := 137) F fl_X11_44 dX11_takeOver_137 km_0.1 km_0.2 fv_10_6 ?_
      refine v_iload_n (pc := 140) (j := 1) F dX11_takeOver_140 rfl rfl ?_
      obtain ⟨v43, e44, hf⟩ := bnd_some hf
      refine v_iald (pc := 141) F dX11_takeOver_141 km_6.1 km_6.2 e44 ?_
      refine v_goto (pc := 142) (tgt := 146) F dX11_takeOver_142 (by decide) ?_
      exact tX11_takeOver_146 F hk hx0 hf
set_option maxRecDepth 100000 in
set_option maxHeartbeats 4000000 in
theorem tX11_takeOver_162 {p : Program} {l : Launch} {e : Env} {s : State} {m : MethodId} {args : Array Value} {below : List Frame} {meth : Method} {c : Code} {g : GE} {B : Nat}  {Q : State → Prop} {x : ST} {nf : Nat} {s0 : (ST × Int32)} (F : Fx p s m args meth c cX11_takeOver 2 "DustParishModel" 43 g B) (hX0 : V p l e 2 0 s m args below meth c Q KM 43 g B 2 0 x 186 [(0, .ref (gA g 0))] []) (hl : lp nf (fX11_takeOver_162) s0 = some x) : V p l e 2 0 s m args below meth c Q KM 43 g B 2 0 s0.1 162 [(0, .ref (gA g 0)), (1, .int s0.2)] [] := by
  refine lp_ind (P := fun s0 => V p l e 2 0 s m args below meth c Q KM 43 g B 2 0 s0.1 162 [(0, .ref (gA g 0)), (1, .int s0.2)] []) ?_ nf s0 hl
  intro s1 y hf hk hx
  have hx0 : ∀ v : ST, y = Sum.inr v → V p l e 2 0 s m args below meth c Q KM 43 g B 2 0 v 186 [(0, .ref (gA g 0))] [] := fun v e9 => by rw [hx v e9]; exact hX0
  unfold fX11_takeOver_162 at hf
  refine v_iload_n (pc := 162) (j := 1) F dX11_takeOver_162 rfl rfl ?_
  refine v_bipush (pc := 163) (v := 10) F dX11_takeOver_163 bp_10 ?_
  refine v_icmp_ge (pc := 165) (tgt := 186) F dX11_takeOver_165 (by decide) (fun c47 => ?_) (fun c47 => ?_)
  · have hf := ite_t hf c47
    refine V.sub (lv' := [(0, .ref (gA g 0))]) [0] rfl ?_
    exact hx0 s1.1 (Option.some.inj hf).symm
  · have hf := ite_f hf c47
    refine v_aload_n (pc := 168) (j := 0) F dX11_takeOver_168 rfl rfl ?_
    refine v_ifl (pc := 169) F fl_X11_91 dX11_takeOver_169 km_0.1 km_0.2 fv_10_31 ?_
    refine v_iload_n (pc := 172) (j := 1) F dX11_takeOver_172 rfl rfl ?_
    refine v_aload_n (pc := 173) (j := 0) F dX11_takeOver_173 rfl rfl ?_
    refine v_ifl (pc := 174) F fl_X11_71 dX11_takeOver_174 km_0.1 km_0.2 fv_10_15 ?_
    refine v_iload_n (pc := 177) (j := 1) F dX11_takeOver_177 rfl rfl ?_
    obtain ⟨v48, e49, hf⟩ := bnd_some hf
    refine v_iald (pc := 178) F dX11_takeOver_178 km_15.1 km_15.2 e49 ?_
    obtain ⟨h50, e51, hf⟩ := bnd_some hf
    refine v_iast (pc := 179) F dX11_takeOver_179 km_21.1 km_21.2 e51 ?_
    refine v_iinc (pc := 180) (j := 1) (v := s1.2 + 1) (lv' := [(0, .ref (gA g 0)), (1, .int (s1.2 + 1))]) F dX11_takeOver_180 rfl (congrArg (fun z => s1.2 + z) ic_1) (by decide) rfl ?_
    refine v_goto (pc := 183) (tgt := 162) F dX11_takeOver_183 (by decide) ?_
    exact hk (h50, s1.2 + 1) (Option.some.inj hf).symm
set_option maxRecDepth 100000 in
set_option maxHeartbeats 4000000 in
theorem kX11_takeOver {l : Launch} {g : GE} {B : Nat} {h : ST} {y : ST} (hf : fX11_takeOver h = some y) : CT l yX11_takeOver cX11_takeOver 2 none 2 KM 43 g B [.ref (gA g 0)] h none y := by
  refine CT.of pn_X11 (Nat.le_of_ble_eq_true rfl) ?_
  intro p e s m below meth c hr F
  have F : Fx p s m _ meth c cX11_takeOver 2 "DustParishModel" 43 g B := F
  refine V_lv (lv' := [(0, .ref (gA g 0))]) rfl ?_
  unfold fX11_takeOver at hf
  refine v_aload_n (pc := 0) (j := 0) F dX11_takeOver_0 rfl rfl ?_
  refine v_ifl (pc := 1) F fl_X11_36 dX11_takeOver_1 km_0.1 km_0.2 fv_10_3 ?_
  obtain ⟨r1, e2, hf⟩ := bnd_some hf
  refine v_callSv (pc := 4) (As := [.ref (gA g 3)]) F cl_X11_329 dX11_takeOver_4 (kX11_takeHalf km_3.1 km_3.2 e2) rfl rfl (Nat.le_of_ble_eq_true rfl) (by decide) (Nat.zero_le _) ?_
  refine v_aload_n (pc := 7) (j := 0) F dX11_takeOver_7 rfl rfl ?_
  refine v_ifl (pc := 8) F fl_X11_40 dX11_takeOver_8 km_0.1 km_0.2 fv_10_4 ?_
  obtain ⟨r3, e4, hf⟩ := bnd_some hf
  refine v_callSv (pc := 11) (As := [.ref (gA g 4)]) F cl_X11_329 dX11_takeOver_11 (kX11_takeHalf km_4.1 km_4.2 e4) rfl rfl (Nat.le_of_ble_eq_true rfl) (by decide) (Nat.zero_le _) ?_
  refine v_aload_n (pc := 14) (j := 0) F dX11_takeOver_14 rfl rfl ?_
  refine v_ifl (pc := 15) F fl_X11_42 dX11_takeOver_15 km_0.1 km_0.2 fv_10_5 ?_
  obtain ⟨r5, e6, hf⟩ := bnd_some hf
  refine v_callSv (pc := 18) (As := [.ref (gA g 5)]) F cl_X11_329 dX11_takeOver_18 (kX11_takeHalf km_5.1 km_5.2 e6) rfl rfl (Nat.le_of_ble_eq_true rfl) (by decide) (Nat.zero_le _) ?_
  refine v_aload_n (pc := 21) (j := 0) F dX11_takeOver_21 rfl rfl ?_
  refine v_ifl (pc := 22) F fl_X11_44 dX11_takeOver_22 km_0.1 km_0.2 fv_10_6 ?_
  obtain ⟨r7, e8, hf⟩ := bnd_some hf
  refine v_callSv (pc := 25) (As := [.ref (gA g 6)]) F cl_X11_329 dX11_takeOver_25 (kX11_takeHalf km_6.1 km_6.2 e8) rfl rfl (Nat.le_of_ble_eq_true rfl) (by decide) (Nat.zero_le _) ?_
  refine v_aload_n (pc := 28) (j := 0) F dX11_takeOver_28 rfl rfl ?_
  refine v_ifl (pc := 29) F fl_X11_47 dX11_takeOver_29 km_0.1 km_0.2 fv_10_7 ?_
  obtain ⟨r9, e10, hf⟩ := bnd_some hf
  refine v_callSv (pc := 32) (As := [.ref (gA g 7)]) F cl_X11_329 dX11_takeOver_32 (kX11_takeHalf km_7.1 km_7.2 e10) rfl rfl (Nat.le_of_ble_eq_true rfl) (by decide) (Nat.zero_le _) ?_
  refine v_aload_n (pc := 35) (j := 0) F dX11_takeOver_35 rfl rfl ?_
  refine v_ifl (pc := 36) F fl_X11_50 dX11_takeOver_36 km_0.1 km_0.2 fv_10_8 ?_
  obtain ⟨r11, e12, hf⟩ := bnd_some hf
  refine v_callSv (pc := 39) (As := [.ref (gA g 8)]) F cl_X11_329 dX11_takeOver_39 (kX11_takeHalf km_8.1 km_8.2 e12) rfl rfl (Nat.le_of_ble_eq_true rfl) (by decide) (Nat.zero_le _) ?_
  refine v_aload_n (pc := 42) (j := 0) F dX11_takeOver_42 rfl rfl ?_
  refine v_ifl (pc := 43) F fl_X11_53 dX11_takeOver_43 km_0.1 km_0.2 fv_10_9 ?_
  obtain ⟨r13, e14, hf⟩ := bnd_some hf
  refine v_callSv (pc := 46) (As := [.ref (gA g 9)]) F cl_X11_329 dX11_takeOver_46 (kX11_takeHalf km_9.1 km_9.2 e14) rfl rfl (Nat.le_of_ble_eq_true rfl) (by decide) (Nat.zero_le _) ?_
  refine v_aload_n (pc := 49) (j := 0) F dX11_takeOver_49 rfl rfl ?_
  refine v_ifl (pc := 50) F fl_X11_56 dX11_takeOver_50 km_0.1 km_0.2 fv_10_10 ?_
  obtain ⟨r15, e16, hf⟩ := bnd_some hf
  refine v_callSv (pc := 53) (As := [.ref (gA g 10)]) F cl_X11_329 dX11_takeOver_53 (kX11_takeHalf km_10.1 km_10.2 e16) rfl rfl (Nat.le_of_ble_eq_true rfl) (by decide) (Nat.zero_le _) ?_
  refine v_aload_n (pc := 56) (j := 0) F dX11_takeOver_56 rfl rfl ?_
  refine v_ifl (pc := 57) F fl_X11_59 dX11_takeOver_57 km_0.1 km_0.2 fv_10_11 ?_
  obtain ⟨r17, e18, hf⟩ := bnd_some hf
  refine v_callSv (pc := 60) (As := [.ref (gA g 11)]) F cl_X11_329 dX11_takeOver_60 (kX11_takeHalf km_11.1 km_11.2 e18) rfl rfl (Nat.le_of_ble_eq_true rfl) (by decide) (Nat.zero_le _) ?_
  refine v_aload_n (pc := 63) (j := 0) F dX11_takeOver_63 rfl rfl ?_
  refine v_ifl (pc := 64) F fl_X11_62 dX11_takeOver_64 km_0.1 km_0.2 fv_10_12 ?_
  obtain ⟨r19, e20, hf⟩ := bnd_some hf
  refine v_callSv (pc := 67) (As := [.ref (gA g 12)]) F cl_X11_329 dX11_takeOver_67 (kX11_takeHalf km_12.1 km_12.2 e20) rfl rfl (Nat.le_of_ble_eq_true rfl) (by decide) (Nat.zero_le _) ?_
  refine v_aload_n (pc := 70) (j := 0) F dX11_takeOver_70 rfl rfl ?_
  refine v_ifl (pc := 71) F fl_X11_65 dX11_takeOver_71 km_0.1 km_0.2 fv_10_13 ?_
  obtain ⟨r21, e22, hf⟩ := bnd_some hf
  refine v_callSv (pc := 74) (As := [.ref (gA g 13)]) F cl_X11_329 dX11_takeOver_74 (kX11_takeHalf km_13.1 km_13.2 e22) rfl rfl (Nat.le_of_ble_eq_true rfl) (by decide) (Nat.zero_le _) ?_
  refine v_aload_n (pc := 77) (j := 0) F dX11_takeOver_77 rfl rfl ?_
  refine v_ifl (pc := 78) F fl_X11_68 dX11_takeOver_78 km_0.1 km_0.2 fv_10_14 ?_
  obtain ⟨r23, e24, hf⟩ := bnd_some hf
  refine v_callSv (pc := 81) (As := [.ref (gA g 14)]) F cl_X11_329 dX11_takeOver_81 (kX11_takeHalf km_14.1 km_14.2 e24) rfl rfl (Nat.le_of_ble_eq_true rfl) (by decide) (Nat.zero_le _) ?_
  refine v_aload_n (pc := 84) (j := 0) F dX11_takeOver_84 rfl rfl ?_
  refine v_ifl (pc := 85) F fl_X11_71 dX11_takeOver_85 km_0.1 km_0.2 fv_10_15 ?_
  obtain ⟨r25, e26, hf⟩ := bnd_some hf
  refine v_callSv (pc := 88) (As := [.ref (gA g 15)]) F cl_X11_329 dX11_takeOver_88 (kX11_takeHalf km_15.1 km_15.2 e26) rfl rfl (Nat.le_of_ble_eq_true rfl) (by decide) (Nat.zero_le _) ?_
  refine v_aload_n (pc := 91) (j := 0) F dX11_takeOver_91 rfl rfl ?_
  refine v_ifl (pc := 92) F fl_X11_74 dX11_takeOver_92 km_0.1 km_0.2 fv_10_16 ?_
  obtain ⟨r27, e28, hf⟩ := bnd_some hf
  refine v_callSv (pc := 95) (As := [.ref (gA g 16)]) F cl_X11_329 dX11_takeOver_95 (kX11_takeHalf km_16.1 km_16.2 e28) rfl rfl (Nat.le_of_ble_eq_true rfl) (by decide) (Nat.zero_le _) ?_
  refine v_aload_n (pc := 98) (j := 0) F dX11_takeOver_98 rfl rfl ?_
  refine v_iconst (pc := 99) (v := 0) F dX11_takeOver_99 ic_0 ?_
  obtain ⟨h29, e30, hf⟩ := bnd_some hf
  refine v_pfl (pc := 100) F fl_X11_333 pl_10_33 dX11_takeOver_100 km_0.1 km_0.2 fv_10_33 rfl rfl e30 ?_
  refine v_aload_n (pc := 103) (j := 0) F dX11_takeOver_103 rfl rfl ?_
  refine v_iconst (pc := 104) (v := 0) F dX11_takeOver_104 ic_0 ?_
  obtain ⟨h31, e32, hf⟩ := bnd_some hf
  refine v_pfl (pc := 105) F fl_X11_335 pl_10_34 dX11_takeOver_105 km_0.1 km_0.2 fv_10_34 rfl rfl e32 ?_
  refine v_aload_n (pc := 108) (j := 0) F dX11_takeOver_108 rfl rfl ?_
  refine v_iconst (pc := 109) (v := 0) F dX11_takeOver_109 ic_0 ?_
  obtain ⟨h33, e34, hf⟩ := bnd_some hf
  refine v_pfl (pc := 110) F fl_X11_338 pl_10_35 dX11_takeOver_110 km_0.1 km_0.2 fv_10_35 rfl rfl e34 ?_
  refine v_iconst (pc := 113) (v := 0) F dX11_takeOver_113 ic_0 ?_
  refine v_istore_n (pc := 114) (lv' := [(0, .ref (gA g 0)), (1, .int 0)]) F dX11_takeOver_114 rfl (by decide) rfl ?_
  obtain ⟨x45, e46, hf⟩ := bnd_some hf
  refine tX11_takeOver_115 (s0 := (h33, 0)) F ?_ e46
  refine v_iconst (pc := 160) (v := 0) F dX11_takeOver_160 ic_0 ?_
  refine v_istore_n (pc := 161) (lv' := [(0, .ref (gA g 0)), (1, .int 0)]) F dX11_takeOver_161 rfl (by decide) rfl ?_
  obtain ⟨x52, e53, hf⟩ := bnd_some hf
  refine tX11_takeOver_162 (s0 := (x45, 0)) F ?_ e53
  refine v_aload_n (pc := 186) (j := 0) F dX11_takeOver_186 rfl rfl ?_
  refine v_iconst (pc := 187) (v := 0) F dX11_takeOver_187 ic_0 ?_
  obtain ⟨h54, e55, hf⟩ := bnd_some hf
  refine v_pfl (pc := 188) F fl_X11_341 pl_10_36 dX11_takeOver_188 km_0.1 km_0.2 fv_10_36 rfl rfl e55 ?_
  refine v_aload_n (pc := 191) (j := 0) F dX11_takeOver_191 rfl rfl ?_
  refine v_iconst (pc := 192) (v := 0) F dX11_takeOver_192 ic_0 ?_
  obtain ⟨h56, e57, hf⟩ := bnd_some hf
  refine v_pfl (pc := 193) F fl_X11_344 pl_10_37 dX11_takeOver_193 km_0.1 km_0.2 fv_10_37 rfl rfl e57 ?_
  refine v_aload_n (pc := 196) (j := 0) F dX11_takeOver_196 rfl rfl ?_
  refine v_iconst (pc := 197) (v := 0) F dX11_takeOver_197 ic_0 ?_
  obtain ⟨h58, e59, hf⟩ := bnd_some hf
  refine v_pfl (pc := 198) F fl_X11_347 pl_10_54 dX11_takeOver_198 km_0.1 km_0.2 fv_10_54 rfl rfl e59 ?_
  exact v_vret (pc := 201) F hr dX11_takeOver_201 (Option.some.inj hf) (Nat.zero_le _)
def fX11_plan_46 (h : ST)  : Option (Int32 × ST) :=
  bnd (fX11_refuse h 1) fun r8 =>
  some (r8.1, r8.2)
def fX11_plan_52 (h : ST) (l1 : Int32) (l2 : Int32) : Option (Int32 × ST) :=
  bnd (fX11_keep h) fun r11 =>
  bnd (rd 10 (r11 21) l1) fun v13 =>
  bnd (wr 10 r11 21 l1 l2) fun h15 =>
  some (v13, h15)
def fX11_plan (h : ST) (a1 : Int32) (a2 : Int32) : Option (Int32 × ST) :=
  bnd (pw h 0 2 0) fun h1 =>
  bnd (rd 14 (h1 3) 3) fun v3 =>
  bnd (fX11_isIn h1 a1.toInt64 (0 : Int64) ((v3 - 1).toInt64)) fun r5 =>
  if r5 = 0 then
  fX11_plan_46 h1 
  else
  if a2 = 5 then
    fX11_plan_52 h1 a1 a2
    else
    bnd (rd 14 (h1 3) 2) fun v17 =>
      bnd (fX11_isIn h1 a2.toInt64 (0 : Int64) ((v17 - 1).toInt64)) fun r19 =>
      if r19 = 0 then
      fX11_plan_46 h1 
      else
      fX11_plan_52 h1 a1 a2
set_option maxRecDepth 100000 in
set_option maxHeartbeats 4000000 in
theorem tX11_plan_46 {p : Program} {l : Launch} {e : Env} {s : State} {m : MethodId} {args : Array Value} {below : List Frame} {meth : Method} {c : Code} {g : GE} {B : Nat} {h : ST}  (F : Fx p s m args meth c cX11_plan 4 "DustParishModel" 43 g B)
    {y : Int32 × ST} (hr : meth.sig.returnType = (some .int)) (hf : fX11_plan_46 h  = some y) : V p l e 3 0 s m args below meth c (MQ below (QO KM 43 g (some (.int y.1)) y.2) args s 0 (6 * 0) (WA 43 g)) KM 43 g B 4 0 h 46 [(0, .ref (gA g 0))] [] := by
  unfold fX11_plan_46 at hf
  refine v_aload_n (pc := 46) (j := 0) F dX11_plan_46 rfl rfl ?_
  refine v_iconst (pc := 47) (v := 1) F dX11_plan_47 ic_1 ?_
  obtain ⟨r8, e9, hf⟩ := bnd_some hf
  refine v_callVi (pc := 48) (As := [.int 1]) F cl_X11_409 dX11_plan_48 (kX11_refuse e9) km_0.1 km_0.2 rc_10 rfl rfl (Nat.le_of_ble_eq_true rfl) (by decide) (Nat.zero_le _) ?_
  exact v_iret (pc := 51) F hr dX11_plan_51 (some_fst hf) (some_snd hf) (Nat.zero_le _)
set_option maxRecDepth 100000 in
set_option maxHeartbeats 4000000 in
theorem tX11_plan_52 {p : Program} {l : Launch} {e : Env} {s : State} {m : MethodId} {args : Array Value} {below : List Frame} {meth : Method} {c : Code} {g : GE} {B : Nat} {h : ST}  {l1 : Int32} {l2 : Int32} (F : Fx p s m args meth c cX11_plan 4 "DustParishModel" 43 g B)
    {y : Int32 × ST} (hr : meth.sig.returnType = (some .int)) (hf : fX11_plan_52 h l1 l2 = some y) : V p l e 3 0 s m args below meth c (MQ below (QO KM 43 g (some (.int y.1)) y.2) args s 0 (6 * 0) (WA 43 g)) KM 43 g B 4 0 h 52 [(0, .ref (gA g 0)), (1, .int l1), (2, .int l2)] [] := by
  unfold fX11_plan_52 at hf
  refine v_aload_n (pc := 52) (j := 0) F dX11_plan_52 rfl rfl ?_
  obtain ⟨r11, e12, hf⟩ := bnd_some hf
  refine v_callVv (pc := 53) (As := []) F cl_X11_412 dX11_plan_53 (kX11_keep e12) km_0.1 km_0.2 rc_10 rfl rfl (Nat.le_of_ble_eq_true rfl) (by decide) (Nat.zero_le _) ?_
  refine v_aload_n (pc := 56) (j := 0) F dX11_plan_56 rfl rfl ?_
  refine v_ifl (pc := 57) F fl_X11_91 dX11_plan_57 km_0.1 km_0.2 fv_10_31 ?_
  refine v_iload_n (pc := 60) (j := 1) F dX11_plan_60 rfl rfl ?_
  obtain ⟨v13, e14, hf⟩ := bnd_some hf
  refine v_iald (pc := 61) F dX11_plan_61 km_21.1 km_21.2 e14 ?_
  refine v_istore_n (pc := 62) (lv' := [(0, .ref (gA g 0)), (1, .int l1), (2, .int l2), (3, .int v13)]) F dX11_plan_62 rfl (by decide) rfl ?_
  refine v_aload_n (pc := 63) (j := 0) F dX11_plan_63 rfl rfl ?_
  refine v_ifl (pc := 64) F fl_X11_91 dX11_plan_64 km_0.1 km_0.2 fv_10_31 ?_
  refine v_iload_n (pc := 67) (j := 1) F dX11_plan_67 rfl rfl ?_
  refine v_iload_n (pc := 68) (j := 2) F dX11_plan_68 rfl rfl ?_
  obtain ⟨h15, e16, hf⟩ := bnd_some hf
  refine v_iast (pc := 69) F dX11_plan_69 km_21.1 km_21.2 e16 ?_
  refine v_iload_n (pc := 70) (j := 3) F dX11_plan_70 rfl rfl ?_
  exact v_iret (pc := 71) F hr dX11_plan_71 (some_fst hf) (some_snd hf) (Nat.zero_le _)
set_option maxRecDepth 100000 in
set_option maxHeartbeats 4000000 in
theorem kX11_plan {l : Launch} {g : GE} {B : Nat} {h : ST} {a1 : Int32} {a2 : Int32} {y : Int32 × ST} (hf : fX11_plan h a1 a2 = some y) : CT l yX11_plan cX11_plan 4 (some .int) 3 KM 43 g B [.ref (gA g 0), .int a1, .int a2] h (some (.int y.1)) y.2 := by
  refine CT.of pn_X11 (Nat.le_of_ble_eq_true rfl) ?_
  intro p e s m below meth c hr F
  have F : Fx p s m _ meth c cX11_plan 4 "DustParishModel" 43 g B := F
  refine V_lv (lv' := [(0, .ref (gA g 0)), (1, .int a1), (2, .int a2)]) rfl ?_
  unfold fX11_plan at hf
  refine v_aload_n (pc := 0) (j := 0) F dX11_plan_0 rfl rfl ?_
  refine v_iconst (pc := 1) (v := 0) F dX11_plan_1 ic_0 ?_
  obtain ⟨h1, e2, hf⟩ := bnd_some hf
  refine v_pfl (pc := 2) F fl_X11_157 pl_10_2 dX11_plan_2 km_0.1 km_0.2 fv_10_2 rfl rfl e2 ?_
  refine v_iload_n (pc := 5) (j := 1) F dX11_plan_5 rfl rfl ?_
  refine v_i2l (pc := 6) F dX11_plan_6 rfl ?_
  refine v_lconst (pc := 7) (v := 0) F dX11_plan_7 rfl ?_
  refine v_aload_n (pc := 8) (j := 0) F dX11_plan_8 rfl rfl ?_
  refine v_ifl (pc := 9) F fl_X11_36 dX11_plan_9 km_0.1 km_0.2 fv_10_3 ?_
  refine v_iconst (pc := 12) (v := 3) F dX11_plan_12 ic_3 ?_
  obtain ⟨v3, e4, hf⟩ := bnd_some hf
  refine v_iald (pc := 13) F dX11_plan_13 km_3.1 km_3.2 e4 ?_
  refine v_iconst (pc := 14) (v := 1) F dX11_plan_14 ic_1 ?_
  refine v_isub (pc := 15) F dX11_plan_15 ?_
  refine v_i2l (pc := 16) F dX11_plan_16 rfl ?_
  obtain ⟨r5, e6, hf⟩ := bnd_some hf
  refine v_callSi (pc := 17) (As := [.long a1.toInt64, .long (0 : Int64), .long ((v3 - 1).toInt64)]) F cl_X11_160 dX11_plan_17 (kX11_isIn e6) rfl rfl (Nat.le_of_ble_eq_true rfl) (by decide) (Nat.zero_le _) ?_
  refine v_if_eq (pc := 20) (tgt := 46) F dX11_plan_20 (by decide) (fun c7 => ?_) (fun c7 => ?_)
  · have hf := ite_t hf c7
    refine V.sub (lv' := [(0, .ref (gA g 0))]) [0] rfl ?_
    exact tX11_plan_46 F hr hf
  · have hf := ite_f hf c7
    refine v_iload_n (pc := 23) (j := 2) F dX11_plan_23 rfl rfl ?_
    refine v_iconst (pc := 24) (v := 5) F dX11_plan_24 ic_5 ?_
    refine v_icmp_eq (pc := 25) (tgt := 52) F dX11_plan_25 (by decide) (fun c10 => ?_) (fun c10 => ?_)
    · have hf := ite_t hf c10
      exact tX11_plan_52 F hr hf
    · have hf := ite_f hf c10
      refine v_iload_n (pc := 28) (j := 2) F dX11_plan_28 rfl rfl ?_
      refine v_i2l (pc := 29) F dX11_plan_29 rfl ?_
      refine v_lconst (pc := 30) (v := 0) F dX11_plan_30 rfl ?_
      refine v_aload_n (pc := 31) (j := 0) F dX11_plan_31 rfl rfl ?_
      refine v_ifl (pc := 32) F fl_X11_36 dX11_plan_32 km_0.1 km_0.2 fv_10_3 ?_
      refine v_iconst (pc := 35) (v := 2) F dX11_plan_35 ic_2 ?_
      obtain ⟨v17, e18, hf⟩ := bnd_some hf
      refine v_iald (pc := 36) F dX11_plan_36 km_3.1 km_3.2 e18 ?_
      refine v_iconst (pc := 37) (v := 1) F dX11_plan_37 ic_1 ?_
      refine v_isub (pc := 38) F dX11_plan_38 ?_
      refine v_i2l (pc := 39) F dX11_plan_39 rfl ?_
      obtain ⟨r19, e20, hf⟩ := bnd_some hf
      refine v_callSi (pc := 40) (As := [.long a2.toInt64, .long (0 : Int64), .long ((v17 - 1).toInt64)]) F cl_X11_160 dX11_plan_40 (kX11_isIn e20) rfl rfl (Nat.le_of_ble_eq_true rfl) (by decide) (Nat.zero_le _) ?_
      refine v_if_ne (pc := 43) (tgt := 52) F dX11_plan_43 (by decide) (fun c21 => ?_) (fun c21 => ?_)
      · have hf := ite_f hf c21
        exact tX11_plan_52 F hr hf
      · have hf := ite_t hf c21
        refine V.sub (lv' := [(0, .ref (gA g 0))]) [0] rfl ?_
        exact tX11_plan_46 F hr hf
def fX11_poorest_68 (h : ST) (l2 : Int32) (l3 : Int32) : Option ((Int32 × Int32) ⊕ Int32) :=
  some (.inl (l2, l3 + 1))
def fX11_poorest_66 (h : ST) (l3 : Int32) : Option ((Int32 × Int32) ⊕ Int32) :=
  fX11_poorest_68 h l3 l3
def fX11_poorest_36 (h : ST) (s1 : (Int32 × Int32)) : Option ((Int32 × Int32) ⊕ Int32) :=
  bnd (rd 14 (h 3) 0) fun v10 =>
  if v10 ≤ s1.2 then
  some (.inr s1.1)
  else
  if s1.1 = (-1) then
    fX11_poorest_66 h s1.2
    else
    bnd (rd 9 (h 19) s1.2) fun v14 =>
      bnd (rd 9 (h 19) s1.1) fun v16 =>
      if v16 ≤ v14 then
      fX11_poorest_68 h s1.1 s1.2
      else
      fX11_poorest_66 h s1.2
def fX11_poorest (h : ST) (a1 : Int32) : Option (Int32 × ST) :=
  bnd (pw h 0 2 0) fun h1 =>
  bnd (fX11_isAhead h1 a1) fun r3 =>
  if r3 = 0 then
  bnd (fX11_fail h1 1) fun r23 =>
    some (r23.1, r23.2)
  else
  bnd (fX11_pack h1 27 31 0) fun r6 =>
    bnd (fX11_goOn r6 a1) fun r8 =>
    bnd (lp FU (fX11_poorest_36 r8) ((-1), 0)) fun x19 =>
    bnd (fX11_unpack r8 27 31 0) fun r21 =>
    some (x19, r21)
set_option maxRecDepth 100000 in
set_option maxHeartbeats 4000000 in
theorem tX11_poorest_68 {p : Program} {l : Launch} {e : Env} {s : State} {m : MethodId} {args : Array Value} {below : List Frame} {meth : Method} {c : Code} {g : GE} {B : Nat} {h : ST}  {l2 : Int32} {l3 : Int32} (F : Fx p s m args meth c cX11_poorest 4 "DustParishModel" 43 g B)
    {Q : State → Prop} {y : (Int32 × Int32) ⊕ Int32} (hk : ∀ v : (Int32 × Int32), y = Sum.inl v → V p l e 8 0 s m args below meth c Q KM 43 g B 4 0 h 36 [(0, .ref (gA g 0)), (2, .int v.1), (3, .int v.2)] []) (hx0 : ∀ v : Int32, y = Sum.inr v → V p l e 8 0 s m args below meth c Q KM 43 g B 4 0 h 74 [(0, .ref (gA g 0)), (2, .int v)] []) (hf : fX11_poorest_68 h l2 l3 = some y) : V p l e 8 0 s m args below meth c Q KM 43 g B 4 0 h 68 [(0, .ref (gA g 0)), (2, .int l2), (3, .int l3)] [] := by
  unfold fX11_poorest_68 at hf
  refine v_iinc (pc := 68) (j := 2) (v := l3 + 1) (lv' := [(0, .ref (gA g 0)), (2, .int l2), (3, .int (l3 + 1))]) F dX11_poorest_68 rfl (congrArg (fun z => l3 + z) ic_1) (by decide) rfl ?_
  refine v_goto (pc := 71) (tgt := 36) F dX11_poorest_71 (by decide) ?_
  exact hk (l2, l3 + 1) (Option.some.inj hf).symm
set_option maxRecDepth 100000 in
set_option maxHeartbeats 4000000 in
theorem tX11_poorest_66 {p : Program} {l : Launch} {e : Env} {s : State} {m : MethodId} {args : Array Value} {below : List Frame} {meth : Method} {c : Code} {g : GE} {B : Nat} {h : ST}  {l3 : Int32} (F : Fx p s m args meth c cX11_poorest 4 "DustParishModel" 43 g B)
    {Q : State → Prop} {y : (Int32 × Int32) ⊕ Int32} (hk : ∀ v : (Int32 × Int32), y = Sum.inl v → V p l e 8 0 s m args below meth c Q KM 43 g B 4 0 h 36 [(0, .ref (gA g 0)), (2, .int v.1), (3, .int v.2)] []) (hx0 : ∀ v : Int32, y = Sum.inr v → V p l e 8 0 s m args below meth c Q KM 43 g B 4 0 h 74 [(0, .ref (gA g 0)), (2, .int v)] []) (hf : fX11_poorest_66 h l3 = some y) : V p l e 8 0 s m args below meth c Q KM 43 g B 4 0 h 66 [(0, .ref (gA g 0)), (3, .int l3)] [] := by
  unfold fX11_poorest_66 at hf
  refine v_iload_n (pc := 66) (j := 1) F dX11_poorest_66 rfl rfl ?_
  refine v_istore_n (pc := 67) (lv' := [(0, .ref (gA g 0)), (2, .int l3), (3, .int l3)]) F dX11_poorest_67 rfl (by decide) rfl ?_
  exact tX11_poorest_68 F hk hx0 hf
set_option maxRecDepth 100000 in
set_option maxHeartbeats 4000000 in
theorem tX11_poorest_36 {p : Program} {l : Launch} {e : Env} {s : State} {m : MethodId} {args : Array Value} {below : List Frame} {meth : Method} {c : Code} {g : GE} {B : Nat} {h : ST}  {Q : State → Prop} {x : Int32} {nf : Nat} {s0 : (Int32 × Int32)} (F : Fx p s m args meth c cX11_poorest 4 "DustParishModel" 43 g B) (hX0 : V p l e 8 0 s m args below meth c Q KM 43 g B 4 0 h 74 [(0, .ref (gA g 0)), (2, .int x)] []) (hl : lp nf (fX11_poorest_36 h) s0 = some x) : V p l e 8 0 s m args below meth c Q KM 43 g B 4 0 h 36 [(0, .ref (gA g 0)), (2, .int s0.1), (3, .int s0.2)] [] := by
  refine lp_ind (P := fun s0 => V p l e 8 0 s m args below meth c Q KM 43 g B 4 0 h 36 [(0, .ref (gA g 0)), (2, .int s0.1), (3, .int s0.2)] []) ?_ nf s0 hl
  intro s1 y hf hk hx
  have hx0 : ∀ v : Int32, y = Sum.inr v → V p l e 8 0 s m args below meth c Q KM 43 g B 4 0 h 74 [(0, .ref (gA g 0)), (2, .int v)] [] := fun v e9 => by rw [hx v e9]; exact hX0
  unfold fX11_poorest_36 at hf
  refine v_iload_n (pc := 36) (j := 2) F dX11_poorest_36 rfl rfl ?_
  refine v_aload_n (pc := 37) (j := 0) F dX11_poorest_37 rfl rfl ?_
  refine v_ifl (pc := 38) F fl_X11_36 dX11_poorest_38 km_0.1 km_0.2 fv_10_3 ?_
  refine v_iconst (pc := 41) (v := 0) F dX11_poorest_41 ic_0 ?_
  obtain ⟨v10, e11, hf⟩ := bnd_some hf
  refine v_iald (pc := 42) F dX11_poorest_42 km_3.1 km_3.2 e11 ?_
  refine v_icmp_ge (pc := 43) (tgt := 74) F dX11_poorest_43 (by decide) (fun c12 => ?_) (fun c12 => ?_)
  · have hf := ite_t hf c12
    refine V.sub (lv' := [(0, .ref (gA g 0)), (2, .int s1.1)]) [0, 1] rfl ?_
    exact hx0 s1.1 (Option.some.inj hf).symm
  · have hf := ite_f hf c12
    refine v_iload_n (pc := 46) (j := 1) F dX11_poorest_46 rfl rfl ?_
    refine v_iconst (pc := 47) (v := (-1)) F dX11_poorest_47 ic_m1 ?_
    refine v_icmp_eq (pc := 48) (tgt := 66) F dX11_poorest_48 (by decide) (fun c13 => ?_) (fun c13 => ?_)
    · have hf := ite_t hf c13
      refine V.sub (lv' := [(0, .ref (gA g 0)), (3, .int s1.2)]) [0, 2] rfl ?_
      exact tX11_poorest_66 F hk hx0 hf
    · have hf := ite_f hf c13
      refine v_aload_n (pc := 51) (j := 0) F dX11_poorest_51 rfl rfl ?_
      refine v_ifl (pc := 52) F fl_X11_87 dX11_poorest_52 km_0.1 km_0.2 fv_10_29 ?_
      refine v_iload_n (pc := 55) (j := 2) F dX11_poorest_55 rfl rfl ?_
      obtain ⟨v14, e15, hf⟩ := bnd_some hf
      refine v_iald (pc := 56) F dX11_poorest_56 km_19.1 km_19.2 e15 ?_
      refine v_aload_n (pc := 57) (j := 0) F dX11_poorest_57 rfl rfl ?_
      refine v_ifl (pc := 58) F fl_X11_87 dX11_poorest_58 km_0.1 km_0.2 fv_10_29 ?_
      refine v_iload_n (pc := 61) (j := 1) F dX11_poorest_61 rfl rfl ?_
      obtain ⟨v16, e17, hf⟩ := bnd_some hf
      refine v_iald (pc := 62) F dX11_poorest_62 km_19.1 km_19.2 e17 ?_
      refine v_icmp_ge (pc := 63) (tgt := 68) F dX11_poorest_63 (by decide) (fun c18 => ?_) (fun c18 => ?_)
      · have hf := ite_t hf c18
        exact tX11_poorest_68 F hk hx0 hf
      · have hf := ite_f hf c18
        refine V.sub (lv' := [(0, .ref (gA g 0)), (3, .int s1.2)]) [0, 2] rfl ?_
        exact tX11_poorest_66 F hk hx0 hf
set_option maxRecDepth 100000 in
set_option maxHeartbeats 4000000 in
theorem kX11_poorest {l : Launch} {g : GE} {B : Nat} {h : ST} {a1 : Int32} {y : Int32 × ST} (hf : fX11_poorest h a1 = some y) : CT l yX11_poorest cX11_poorest 4 (some .int) 8 KM 43 g B [.ref (gA g 0), .int a1] h (some (.int y.1)) y.2 := by
  refine CT.of pn_X11 (Nat.le_of_ble_eq_true rfl) ?_
  intro p e s m below meth c hr F
  have F : Fx p s m _ meth c cX11_poorest 4 "DustParishModel" 43 g B := F
  refine V_lv (lv' := [(0, .ref (gA g 0)), (1, .int a1)]) rfl ?_
  unfold fX11_poorest at hf
  refine v_aload_n (pc := 0) (j := 0) F dX11_poorest_0 rfl rfl ?_
  refine v_iconst (pc := 1) (v := 0) F dX11_poorest_1 ic_0 ?_
  obtain ⟨h1, e2, hf⟩ := bnd_some hf
  refine v_pfl (pc := 2) F fl_X11_157 pl_10_2 dX11_poorest_2 km_0.1 km_0.2 fv_10_2 rfl rfl e2 ?_
  refine v_iload_n (pc := 5) (j := 1) F dX11_poorest_5 rfl rfl ?_
  obtain ⟨r3, e4, hf⟩ := bnd_some hf
  refine v_callSi (pc := 6) (As := [.int a1]) F cl_X11_433 dX11_poorest_6 (kX11_isAhead e4) rfl rfl (Nat.le_of_ble_eq_true rfl) (by decide) (Nat.zero_le _) ?_
  refine v_if_ne (pc := 9) (tgt := 18) F dX11_poorest_9 (by decide) (fun c5 => ?_) (fun c5 => ?_)
  · have hf := ite_f hf c5
    refine v_aload_n (pc := 18) (j := 0) F dX11_poorest_18 rfl rfl ?_
    refine v_aload_n (pc := 19) (j := 0) F dX11_poorest_19 rfl rfl ?_
    refine v_ifl (pc := 20) F fl_X11_109 dX11_poorest_20 km_0.1 km_0.2 fv_10_42 ?_
    refine v_iconst (pc := 23) (v := 0) F dX11_poorest_23 ic_0 ?_
    obtain ⟨r6, e7, hf⟩ := bnd_some hf
    refine v_callVv (pc := 24) (As := [.ref (gA g 27), .int 0]) F cl_X11_403 dX11_poorest_24 (kX11_pack km_27.1 km_27.2 e7) km_0.1 km_0.2 rc_10 rfl rfl (Nat.le_of_ble_eq_true rfl) (by decide) (Nat.zero_le _) ?_
    refine v_aload_n (pc := 27) (j := 0) F dX11_poorest_27 rfl rfl ?_
    refine v_iload_n (pc := 28) (j := 1) F dX11_poorest_28 rfl rfl ?_
    obtain ⟨r8, e9, hf⟩ := bnd_some hf
    refine v_callVv (pc := 29) (As := [.int a1]) F cl_X11_415 dX11_poorest_29 (kX11_goOn e9) km_0.1 km_0.2 rc_10 rfl rfl (Nat.le_of_ble_eq_true rfl) (by decide) (Nat.zero_le _) ?_
    refine v_iconst (pc := 32) (v := (-1)) F dX11_poorest_32 ic_m1 ?_
    refine v_istore_n (pc := 33) (lv' := [(0, .ref (gA g 0)), (1, .int a1), (2, .int (-1))]) F dX11_poorest_33 rfl (by decide) rfl ?_
    refine v_iconst (pc := 34) (v := 0) F dX11_poorest_34 ic_0 ?_
    refine v_istore_n (pc := 35) (lv' := [(0, .ref (gA g 0)), (1, .int a1), (2, .int (-1)), (3, .int 0)]) F dX11_poorest_35 rfl (by decide) rfl ?_
    obtain ⟨x19, e20, hf⟩ := bnd_some hf
    refine V.sub (lv' := [(0, .ref (gA g 0)), (2, .int (-1)), (3, .int 0)]) [0, 2, 3] rfl ?_
    refine tX11_poorest_36 (s0 := ((-1), 0)) F ?_ e20
    refine v_aload_n (pc := 74) (j := 0) F dX11_poorest_74 rfl rfl ?_
    refine v_aload_n (pc := 75) (j := 0) F dX11_poorest_75 rfl rfl ?_
    refine v_ifl (pc := 76) F fl_X11_109 dX11_poorest_76 km_0.1 km_0.2 fv_10_42 ?_
    refine v_iconst (pc := 79) (v := 0) F dX11_poorest_79 ic_0 ?_
    obtain ⟨r21, e22, hf⟩ := bnd_some hf
    refine v_callVv (pc := 80) (As := [.ref (gA g 27), .int 0]) F cl_X11_430 dX11_poorest_80 (kX11_unpack km_27.1 km_27.2 e22) km_0.1 km_0.2 rc_10 rfl rfl (Nat.le_of_ble_eq_true rfl) (by decide) (Nat.zero_le _) ?_
    refine v_iload_n (pc := 83) (j := 1) F dX11_poorest_83 rfl rfl ?_
    exact v_iret (pc := 84) F hr dX11_poorest_84 (some_fst hf) (some_snd hf) (Nat.zero_le _)
  · have hf := ite_t hf c5
    refine v_aload_n (pc := 12) (j := 0) F dX11_poorest_12 rfl rfl ?_
    refine v_iconst (pc := 13) (v := 1) F dX11_poorest_13 ic_1 ?_
    obtain ⟨r23, e24, hf⟩ := bnd_some hf
    refine v_callVi (pc := 14) (As := [.int 1]) F cl_X11_320 dX11_poorest_14 (kX11_fail e24) km_0.1 km_0.2 rc_10 rfl rfl (Nat.le_of_ble_eq_true rfl) (by decide) (Nat.zero_le _) ?_
    exact v_iret (pc := 17) F hr dX11_poorest_17 (some_fst hf) (some_snd hf) (Nat.zero_le _)
def fX11_restore (h : ST) : Option (Int32 × ST) :=
  bnd (pw h 0 2 0) fun h1 =>
  if (h1 0 54) = 0 then
  some (0, h1)
  else
  bnd (pw h1 0 36 (h1 0 55)) fun h4 =>
    bnd (pw h4 0 37 (h4 0 56)) fun h6 =>
    bnd (fX11_unpack h6 37 31 0) fun r8 =>
    bnd (fX11_be r8 22 1240 38 1240) fun r10 =>
    bnd (fX11_be r10 33 8 39 8) fun r12 =>
    bnd (fX11_be r12 34 8 40 8) fun r14 =>
    bnd (fX11_be r14 35 8 41 8) fun r16 =>
    bnd (fX11_be r16 17 3 42 3) fun r18 =>
    some (1, r18)
set_option maxRecDepth 100000 in
set_option maxHeartbeats 4000000 in
theorem kX11_restore {l : Launch} {g : GE} {B : Nat} {h : ST} {y : Int32 × ST} (hf : fX11_restore h = some y) : CT l yX11_restore cX11_restore 1 (some .boolean) 2 KM 43 g B [.ref (gA g 0)] h (some (.int y.1)) y.2 := by
  refine CT.of pn_X11 (Nat.le_of_ble_eq_true rfl) ?_
  intro p e s m below meth c hr F
  have F : Fx p s m _ meth c cX11_restore 1 "DustParishModel" 43 g B := F
  refine V_lv (lv' := [(0, .ref (gA g 0))]) rfl ?_
  unfold fX11_restore at hf
  refine v_aload_n (pc := 0) (j := 0) F dX11_restore_0 rfl rfl ?_
  refine v_iconst (pc := 1) (v := 0) F dX11_restore_1 ic_0 ?_
  obtain ⟨h1, e2, hf⟩ := bnd_some hf
  refine v_pfl (pc := 2) F fl_X11_157 pl_10_2 dX11_restore_2 km_0.1 km_0.2 fv_10_2 rfl rfl e2 ?_
  refine v_aload_n (pc := 5) (j := 0) F dX11_restore_5 rfl rfl ?_
  refine v_ifl (pc := 6) F fl_X11_347 dX11_restore_6 km_0.1 km_0.2 fv_10_54 ?_
  refine v_if_ne (pc := 9) (tgt := 14) F dX11_restore_9 (by decide) (fun c3 => ?_) (fun c3 => ?_)
  · have hf := ite_f hf c3
    refine v_aload_n (pc := 14) (j := 0) F dX11_restore_14 rfl rfl ?_
    refine v_aload_n (pc := 15) (j := 0) F dX11_restore_15 rfl rfl ?_
    refine v_ifl (pc := 16) F fl_X11_489 dX11_restore_16 km_0.1 km_0.2 fv_10_55 ?_
    obtain ⟨h4, e5, hf⟩ := bnd_some hf
    refine v_pfl (pc := 19) F fl_X11_341 pl_10_36 dX11_restore_19 km_0.1 km_0.2 fv_10_36 rfl rfl e5 ?_
    refine v_aload_n (pc := 22) (j := 0) F dX11_restore_22 rfl rfl ?_
    refine v_aload_n (pc := 23) (j := 0) F dX11_restore_23 rfl rfl ?_
    refine v_ifl (pc := 24) F fl_X11_492 dX11_restore_24 km_0.1 km_0.2 fv_10_56 ?_
    obtain ⟨h6, e7, hf⟩ := bnd_some hf
    refine v_pfl (pc := 27) F fl_X11_344 pl_10_37 dX11_restore_27 km_0.1 km_0.2 fv_10_37 rfl rfl e7 ?_
    refine v_aload_n (pc := 30) (j := 0) F dX11_restore_30 rfl rfl ?_
    refine v_aload_n (pc := 31) (j := 0) F dX11_restore_31 rfl rfl ?_
    refine v_ifl (pc := 32) F fl_X11_139 dX11_restore_32 km_0.1 km_0.2 fv_10_57 ?_
    refine v_iconst (pc := 35) (v := 0) F dX11_restore_35 ic_0 ?_
    obtain ⟨r8, e9, hf⟩ := bnd_some hf
    refine v_callVv (pc := 36) (As := [.ref (gA g 37), .int 0]) F cl_X11_430 dX11_restore_36 (kX11_unpack km_37.1 km_37.2 e9) km_0.1 km_0.2 rc_10 rfl rfl (Nat.le_of_ble_eq_true rfl) (by decide) (Nat.zero_le _) ?_
    refine v_aload_n (pc := 39) (j := 0) F dX11_restore_39 rfl rfl ?_
    refine v_ifl (pc := 40) F fl_X11_94 dX11_restore_40 km_0.1 km_0.2 fv_10_32 ?_
    refine v_aload_n (pc := 43) (j := 0) F dX11_restore_43 rfl rfl ?_
    refine v_ifl (pc := 44) F fl_X11_142 dX11_restore_44 km_0.1 km_0.2 fv_10_58 ?_
    obtain ⟨r10, e11, hf⟩ := bnd_some hf
    refine v_callSv (pc := 47) (As := [.ref (gA g 22), .ref (gA g 38)]) F cl_X11_495 dX11_restore_47 (kX11_be km_22.1 km_22.2 km_38.1 km_38.2 e11) rfl rfl (Nat.le_of_ble_eq_true rfl) (by decide) (Nat.zero_le _) ?_
    refine v_aload_n (pc := 50) (j := 0) F dX11_restore_50 rfl rfl ?_
    refine v_ifl (pc := 51) F fl_X11_127 dX11_restore_51 km_0.1 km_0.2 fv_10_49 ?_
    refine v_aload_n (pc := 54) (j := 0) F dX11_restore_54 rfl rfl ?_
    refine v_ifl (pc := 55) F fl_X11_145 dX11_restore_55 km_0.1 km_0.2 fv_10_59 ?_
    obtain ⟨r12, e13, hf⟩ := bnd_some hf
    refine v_callSv (pc := 58) (As := [.ref (gA g 33), .ref (gA g 39)]) F cl_X11_495 dX11_restore_58 (kX11_be km_33.1 km_33.2 km_39.1 km_39.2 e13) rfl rfl (Nat.le_of_ble_eq_true rfl) (by decide) (Nat.zero_le _) ?_
    refine v_aload_n (pc := 61) (j := 0) F dX11_restore_61 rfl rfl ?_
    refine v_ifl (pc := 62) F fl_X11_130 dX11_restore_62 km_0.1 km_0.2 fv_10_50 ?_
    refine v_aload_n (pc := 65) (j := 0) F dX11_restore_65 rfl rfl ?_
    refine v_ifl (pc := 66) F fl_X11_148 dX11_restore_66 km_0.1 km_0.2 fv_10_60 ?_
    obtain ⟨r14, e15, hf⟩ := bnd_some hf
    refine v_callSv (pc := 69) (As := [.ref (gA g 34), .ref (gA g 40)]) F cl_X11_495 dX11_restore_69 (kX11_be km_34.1 km_34.2 km_40.1 km_40.2 e15) rfl rfl (Nat.le_of_ble_eq_true rfl) (by decide) (Nat.zero_le _) ?_
    refine v_aload_n (pc := 72) (j := 0) F dX11_restore_72 rfl rfl ?_
    refine v_ifl (pc := 73) F fl_X11_133 dX11_restore_73 km_0.1 km_0.2 fv_10_51 ?_
    refine v_aload_n (pc := 76) (j := 0) F dX11_restore_76 rfl rfl ?_
    refine v_ifl (pc := 77) F fl_X11_151 dX11_restore_77 km_0.1 km_0.2 fv_10_61 ?_
    obtain ⟨r16, e17, hf⟩ := bnd_some hf
    refine v_callSv (pc := 80) (As := [.ref (gA g 35), .ref (gA g 41)]) F cl_X11_495 dX11_restore_80 (kX11_be km_35.1 km_35.2 km_41.1 km_41.2 e17) rfl rfl (Nat.le_of_ble_eq_true rfl) (by decide) (Nat.zero_le _) ?_
    refine v_aload_n (pc := 83) (j := 0) F dX11_restore_83 rfl rfl ?_
    refine v_ifl (pc := 84) F fl_X11_77 dX11_restore_84 km_0.1 km_0.2 fv_10_17 ?_
    refine v_aload_n (pc := 87) (j := 0) F dX11_restore_87 rfl rfl ?_
    refine v_ifl (pc := 88) F fl_X11_154 dX11_restore_88 km_0.1 km_0.2 fv_10_62 ?_
    obtain ⟨r18, e19, hf⟩ := bnd_some hf
    refine v_callSv (pc := 91) (As := [.ref (gA g 17), .ref (gA g 42)]) F cl_X11_495 dX11_restore_91 (kX11_be km_17.1 km_17.2 km_42.1 km_42.2 e19) rfl rfl (Nat.le_of_ble_eq_true rfl) (by decide) (Nat.zero_le _) ?_
    refine v_iconst (pc := 94) (v := 1) F dX11_restore_94 ic_1 ?_
    exact v_zret (pc := 95) F hr dX11_restore_95 rfl (some_fst hf) (some_snd hf) (Nat.zero_le _)
  · have hf := ite_t hf c3
    refine v_iconst (pc := 12) (v := 0) F dX11_restore_12 ic_0 ?_
    exact v_zret (pc := 13) F hr dX11_restore_13 rfl (some_fst hf) (some_snd hf) (Nat.zero_le _)
def fX11_riches_58 (h : ST) (l1 : Int32) (l3 : Int32) (q0 : Int32) (q1 : Int32) : Option ((Int32 × Int32) ⊕ Int32) :=
  some (.inl (q0 + q1, l3 + 1))
def fX11_riches_27 (h : ST) (l1 : Int32) (s1 : (Int32 × Int32)) : Option ((Int32 × Int32) ⊕ Int32) :=
  bnd (rd 14 (h 3) 0) fun v6 =>
  if v6 ≤ s1.2 then
  some (.inr s1.1)
  else
  bnd (rd 18 (h 5) s1.2) fun v9 =>
    if v9 = l1 then
    bnd (rd 9 (h 19) s1.2) fun v12 =>
      fX11_riches_58 h l1 s1.2 s1.1 v12
    else
    fX11_riches_58 h l1 s1.2 s1.1 0
def fX11_riches (h : ST) (a1 : Int32) : Option (Int32 × ST) :=
  bnd (pw h 0 2 0) fun h1 =>
  bnd (fX11_isIn h1 a1.toInt64 (0 : Int64) (5 : Int64)) fun r3 =>
  if r3 = 0 then
  bnd (fX11_fail h1 1) fun r16 =>
    some (r16.1, r16.2)
  else
  bnd (lp FU (fX11_riches_27 h1 a1) (0, 0)) fun x14 =>
    some (x14, h1)
set_option maxRecDepth 100000 in
set_option maxHeartbeats 4000000 in
theorem tX11_riches_58 {p : Program} {l : Launch} {e : Env} {s : State} {m : MethodId} {args : Array Value} {below : List Frame} {meth : Method} {c : Code} {g : GE} {B : Nat} {h : ST}  {l1 : Int32} {l3 : Int32} {q0 : Int32} {q1 : Int32} (F : Fx p s m args meth c cX11_riches 4 "DustParishModel" 43 g B)
    {Q : State → Prop} {y : (Int32 × Int32) ⊕ Int32} (hk : ∀ v : (Int32 × Int32), y = Sum.inl v → V p l e 2 0 s m args below meth c Q KM 43 g B 4 0 h 27 [(0, .ref (gA g 0)), (1, .int l1), (2, .int v.1), (3, .int v.2)] []) (hx0 : ∀ v : Int32, y = Sum.inr v → V p l e 2 0 s m args below meth c Q KM 43 g B 4 0 h 66 [(2, .int v)] []) (hf : fX11_riches_58 h l1 l3 q0 q1 = some y) : V p l e 2 0 s m args below meth c Q KM 43 g B 4 0 h 58 [(0, .ref (gA g 0)), (1, .int l1), (3, .int l3)] [.int q1, .int q0] := by
  unfold fX11_riches_58 at hf
  refine v_iadd (pc := 58) F dX11_riches_58 ?_
  refine v_istore_n (pc := 59) (lv' := [(0, .ref (gA g 0)), (1, .int l1), (2, .int (q0 + q1)), (3, .int l3)]) F dX11_riches_59 rfl (by decide) rfl ?_
  refine v_iinc (pc := 60) (j := 3) (v := l3 + 1) (lv' := [(0, .ref (gA g 0)), (1, .int l1), (2, .int (q0 + q1)), (3, .int (l3 + 1))]) F dX11_riches_60 rfl (congrArg (fun z => l3 + z) ic_1) (by decide) rfl ?_
  refine v_goto (pc := 63) (tgt := 27) F dX11_riches_63 (by decide) ?_
  exact hk (q0 + q1, l3 + 1) (Option.some.inj hf).symm
set_option maxRecDepth 100000 in
set_option maxHeartbeats 4000000 in
theorem tX11_riches_27 {p : Program} {l : Launch} {e : Env} {s : State} {m : MethodId} {args : Array Value} {below : List Frame} {meth : Method} {c : Code} {g : GE} {B : Nat} {h : ST}  {l1 : Int32} {Q : State → Prop} {x : Int32} {nf : Nat} {s0 : (Int32 × Int32)} (F : Fx p s m args meth c cX11_riches 4 "DustParishModel" 43 g B) (hX0 : V p l e 2 0 s m args below meth c Q KM 43 g B 4 0 h 66 [(2, .int x)] []) (hl : lp nf (fX11_riches_27 h l1) s0 = some x) : V p l e 2 0 s m args below meth c Q KM 43 g B 4 0 h 27 [(0, .ref (gA g 0)), (1, .int l1), (2, .int s0.1), (3, .int s0.2)] [] := by
  refine lp_ind (P := fun s0 => V p l e 2 0 s m args below meth c Q KM 43 g B 4 0 h 27 [(0, .ref (gA g 0)), (1, .int l1), (2, .int s0.1), (3, .int s0.2)] []) ?_ nf s0 hl
  intro s1 y hf hk hx
  have hx0 : ∀ v : Int32, y = Sum.inr v → V p l e 2 0 s m args below meth c Q KM 43 g B 4 0 h 66 [(2, .int v)] [] := fun v e9 => by rw [hx v e9]; exact hX0
  unfold fX11_riches_27 at hf
  refine v_iload_n (pc := 27) (j := 3) F dX11_riches_27 rfl rfl ?_
  refine v_aload_n (pc := 28) (j := 0) F dX11_riches_28 rfl rfl ?_
  refine v_ifl (pc := 29) F fl_X11_36 dX11_riches_29 km_0.1 km_0.2 fv_10_3 ?_
  refine v_iconst (pc := 32) (v := 0) F dX11_riches_32 ic_0 ?_
  obtain ⟨v6, e7, hf⟩ := bnd_some hf
  refine v_iald (pc := 33) F dX11_riches_33 km_3.1 km_3.2 e7 ?_
  refine v_icmp_ge (pc := 34) (tgt := 66) F dX11_riches_34 (by decide) (fun c8 => ?_) (fun c8 => ?_)
  · have hf := ite_t hf c8
    refine V.sub (lv' := [(2, .int s1.1)]) [2] rfl ?_
    exact hx0 s1.1 (Option.some.inj hf).symm
  · have hf := ite_f hf c8
    refine v_iload_n (pc := 37) (j := 2) F dX11_riches_37 rfl rfl ?_
    refine v_aload_n (pc := 38) (j := 0) F dX11_riches_38 rfl rfl ?_
    refine v_ifl (pc := 39) F fl_X11_42 dX11_riches_39 km_0.1 km_0.2 fv_10_5 ?_
    refine v_iload_n (pc := 42) (j := 3) F dX11_riches_42 rfl rfl ?_
    obtain ⟨v9, e10, hf⟩ := bnd_some hf
    refine v_iald (pc := 43) F dX11_riches_43 km_5.1 km_5.2 e10 ?_
    refine v_iload_n (pc := 44) (j := 1) F dX11_riches_44 rfl rfl ?_
    refine v_icmp_ne (pc := 45) (tgt := 57) F dX11_riches_45 (by decide) (fun c11 => ?_) (fun c11 => ?_)
    · have hf := ite_f hf c11
      refine v_iconst (pc := 57) (v := 0) F dX11_riches_57 ic_0 ?_
      refine V.sub (lv' := [(0, .ref (gA g 0)), (1, .int l1), (3, .int s1.2)]) [0, 1, 3] rfl ?_
      exact tX11_riches_58 F hk hx0 hf
    · have hf := ite_t hf c11
      refine v_aload_n (pc := 48) (j := 0) F dX11_riches_48 rfl rfl ?_
      refine v_ifl (pc := 49) F fl_X11_87 dX11_riches_49 km_0.1 km_0.2 fv_10_29 ?_
      refine v_iload_n (pc := 52) (j := 3) F dX11_riches_52 rfl rfl ?_
      obtain ⟨v12, e13, hf⟩ := bnd_some hf
      refine v_iald (pc := 53) F dX11_riches_53 km_19.1 km_19.2 e13 ?_
      refine v_goto (pc := 54) (tgt := 58) F dX11_riches_54 (by decide) ?_
      refine V.sub (lv' := [(0, .ref (gA g 0)), (1, .int l1), (3, .int s1.2)]) [0, 1, 3] rfl ?_
      exact tX11_riches_58 F hk hx0 hf
set_option maxRecDepth 100000 in
set_option maxHeartbeats 4000000 in
theorem kX11_riches {l : Launch} {g : GE} {B : Nat} {h : ST} {a1 : Int32} {y : Int32 × ST} (hf : fX11_riches h a1 = some y) : CT l yX11_riches cX11_riches 4 (some .int) 2 KM 43 g B [.ref (gA g 0), .int a1] h (some (.int y.1)) y.2 := by
  refine CT.of pn_X11 (Nat.le_of_ble_eq_true rfl) ?_
  intro p e s m below meth c hr F
  have F : Fx p s m _ meth c cX11_riches 4 "DustParishModel" 43 g B := F
  refine V_lv (lv' := [(0, .ref (gA g 0)), (1, .int a1)]) rfl ?_
  unfold fX11_riches at hf
  refine v_aload_n (pc := 0) (j := 0) F dX11_riches_0 rfl rfl ?_
  refine v_iconst (pc := 1) (v := 0) F dX11_riches_1 ic_0 ?_
  obtain ⟨h1, e2, hf⟩ := bnd_some hf
  refine v_pfl (pc := 2) F fl_X11_157 pl_10_2 dX11_riches_2 km_0.1 km_0.2 fv_10_2 rfl rfl e2 ?_
  refine v_iload_n (pc := 5) (j := 1) F dX11_riches_5 rfl rfl ?_
  refine v_i2l (pc := 6) F dX11_riches_6 rfl ?_
  refine v_lconst (pc := 7) (v := 0) F dX11_riches_7 rfl ?_
  refine v_ldc2 (pc := 8) F tw_1850 dX11_riches_8 ?_
  obtain ⟨r3, e4, hf⟩ := bnd_some hf
  refine v_callSi (pc := 11) (As := [.long a1.toInt64, .long (0 : Int64), .long (5 : Int64)]) F cl_X11_160 dX11_riches_11 (kX11_isIn e4) rfl rfl (Nat.le_of_ble_eq_true rfl) (by decide) (Nat.zero_le _) ?_
  refine v_if_ne (pc := 14) (tgt := 23) F dX11_riches_14 (by decide) (fun c5 => ?_) (fun c5 => ?_)
  · have hf := ite_f hf c5
    refine v_iconst (pc := 23) (v := 0) F dX11_riches_23 ic_0 ?_
    refine v_istore_n (pc := 24) (lv' := [(0, .ref (gA g 0)), (1, .int a1), (2, .int 0)]) F dX11_riches_24 rfl (by decide) rfl ?_
    refine v_iconst (pc := 25) (v := 0) F dX11_riches_25 ic_0 ?_
    refine v_istore_n (pc := 26) (lv' := [(0, .ref (gA g 0)), (1, .int a1), (2, .int 0), (3, .int 0)]) F dX11_riches_26 rfl (by decide) rfl ?_
    obtain ⟨x14, e15, hf⟩ := bnd_some hf
    refine tX11_riches_27 (s0 := (0, 0)) F ?_ e15
    refine v_iload_n (pc := 66) (j := 0) F dX11_riches_66 rfl rfl ?_
    exact v_iret (pc := 67) F hr dX11_riches_67 (some_fst hf) (some_snd hf) (Nat.zero_le _)
  · have hf := ite_t hf c5
    refine v_aload_n (pc := 17) (j := 0) F dX11_riches_17 rfl rfl ?_
    refine v_iconst (pc := 18) (v := 1) F dX11_riches_18 ic_1 ?_
    obtain ⟨r16, e17, hf⟩ := bnd_some hf
    refine v_callVi (pc := 19) (As := [.int 1]) F cl_X11_320 dX11_riches_19 (kX11_fail e17) km_0.1 km_0.2 rc_10 rfl rfl (Nat.le_of_ble_eq_true rfl) (by decide) (Nat.zero_le _) ?_
    exact v_iret (pc := 22) F hr dX11_riches_22 (some_fst hf) (some_snd hf) (Nat.zero_le _)
