def fX11_sayBlow_109 (h : ST) (l1 : Int32) (l2 : Int32) (l3 : Int32) : Option (ST) :=
  bnd (rd 10 (h 11) l1) fun v16 =>
  bnd (wr 80 h 12 ((8 * l1) + v16) l2) fun h18 =>
  bnd (wr 80 h18 13 ((8 * l1) + v16) l3) fun h20 =>
  bnd (fX11_readNumber h20 1 9) fun r22 =>
  bnd (wr 80 r22.2 14 ((8 * l1) + v16) r22.1) fun h24 =>
  bnd (rd 10 (h24 11) l1) fun v26 =>
  bnd (wr 10 h24 11 l1 (v26 + 1)) fun h28 =>
  some h28
def fX11_sayBlow_98 (h : ST) (l1 : Int32) (l2 : Int32) (l3 : Int32) : Option (ST) :=
  if (h 0 26) = 0 then
  bnd (fX11_stepOn h) fun r30 =>
    fX11_sayBlow_109 r30 l1 l2 l3
  else
  fX11_sayBlow_109 h l1 l2 l3
def fX11_sayBlow_54 (h : ST) (l1 : Int32) : Option (ST) :=
  if (h 0 26) = 0 then
  bnd (fX11_stepOn h) fun r8 =>
    bnd (fX11_readRoom r8) fun r10 =>
    bnd (fX11_roomNow r10.2) fun r12 =>
    if (r12.2 0 26) = 0 then
    bnd (fX11_isDoor r12.2 r10.1 r12.1) fun r32 =>
      if r32 = 0 then
      bnd (fX11_wrong r12.2 6) fun r35 =>
        fX11_sayBlow_98 r35 l1 r10.1 r12.1
      else
      fX11_sayBlow_98 r12.2 l1 r10.1 r12.1
    else
    fX11_sayBlow_98 r12.2 l1 r10.1 r12.1
  else
  some h
def fX11_sayBlow_15 (h : ST)  : Option (ST) :=
  bnd (rd 14 (h 3) 9) fun v4 =>
  if (h 0 26) = 0 then
  bnd (rd 10 (h 11) ((5 + (if (1 : Int32) < v4 then v4 else 1)) - 1)) fun v37 =>
    if v37 = 8 then
    bnd (fX11_wrong h 2) fun r40 =>
      fX11_sayBlow_54 r40 ((5 + (if (1 : Int32) < v4 then v4 else 1)) - 1)
    else
    fX11_sayBlow_54 h ((5 + (if (1 : Int32) < v4 then v4 else 1)) - 1)
  else
  fX11_sayBlow_54 h ((5 + (if (1 : Int32) < v4 then v4 else 1)) - 1)
def fX11_sayBlow (h : ST) : Option (ST) :=
  bnd (rd 14 (h 3) 9) fun v1 =>
  if v1 = 0 then
  bnd (fX11_wrong h 1) fun r42 =>
    fX11_sayBlow_15 r42 
  else
  fX11_sayBlow_15 h 
set_option maxRecDepth 100000 in
set_option maxHeartbeats 4000000 in
theorem tX11_sayBlow_109 {p : Program} {l : Launch} {e : Env} {s : State} {m : MethodId} {args : Array Value} {below : List Frame} {meth : Method} {c : Code} {g : GE} {B : Nat} {h : ST}  {l1 : Int32} {l2 : Int32} {l3 : Int32} (F : Fx p s m args meth c cX11_sayBlow 5 "DustParishModel" 43 g B)
    {y : ST} (hr : meth.sig.returnType = none) (hf : fX11_sayBlow_109 h l1 l2 l3 = some y) : V p l e 5 0 s m args below meth c (MQ below (QO KM 43 g none y) args s 0 (6 * 0) (WA 43 g)) KM 43 g B 5 0 h 109 [(0, .ref (gA g 0)), (1, .int l1), (2, .int l2), (3, .int l3)] [] := by
  unfold fX11_sayBlow_109 at hf
  refine v_bipush (pc := 109) (v := 8) F dX11_sayBlow_109 bp_8 ?_
  refine v_iload_n (pc := 111) (j := 1) F dX11_sayBlow_111 rfl rfl ?_
  refine v_imul (pc := 112) F dX11_sayBlow_112 ?_
  refine v_aload_n (pc := 113) (j := 0) F dX11_sayBlow_113 rfl rfl ?_
  refine v_ifl (pc := 114) F fl_X11_59 dX11_sayBlow_114 km_0.1 km_0.2 fv_10_11 ?_
  refine v_iload_n (pc := 117) (j := 1) F dX11_sayBlow_117 rfl rfl ?_
  obtain ⟨v16, e17, hf⟩ := bnd_some hf
  refine v_iald (pc := 118) F dX11_sayBlow_118 km_11.1 km_11.2 e17 ?_
  refine v_iadd (pc := 119) F dX11_sayBlow_119 ?_
  refine v_istore (pc := 120) (lv' := [(0, .ref (gA g 0)), (1, .int l1), (2, .int l2), (3, .int l3), (4, .int ((8 * l1) + v16))]) F dX11_sayBlow_120 (by decide) rfl ?_
  refine v_aload_n (pc := 122) (j := 0) F dX11_sayBlow_122 rfl rfl ?_
  refine v_ifl (pc := 123) F fl_X11_62 dX11_sayBlow_123 km_0.1 km_0.2 fv_10_12 ?_
  refine v_iload (pc := 126) (j := 4) F dX11_sayBlow_126 rfl ?_
  refine v_iload_n (pc := 128) (j := 2) F dX11_sayBlow_128 rfl rfl ?_
  obtain ⟨h18, e19, hf⟩ := bnd_some hf
  refine v_iast (pc := 129) F dX11_sayBlow_129 km_12.1 km_12.2 e19 ?_
  refine v_aload_n (pc := 130) (j := 0) F dX11_sayBlow_130 rfl rfl ?_
  refine v_ifl (pc := 131) F fl_X11_65 dX11_sayBlow_131 km_0.1 km_0.2 fv_10_13 ?_
  refine v_iload (pc := 134) (j := 4) F dX11_sayBlow_134 rfl ?_
  refine v_iload_n (pc := 136) (j := 3) F dX11_sayBlow_136 rfl rfl ?_
  obtain ⟨h20, e21, hf⟩ := bnd_some hf
  refine v_iast (pc := 137) F dX11_sayBlow_137 km_13.1 km_13.2 e21 ?_
  refine v_aload_n (pc := 138) (j := 0) F dX11_sayBlow_138 rfl rfl ?_
  refine v_ifl (pc := 139) F fl_X11_68 dX11_sayBlow_139 km_0.1 km_0.2 fv_10_14 ?_
  refine v_iload (pc := 142) (j := 4) F dX11_sayBlow_142 rfl ?_
  refine v_aload_n (pc := 144) (j := 0) F dX11_sayBlow_144 rfl rfl ?_
  refine v_iconst (pc := 145) (v := 1) F dX11_sayBlow_145 ic_1 ?_
  refine v_bipush (pc := 146) (v := 9) F dX11_sayBlow_146 bp_9 ?_
  obtain ⟨r22, e23, hf⟩ := bnd_some hf
  refine v_callVi (pc := 148) (As := [.int 1, .int 9]) F cl_X11_242 dX11_sayBlow_148 (kX11_readNumber e23) km_0.1 km_0.2 rc_10 rfl rfl (Nat.le_of_ble_eq_true rfl) (by decide) (Nat.zero_le _) ?_
  obtain ⟨h24, e25, hf⟩ := bnd_some hf
  refine v_iast (pc := 151) F dX11_sayBlow_151 km_14.1 km_14.2 e25 ?_
  refine v_aload_n (pc := 152) (j := 0) F dX11_sayBlow_152 rfl rfl ?_
  refine v_ifl (pc := 153) F fl_X11_59 dX11_sayBlow_153 km_0.1 km_0.2 fv_10_11 ?_
  refine v_iload_n (pc := 156) (j := 1) F dX11_sayBlow_156 rfl rfl ?_
  refine v_dup2_11 (pc := 157) F dX11_sayBlow_157 rfl rfl ?_
  obtain ⟨v26, e27, hf⟩ := bnd_some hf
  refine v_iald (pc := 158) F dX11_sayBlow_158 km_11.1 km_11.2 e27 ?_
  refine v_iconst (pc := 159) (v := 1) F dX11_sayBlow_159 ic_1 ?_
  refine v_iadd (pc := 160) F dX11_sayBlow_160 ?_
  obtain ⟨h28, e29, hf⟩ := bnd_some hf
  refine v_iast (pc := 161) F dX11_sayBlow_161 km_11.1 km_11.2 e29 ?_
  exact v_vret (pc := 162) F hr dX11_sayBlow_162 (Option.some.inj hf) (Nat.zero_le _)
set_option maxRecDepth 100000 in
set_option maxHeartbeats 4000000 in
theorem tX11_sayBlow_98 {p : Program} {l : Launch} {e : Env} {s : State} {m : MethodId} {args : Array Value} {below : List Frame} {meth : Method} {c : Code} {g : GE} {B : Nat} {h : ST}  {l1 : Int32} {l2 : Int32} {l3 : Int32} (F : Fx p s m args meth c cX11_sayBlow 5 "DustParishModel" 43 g B)
    {y : ST} (hr : meth.sig.returnType = none) (hf : fX11_sayBlow_98 h l1 l2 l3 = some y) : V p l e 5 0 s m args below meth c (MQ below (QO KM 43 g none y) args s 0 (6 * 0) (WA 43 g)) KM 43 g B 5 0 h 98 [(0, .ref (gA g 0)), (1, .int l1), (2, .int l2), (3, .int l3)] [] := by
  unfold fX11_sayBlow_98 at hf
  refine v_aload_n (pc := 98) (j := 0) F dX11_sayBlow_98 rfl rfl ?_
  refine v_ifl (pc := 99) F fl_X11_208 dX11_sayBlow_99 km_0.1 km_0.2 fv_10_26 ?_
  refine v_if_ne (pc := 102) (tgt := 109) F dX11_sayBlow_102 (by decide) (fun c15 => ?_) (fun c15 => ?_)
  · have hf := ite_f hf c15
    exact tX11_sayBlow_109 F hr hf
  · have hf := ite_t hf c15
    refine v_aload_n (pc := 105) (j := 0) F dX11_sayBlow_105 rfl rfl ?_
    obtain ⟨r30, e31, hf⟩ := bnd_some hf
    refine v_callVv (pc := 106) (As := []) F cl_X11_233 dX11_sayBlow_106 (kX11_stepOn e31) km_0.1 km_0.2 rc_10 rfl rfl (Nat.le_of_ble_eq_true rfl) (by decide) (Nat.zero_le _) ?_
    exact tX11_sayBlow_109 F hr hf
set_option maxRecDepth 100000 in
set_option maxHeartbeats 4000000 in
theorem tX11_sayBlow_54 {p : Program} {l : Launch} {e : Env} {s : State} {m : MethodId} {args : Array Value} {below : List Frame} {meth : Method} {c : Code} {g : GE} {B : Nat} {h : ST}  {l1 : Int32} (F : Fx p s m args meth c cX11_sayBlow 5 "DustParishModel" 43 g B)
    {y : ST} (hr : meth.sig.returnType = none) (hf : fX11_sayBlow_54 h l1 = some y) : V p l e 5 0 s m args below meth c (MQ below (QO KM 43 g none y) args s 0 (6 * 0) (WA 43 g)) KM 43 g B 5 0 h 54 [(0, .ref (gA g 0)), (1, .int l1)] [] := by
  unfold fX11_sayBlow_54 at hf
  refine v_aload_n (pc := 54) (j := 0) F dX11_sayBlow_54 rfl rfl ?_
  refine v_ifl (pc := 55) F fl_X11_208 dX11_sayBlow_55 km_0.1 km_0.2 fv_10_26 ?_
  refine v_if_eq (pc := 58) (tgt := 62) F dX11_sayBlow_58 (by decide) (fun c7 => ?_) (fun c7 => ?_)
  · have hf := ite_t hf c7
    refine v_aload_n (pc := 62) (j := 0) F dX11_sayBlow_62 rfl rfl ?_
    obtain ⟨r8, e9, hf⟩ := bnd_some hf
    refine v_callVv (pc := 63) (As := []) F cl_X11_233 dX11_sayBlow_63 (kX11_stepOn e9) km_0.1 km_0.2 rc_10 rfl rfl (Nat.le_of_ble_eq_true rfl) (by decide) (Nat.zero_le _) ?_
    refine v_aload_n (pc := 66) (j := 0) F dX11_sayBlow_66 rfl rfl ?_
    obtain ⟨r10, e11, hf⟩ := bnd_some hf
    refine v_callVi (pc := 67) (As := []) F cl_X11_283 dX11_sayBlow_67 (kX11_readRoom e11) km_0.1 km_0.2 rc_10 rfl rfl (Nat.le_of_ble_eq_true rfl) (by decide) (Nat.zero_le _) ?_
    refine v_istore_n (pc := 70) (lv' := [(0, .ref (gA g 0)), (1, .int l1), (2, .int r10.1)]) F dX11_sayBlow_70 rfl (by decide) rfl ?_
    refine v_aload_n (pc := 71) (j := 0) F dX11_sayBlow_71 rfl rfl ?_
    obtain ⟨r12, e13, hf⟩ := bnd_some hf
    refine v_callVi (pc := 72) (As := []) F cl_X11_239 dX11_sayBlow_72 (kX11_roomNow e13) km_0.1 km_0.2 rc_10 rfl rfl (Nat.le_of_ble_eq_true rfl) (by decide) (Nat.zero_le _) ?_
    refine v_istore_n (pc := 75) (lv' := [(0, .ref (gA g 0)), (1, .int l1), (2, .int r10.1), (3, .int r12.1)]) F dX11_sayBlow_75 rfl (by decide) rfl ?_
    refine v_aload_n (pc := 76) (j := 0) F dX11_sayBlow_76 rfl rfl ?_
    refine v_ifl (pc := 77) F fl_X11_208 dX11_sayBlow_77 km_0.1 km_0.2 fv_10_26 ?_
    refine v_if_ne (pc := 80) (tgt := 98) F dX11_sayBlow_80 (by decide) (fun c14 => ?_) (fun c14 => ?_)
    · have hf := ite_f hf c14
      exact tX11_sayBlow_98 F hr hf
    · have hf := ite_t hf c14
      refine v_aload_n (pc := 83) (j := 0) F dX11_sayBlow_83 rfl rfl ?_
      refine v_iload_n (pc := 84) (j := 2) F dX11_sayBlow_84 rfl rfl ?_
      refine v_iload_n (pc := 85) (j := 3) F dX11_sayBlow_85 rfl rfl ?_
      obtain ⟨r32, e33, hf⟩ := bnd_some hf
      refine v_callVi (pc := 86) (As := [.int r10.1, .int r12.1]) F cl_X11_286 dX11_sayBlow_86 (kX11_isDoor e33) km_0.1 km_0.2 rc_10 rfl rfl (Nat.le_of_ble_eq_true rfl) (by decide) (Nat.zero_le _) ?_
      refine v_if_ne (pc := 89) (tgt := 98) F dX11_sayBlow_89 (by decide) (fun c34 => ?_) (fun c34 => ?_)
      · have hf := ite_f hf c34
        exact tX11_sayBlow_98 F hr hf
      · have hf := ite_t hf c34
        refine v_aload_n (pc := 92) (j := 0) F dX11_sayBlow_92 rfl rfl ?_
        refine v_bipush (pc := 93) (v := 6) F dX11_sayBlow_93 bp_6 ?_
        obtain ⟨r35, e36, hf⟩ := bnd_some hf
        refine v_callVv (pc := 95) (As := [.int 6]) F cl_X11_229 dX11_sayBlow_95 (kX11_wrong e36) km_0.1 km_0.2 rc_10 rfl rfl (Nat.le_of_ble_eq_true rfl) (by decide) (Nat.zero_le _) ?_
        exact tX11_sayBlow_98 F hr hf
  · have hf := ite_f hf c7
    exact v_vret (pc := 61) F hr dX11_sayBlow_61 (Option.some.inj hf) (Nat.zero_le _)
set_option maxRecDepth 100000 in
set_option maxHeartbeats 4000000 in
theorem tX11_sayBlow_15 {p : Program} {l : Launch} {e : Env} {s : State} {m : MethodId} {args : Array Value} {below : List Frame} {meth : Method} {c : Code} {g : GE} {B : Nat} {h : ST}  (F : Fx p s m args meth c cX11_sayBlow 5 "DustParishModel" 43 g B)
    {y : ST} (hr : meth.sig.returnType = none) (hf : fX11_sayBlow_15 h  = some y) : V p l e 5 0 s m args below meth c (MQ below (QO KM 43 g none y) args s 0 (6 * 0) (WA 43 g)) KM 43 g B 5 0 h 15 [(0, .ref (gA g 0))] [] := by
  unfold fX11_sayBlow_15 at hf
  refine v_iconst (pc := 15) (v := 5) F dX11_sayBlow_15 ic_5 ?_
  refine v_iconst (pc := 16) (v := 1) F dX11_sayBlow_16 ic_1 ?_
  refine v_aload_n (pc := 17) (j := 0) F dX11_sayBlow_17 rfl rfl ?_
  refine v_ifl (pc := 18) F fl_X11_36 dX11_sayBlow_18 km_0.1 km_0.2 fv_10_3 ?_
  refine v_bipush (pc := 21) (v := 9) F dX11_sayBlow_21 bp_9 ?_
  obtain ⟨v4, e5, hf⟩ := bnd_some hf
  refine v_iald (pc := 23) F dX11_sayBlow_23 km_3.1 km_3.2 e5 ?_
  refine v_mmax (pc := 24) F tw_1602 mmaxW dX11_sayBlow_24 (by decide) (Nat.le_of_ble_eq_true rfl) (Nat.zero_le _) ?_
  refine v_iadd (pc := 27) F dX11_sayBlow_27 ?_
  refine v_iconst (pc := 28) (v := 1) F dX11_sayBlow_28 ic_1 ?_
  refine v_isub (pc := 29) F dX11_sayBlow_29 ?_
  refine v_istore_n (pc := 30) (lv' := [(0, .ref (gA g 0)), (1, .int ((5 + (if (1 : Int32) < v4 then v4 else 1)) - 1))]) F dX11_sayBlow_30 rfl (by decide) rfl ?_
  refine v_aload_n (pc := 31) (j := 0) F dX11_sayBlow_31 rfl rfl ?_
  refine v_ifl (pc := 32) F fl_X11_208 dX11_sayBlow_32 km_0.1 km_0.2 fv_10_26 ?_
  refine v_if_ne (pc := 35) (tgt := 54) F dX11_sayBlow_35 (by decide) (fun c6 => ?_) (fun c6 => ?_)
  · have hf := ite_f hf c6
    exact tX11_sayBlow_54 F hr hf
  · have hf := ite_t hf c6
    refine v_aload_n (pc := 38) (j := 0) F dX11_sayBlow_38 rfl rfl ?_
    refine v_ifl (pc := 39) F fl_X11_59 dX11_sayBlow_39 km_0.1 km_0.2 fv_10_11 ?_
    refine v_iload_n (pc := 42) (j := 1) F dX11_sayBlow_42 rfl rfl ?_
    obtain ⟨v37, e38, hf⟩ := bnd_some hf
    refine v_iald (pc := 43) F dX11_sayBlow_43 km_11.1 km_11.2 e38 ?_
    refine v_bipush (pc := 44) (v := 8) F dX11_sayBlow_44 bp_8 ?_
    refine v_icmp_ne (pc := 46) (tgt := 54) F dX11_sayBlow_46 (by decide) (fun c39 => ?_) (fun c39 => ?_)
    · have hf := ite_f hf c39
      exact tX11_sayBlow_54 F hr hf
    · have hf := ite_t hf c39
      refine v_aload_n (pc := 49) (j := 0) F dX11_sayBlow_49 rfl rfl ?_
      refine v_iconst (pc := 50) (v := 2) F dX11_sayBlow_50 ic_2 ?_
      obtain ⟨r40, e41, hf⟩ := bnd_some hf
      refine v_callVv (pc := 51) (As := [.int 2]) F cl_X11_229 dX11_sayBlow_51 (kX11_wrong e41) km_0.1 km_0.2 rc_10 rfl rfl (Nat.le_of_ble_eq_true rfl) (by decide) (Nat.zero_le _) ?_
      exact tX11_sayBlow_54 F hr hf
set_option maxRecDepth 100000 in
set_option maxHeartbeats 4000000 in
theorem kX11_sayBlow {l : Launch} {g : GE} {B : Nat} {h : ST} {y : ST} (hf : fX11_sayBlow h = some y) : CT l yX11_sayBlow cX11_sayBlow 5 none 5 KM 43 g B [.ref (gA g 0)] h none y := by
  refine CT.of pn_X11 (Nat.le_of_ble_eq_true rfl) ?_
  intro p e s m below meth c hr F
  have F : Fx p s m _ meth c cX11_sayBlow 5 "DustParishModel" 43 g B := F
  refine V_lv (lv' := [(0, .ref (gA g 0))]) rfl ?_
  unfold fX11_sayBlow at hf
  refine v_aload_n (pc := 0) (j := 0) F dX11_sayBlow_0 rfl rfl ?_
  refine v_ifl (pc := 1) F fl_X11_36 dX11_sayBlow_1 km_0.1 km_0.2 fv_10_3 ?_
  refine v_bipush (pc := 4) (v := 9) F dX11_sayBlow_4 bp_9 ?_
  obtain ⟨v1, e2, hf⟩ := bnd_some hf
  refine v_iald (pc := 6) F dX11_sayBlow_6 km_3.1 km_3.2 e2 ?_
  refine v_if_ne (pc := 7) (tgt := 15) F dX11_sayBlow_7 (by decide) (fun c3 => ?_) (fun c3 => ?_)
  · have hf := ite_f hf c3
    exact tX11_sayBlow_15 F hr hf
  · have hf := ite_t hf c3
    refine v_aload_n (pc := 10) (j := 0) F dX11_sayBlow_10 rfl rfl ?_
    refine v_iconst (pc := 11) (v := 1) F dX11_sayBlow_11 ic_1 ?_
    obtain ⟨r42, e43, hf⟩ := bnd_some hf
    refine v_callVv (pc := 12) (As := [.int 1]) F cl_X11_229 dX11_sayBlow_12 (kX11_wrong e43) km_0.1 km_0.2 rc_10 rfl rfl (Nat.le_of_ble_eq_true rfl) (by decide) (Nat.zero_le _) ?_
    exact tX11_sayBlow_15 F hr hf
def fX11_readLine_228 (h : ST) (l1 : Int32) (l2 : Int32) : Option (Int32 × ST) :=
  bnd (fX11_mark h 59) fun r29 =>
  some (l1 ||| l2, r29)
def fX11_readLine_94 (h : ST) (l1 : Int32) (l2 : Int32) : Option (Int32 × ST) :=
  if l2 = 1 then
  bnd (fX11_sayCalendar h) fun r53 =>
    fX11_readLine_228 r53 l1 l2
  else
  if l2 = 2 then
    bnd (fX11_readNumber h 1 30) fun r49 =>
      bnd (wr 14 r49.2 3 11 r49.1) fun h51 =>
      fX11_readLine_228 h51 l1 l2
    else
    if l2 = 4 then
      bnd (fX11_readNumber h 0 999) fun r45 =>
        bnd (wr 14 r45.2 3 12 r45.1) fun h47 =>
        fX11_readLine_228 h47 l1 l2
      else
      bnd (fX11_readExpression 10 h 0) fun r43 =>
        fX11_readLine_228 r43 l1 l2
def fX11_readLine_79 (h : ST) (l1 : Int32) (l2 : Int32) (l3 : Int32) : Option (Int32 × ST) :=
  if l2 ≤ 0 then
  if l3 = (-1) then
    bnd (fX11_is h 4) fun r18 =>
      if r18 = 0 then
      bnd (fX11_is h 5) fun r21 =>
        if r21 = 0 then
        bnd (fX11_is h 6) fun r24 =>
          if r24 = 0 then
          bnd (fX11_wrong h 1) fun r27 =>
            fX11_readLine_228 r27 l1 l2
          else
          bnd (fX11_sayBlow h) fun r31 =>
            fX11_readLine_228 r31 l1 l2
        else
        bnd (fX11_sayWind h) fun r33 =>
          fX11_readLine_228 r33 l1 l2
      else
      bnd (fX11_sayDoor h) fun r35 =>
        fX11_readLine_228 r35 l1 l2
    else
    bnd (fX11_sayRoom h l3) fun r37 =>
      fX11_readLine_228 r37 l1 l2
  else
  if (h 0 26) = 0 then
    bnd (fX11_stepOn h) fun r55 =>
      fX11_readLine_94 r55 l1 l2
    else
    fX11_readLine_94 h l1 l2
def fX11_readLine_58 (h : ST) (l1 : Int32) (q0 : Int32) : Option (Int32 × ST) :=
  bnd (fX11_which h 1 3) fun r13 =>
  if (q0 &&& l1) = 0 then
  fX11_readLine_79 h l1 q0 r13
  else
  bnd (fX11_wrong h 5) fun r57 =>
    fX11_readLine_79 r57 l1 q0 r13
def fX11_readLine (h : ST) (a1 : Int32) : Option (Int32 × ST) :=
  bnd (fX11_is h 7) fun r1 =>
  if r1 = 0 then
  bnd (fX11_is h 8) fun r4 =>
    if r4 = 0 then
    bnd (fX11_is h 9) fun r7 =>
      if r7 = 0 then
      bnd (fX11_is h 10) fun r10 =>
        if r10 = 0 then
        fX11_readLine_58 h a1 0
        else
        fX11_readLine_58 h a1 8
      else
      fX11_readLine_58 h a1 4
    else
    fX11_readLine_58 h a1 2
  else
  fX11_readLine_58 h a1 1
set_option maxRecDepth 100000 in
set_option maxHeartbeats 4000000 in
theorem tX11_readLine_228 {p : Program} {l : Launch} {e : Env} {s : State} {m : MethodId} {args : Array Value} {below : List Frame} {meth : Method} {c : Code} {g : GE} {B : Nat} {h : ST}  {l1 : Int32} {l2 : Int32} (F : Fx p s m args meth c cX11_readLine 4 "DustParishModel" 43 g B)
    {y : Int32 × ST} (hr : meth.sig.returnType = (some .int)) (hf : fX11_readLine_228 h l1 l2 = some y) : V p l e 75 0 s m args below meth c (MQ below (QO KM 43 g (some (.int y.1)) y.2) args s 0 (6 * 0) (WA 43 g)) KM 43 g B 4 0 h 228 [(0, .ref (gA g 0)), (1, .int l1), (2, .int l2)] [] := by
  unfold fX11_readLine_228 at hf
  refine v_aload_n (pc := 228) (j := 0) F dX11_readLine_228 rfl rfl ?_
  refine v_bipush (pc := 229) (v := 59) F dX11_readLine_229 bp_59 ?_
  obtain ⟨r29, e30, hf⟩ := bnd_some hf
  refine v_callVv (pc := 231) (As := [.int 59]) F cl_X11_252 dX11_readLine_231 (kX11_mark e30) km_0.1 km_0.2 rc_10 rfl rfl (Nat.le_of_ble_eq_true rfl) (by decide) (Nat.zero_le _) ?_
  refine v_iload_n (pc := 234) (j := 1) F dX11_readLine_234 rfl rfl ?_
  refine v_iload_n (pc := 235) (j := 2) F dX11_readLine_235 rfl rfl ?_
  refine v_ior (pc := 236) F dX11_readLine_236 ?_
  exact v_iret (pc := 237) F hr dX11_readLine_237 (some_fst hf) (some_snd hf) (Nat.zero_le _)
set_option maxRecDepth 100000 in
set_option maxHeartbeats 4000000 in
theorem tX11_readLine_94 {p : Program} {l : Launch} {e : Env} {s : State} {m : MethodId} {args : Array Value} {below : List Frame} {meth : Method} {c : Code} {g : GE} {B : Nat} {h : ST}  {l1 : Int32} {l2 : Int32} (F : Fx p s m args meth c cX11_readLine 4 "DustParishModel" 43 g B)
    {y : Int32 × ST} (hr : meth.sig.returnType = (some .int)) (hf : fX11_readLine_94 h l1 l2 = some y) : V p l e 75 0 s m args below meth c (MQ below (QO KM 43 g (some (.int y.1)) y.2) args s 0 (6 * 0) (WA 43 g)) KM 43 g B 4 0 h 94 [(0, .ref (gA g 0)), (1, .int l1), (2, .int l2)] [] := by
  unfold fX11_readLine_94 at hf
  refine v_iload_n (pc := 94) (j := 2) F dX11_readLine_94 rfl rfl ?_
  refine v_iconst (pc := 95) (v := 1) F dX11_readLine_95 ic_1 ?_
  refine v_icmp_ne (pc := 96) (tgt := 106) F dX11_readLine_96 (by decide) (fun c40 => ?_) (fun c40 => ?_)
  · have hf := ite_f hf c40
    refine v_iload_n (pc := 106) (j := 2) F dX11_readLine_106 rfl rfl ?_
    refine v_iconst (pc := 107) (v := 2) F dX11_readLine_107 ic_2 ?_
    refine v_icmp_ne (pc := 108) (tgt := 128) F dX11_readLine_108 (by decide) (fun c41 => ?_) (fun c41 => ?_)
    · have hf := ite_f hf c41
      refine v_iload_n (pc := 128) (j := 2) F dX11_readLine_128 rfl rfl ?_
      refine v_iconst (pc := 129) (v := 4) F dX11_readLine_129 ic_4 ?_
      refine v_icmp_ne (pc := 130) (tgt := 151) F dX11_readLine_130 (by decide) (fun c42 => ?_) (fun c42 => ?_)
      · have hf := ite_f hf c42
        refine v_aload_n (pc := 151) (j := 0) F dX11_readLine_151 rfl rfl ?_
        refine v_iconst (pc := 152) (v := 0) F dX11_readLine_152 ic_0 ?_
        obtain ⟨r43, e44, hf⟩ := bnd_some hf
        refine v_callVv (pc := 153) (As := [.int 0]) F cl_X11_255 dX11_readLine_153 (kX11_readExpression (dd := 10) e44) km_0.1 km_0.2 rc_10 rfl rfl (Nat.le_of_ble_eq_true rfl) (by decide) (Nat.zero_le _) ?_
        refine v_goto (pc := 156) (tgt := 228) F dX11_readLine_156 (by decide) ?_
        exact tX11_readLine_228 F hr hf
      · have hf := ite_t hf c42
        refine v_aload_n (pc := 133) (j := 0) F dX11_readLine_133 rfl rfl ?_
        refine v_ifl (pc := 134) F fl_X11_36 dX11_readLine_134 km_0.1 km_0.2 fv_10_3 ?_
        refine v_bipush (pc := 137) (v := 12) F dX11_readLine_137 bp_12 ?_
        refine v_aload_n (pc := 139) (j := 0) F dX11_readLine_139 rfl rfl ?_
        refine v_iconst (pc := 140) (v := 0) F dX11_readLine_140 ic_0 ?_
        refine v_sipush (pc := 141) (v := 999) F dX11_readLine_141 sp_999 ?_
        obtain ⟨r45, e46, hf⟩ := bnd_some hf
        refine v_callVi (pc := 144) (As := [.int 0, .int 999]) F cl_X11_242 dX11_readLine_144 (kX11_readNumber e46) km_0.1 km_0.2 rc_10 rfl rfl (Nat.le_of_ble_eq_true rfl) (by decide) (Nat.zero_le _) ?_
        obtain ⟨h47, e48, hf⟩ := bnd_some hf
        refine v_iast (pc := 147) F dX11_readLine_147 km_3.1 km_3.2 e48 ?_
        refine v_goto (pc := 148) (tgt := 228) F dX11_readLine_148 (by decide) ?_
        exact tX11_readLine_228 F hr hf
    · have hf := ite_t hf c41
      refine v_aload_n (pc := 111) (j := 0) F dX11_readLine_111 rfl rfl ?_
      refine v_ifl (pc := 112) F fl_X11_36 dX11_readLine_112 km_0.1 km_0.2 fv_10_3 ?_
      refine v_bipush (pc := 115) (v := 11) F dX11_readLine_115 bp_11 ?_
      refine v_aload_n (pc := 117) (j := 0) F dX11_readLine_117 rfl rfl ?_
      refine v_iconst (pc := 118) (v := 1) F dX11_readLine_118 ic_1 ?_
      refine v_bipush (pc := 119) (v := 30) F dX11_readLine_119 bp_30 ?_
      obtain ⟨r49, e50, hf⟩ := bnd_some hf
      refine v_callVi (pc := 121) (As := [.int 1, .int 30]) F cl_X11_242 dX11_readLine_121 (kX11_readNumber e50) km_0.1 km_0.2 rc_10 rfl rfl (Nat.le_of_ble_eq_true rfl) (by decide) (Nat.zero_le _) ?_
      obtain ⟨h51, e52, hf⟩ := bnd_some hf
      refine v_iast (pc := 124) F dX11_readLine_124 km_3.1 km_3.2 e52 ?_
      refine v_goto (pc := 125) (tgt := 228) F dX11_readLine_125 (by decide) ?_
      exact tX11_readLine_228 F hr hf
  · have hf := ite_t hf c40
    refine v_aload_n (pc := 99) (j := 0) F dX11_readLine_99 rfl rfl ?_
    obtain ⟨r53, e54, hf⟩ := bnd_some hf
    refine v_callVv (pc := 100) (As := []) F cl_X11_299 dX11_readLine_100 (kX11_sayCalendar e54) km_0.1 km_0.2 rc_10 rfl rfl (Nat.le_of_ble_eq_true rfl) (by decide) (Nat.zero_le _) ?_
    refine v_goto (pc := 103) (tgt := 228) F dX11_readLine_103 (by decide) ?_
    exact tX11_readLine_228 F hr hf
set_option maxRecDepth 100000 in
set_option maxHeartbeats 4000000 in
theorem tX11_readLine_79 {p : Program} {l : Launch} {e : Env} {s : State} {m : MethodId} {args : Array Value} {below : List Frame} {meth : Method} {c : Code} {g : GE} {B : Nat} {h : ST}  {l1 : Int32} {l2 : Int32} {l3 : Int32} (F : Fx p s m args meth c cX11_readLine 4 "DustParishModel" 43 g B)
    {y : Int32 × ST} (hr : meth.sig.returnType = (some .int)) (hf : fX11_readLine_79 h l1 l2 l3 = some y) : V p l e 75 0 s m args below meth c (MQ below (QO KM 43 g (some (.int y.1)) y.2) args s 0 (6 * 0) (WA 43 g)) KM 43 g B 4 0 h 79 [(0, .ref (gA g 0)), (1, .int l1), (2, .int l2), (3, .int l3)] [] := by
  unfold fX11_readLine_79 at hf
  refine v_iload_n (pc := 79) (j := 2) F dX11_readLine_79 rfl rfl ?_
  refine v_if_le (pc := 80) (tgt := 159) F dX11_readLine_80 (by decide) (fun c16 => ?_) (fun c16 => ?_)
  · have hf := ite_t hf c16
    refine v_iload_n (pc := 159) (j := 3) F dX11_readLine_159 rfl rfl ?_
    refine v_iconst (pc := 160) (v := (-1)) F dX11_readLine_160 ic_m1 ?_
    refine v_icmp_eq (pc := 161) (tgt := 172) F dX11_readLine_161 (by decide) (fun c17 => ?_) (fun c17 => ?_)
    · have hf := ite_t hf c17
      refine v_aload_n (pc := 172) (j := 0) F dX11_readLine_172 rfl rfl ?_
      refine v_ldcSW (pc := 173) (j := 4) (tx := "door") F (by decide) dX11_readLine_173 ?_
      obtain ⟨r18, e19, hf⟩ := bnd_some hf
      refine v_callVi (pc := 176) (As := [.ref (gK g 4)]) F cl_X11_222 dX11_readLine_176 (kX11_is (by decide) e19) km_0.1 km_0.2 rc_10 rfl rfl (Nat.le_of_ble_eq_true rfl) (by decide) (Nat.zero_le _) ?_
      refine v_if_eq (pc := 179) (tgt := 189) F dX11_readLine_179 (by decide) (fun c20 => ?_) (fun c20 => ?_)
      · have hf := ite_t hf c20
        refine v_aload_n (pc := 189) (j := 0) F dX11_readLine_189 rfl rfl ?_
        refine v_ldcSW (pc := 190) (j := 5) (tx := "wind") F (by decide) dX11_readLine_190 ?_
        obtain ⟨r21, e22, hf⟩ := bnd_some hf
        refine v_callVi (pc := 193) (As := [.ref (gK g 5)]) F cl_X11_222 dX11_readLine_193 (kX11_is (by decide) e22) km_0.1 km_0.2 rc_10 rfl rfl (Nat.le_of_ble_eq_true rfl) (by decide) (Nat.zero_le _) ?_
        refine v_if_eq (pc := 196) (tgt := 206) F dX11_readLine_196 (by decide) (fun c23 => ?_) (fun c23 => ?_)
        · have hf := ite_t hf c23
          refine v_aload_n (pc := 206) (j := 0) F dX11_readLine_206 rfl rfl ?_
          refine v_ldcSW (pc := 207) (j := 6) (tx := "blow") F (by decide) dX11_readLine_207 ?_
          obtain ⟨r24, e25, hf⟩ := bnd_some hf
          refine v_callVi (pc := 210) (As := [.ref (gK g 6)]) F cl_X11_222 dX11_readLine_210 (kX11_is (by decide) e25) km_0.1 km_0.2 rc_10 rfl rfl (Nat.le_of_ble_eq_true rfl) (by decide) (Nat.zero_le _) ?_
          refine v_if_eq (pc := 213) (tgt := 223) F dX11_readLine_213 (by decide) (fun c26 => ?_) (fun c26 => ?_)
          · have hf := ite_t hf c26
            refine v_aload_n (pc := 223) (j := 0) F dX11_readLine_223 rfl rfl ?_
            refine v_iconst (pc := 224) (v := 1) F dX11_readLine_224 ic_1 ?_
            obtain ⟨r27, e28, hf⟩ := bnd_some hf
            refine v_callVv (pc := 225) (As := [.int 1]) F cl_X11_229 dX11_readLine_225 (kX11_wrong e28) km_0.1 km_0.2 rc_10 rfl rfl (Nat.le_of_ble_eq_true rfl) (by decide) (Nat.zero_le _) ?_
            refine V.sub (lv' := [(0, .ref (gA g 0)), (1, .int l1), (2, .int l2)]) [0, 1, 2] rfl ?_
            exact tX11_readLine_228 F hr hf
          · have hf := ite_f hf c26
            refine v_aload_n (pc := 216) (j := 0) F dX11_readLine_216 rfl rfl ?_
            obtain ⟨r31, e32, hf⟩ := bnd_some hf
            refine v_callVv (pc := 217) (As := []) F cl_X11_317 dX11_readLine_217 (kX11_sayBlow e32) km_0.1 km_0.2 rc_10 rfl rfl (Nat.le_of_ble_eq_true rfl) (by decide) (Nat.zero_le _) ?_
            refine v_goto (pc := 220) (tgt := 228) F dX11_readLine_220 (by decide) ?_
            refine V.sub (lv' := [(0, .ref (gA g 0)), (1, .int l1), (2, .int l2)]) [0, 1, 2] rfl ?_
            exact tX11_readLine_228 F hr hf
        · have hf := ite_f hf c23
          refine v_aload_n (pc := 199) (j := 0) F dX11_readLine_199 rfl rfl ?_
          obtain ⟨r33, e34, hf⟩ := bnd_some hf
          refine v_callVv (pc := 200) (As := []) F cl_X11_312 dX11_readLine_200 (kX11_sayWind e34) km_0.1 km_0.2 rc_10 rfl rfl (Nat.le_of_ble_eq_true rfl) (by decide) (Nat.zero_le _) ?_
          refine v_goto (pc := 203) (tgt := 228) F dX11_readLine_203 (by decide) ?_
          refine V.sub (lv' := [(0, .ref (gA g 0)), (1, .int l1), (2, .int l2)]) [0, 1, 2] rfl ?_
          exact tX11_readLine_228 F hr hf
      · have hf := ite_f hf c20
        refine v_aload_n (pc := 182) (j := 0) F dX11_readLine_182 rfl rfl ?_
        obtain ⟨r35, e36, hf⟩ := bnd_some hf
        refine v_callVv (pc := 183) (As := []) F cl_X11_307 dX11_readLine_183 (kX11_sayDoor e36) km_0.1 km_0.2 rc_10 rfl rfl (Nat.le_of_ble_eq_true rfl) (by decide) (Nat.zero_le _) ?_
        refine v_goto (pc := 186) (tgt := 228) F dX11_readLine_186 (by decide) ?_
        refine V.sub (lv' := [(0, .ref (gA g 0)), (1, .int l1), (2, .int l2)]) [0, 1, 2] rfl ?_
        exact tX11_readLine_228 F hr hf
    · have hf := ite_f hf c17
      refine v_aload_n (pc := 164) (j := 0) F dX11_readLine_164 rfl rfl ?_
      refine v_iload_n (pc := 165) (j := 3) F dX11_readLine_165 rfl rfl ?_
      obtain ⟨r37, e38, hf⟩ := bnd_some hf
      refine v_callVv (pc := 166) (As := [.int l3]) F cl_X11_302 dX11_readLine_166 (kX11_sayRoom e38) km_0.1 km_0.2 rc_10 rfl rfl (Nat.le_of_ble_eq_true rfl) (by decide) (Nat.zero_le _) ?_
      refine v_goto (pc := 169) (tgt := 228) F dX11_readLine_169 (by decide) ?_
      refine V.sub (lv' := [(0, .ref (gA g 0)), (1, .int l1), (2, .int l2)]) [0, 1, 2] rfl ?_
      exact tX11_readLine_228 F hr hf
  · have hf := ite_f hf c16
    refine v_aload_n (pc := 83) (j := 0) F dX11_readLine_83 rfl rfl ?_
    refine v_ifl (pc := 84) F fl_X11_208 dX11_readLine_84 km_0.1 km_0.2 fv_10_26 ?_
    refine v_if_ne (pc := 87) (tgt := 94) F dX11_readLine_87 (by decide) (fun c39 => ?_) (fun c39 => ?_)
    · have hf := ite_f hf c39
      refine V.sub (lv' := [(0, .ref (gA g 0)), (1, .int l1), (2, .int l2)]) [0, 1, 2] rfl ?_
      exact tX11_readLine_94 F hr hf
    · have hf := ite_t hf c39
      refine v_aload_n (pc := 90) (j := 0) F dX11_readLine_90 rfl rfl ?_
      obtain ⟨r55, e56, hf⟩ := bnd_some hf
      refine v_callVv (pc := 91) (As := []) F cl_X11_233 dX11_readLine_91 (kX11_stepOn e56) km_0.1 km_0.2 rc_10 rfl rfl (Nat.le_of_ble_eq_true rfl) (by decide) (Nat.zero_le _) ?_
      refine V.sub (lv' := [(0, .ref (gA g 0)), (1, .int l1), (2, .int l2)]) [0, 1, 2] rfl ?_
      exact tX11_readLine_94 F hr hf
set_option maxRecDepth 100000 in
set_option maxHeartbeats 4000000 in
theorem tX11_readLine_58 {p : Program} {l : Launch} {e : Env} {s : State} {m : MethodId} {args : Array Value} {below : List Frame} {meth : Method} {c : Code} {g : GE} {B : Nat} {h : ST}  {l1 : Int32} {q0 : Int32} (F : Fx p s m args meth c cX11_readLine 4 "DustParishModel" 43 g B)
    {y : Int32 × ST} (hr : meth.sig.returnType = (some .int)) (hf : fX11_readLine_58 h l1 q0 = some y) : V p l e 75 0 s m args below meth c (MQ below (QO KM 43 g (some (.int y.1)) y.2) args s 0 (6 * 0) (WA 43 g)) KM 43 g B 4 0 h 58 [(0, .ref (gA g 0)), (1, .int l1)] [.int q0] := by
  unfold fX11_readLine_58 at hf
  refine v_istore_n (pc := 58) (lv' := [(0, .ref (gA g 0)), (1, .int l1), (2, .int q0)]) F dX11_readLine_58 rfl (by decide) rfl ?_
  refine v_aload_n (pc := 59) (j := 0) F dX11_readLine_59 rfl rfl ?_
  refine v_aload_n (pc := 60) (j := 0) F dX11_readLine_60 rfl rfl ?_
  refine v_ifl (pc := 61) F fl_X11_17 dX11_readLine_61 km_0.1 km_0.2 fv_10_0 ?_
  obtain ⟨r13, e14, hf⟩ := bnd_some hf
  refine v_callVi (pc := 64) (As := [.ref (gA g 1)]) F cl_X11_248 dX11_readLine_64 (kX11_which km_1.1 km_1.2 e14) km_0.1 km_0.2 rc_10 rfl rfl (Nat.le_of_ble_eq_true rfl) (by decide) (Nat.zero_le _) ?_
  refine v_istore_n (pc := 67) (lv' := [(0, .ref (gA g 0)), (1, .int l1), (2, .int q0), (3, .int r13)]) F dX11_readLine_67 rfl (by decide) rfl ?_
  refine v_iload_n (pc := 68) (j := 2) F dX11_readLine_68 rfl rfl ?_
  refine v_iload_n (pc := 69) (j := 1) F dX11_readLine_69 rfl rfl ?_
  refine v_iand (pc := 70) F dX11_readLine_70 ?_
  refine v_if_eq (pc := 71) (tgt := 79) F dX11_readLine_71 (by decide) (fun c15 => ?_) (fun c15 => ?_)
  · have hf := ite_t hf c15
    exact tX11_readLine_79 F hr hf
  · have hf := ite_f hf c15
    refine v_aload_n (pc := 74) (j := 0) F dX11_readLine_74 rfl rfl ?_
    refine v_iconst (pc := 75) (v := 5) F dX11_readLine_75 ic_5 ?_
    obtain ⟨r57, e58, hf⟩ := bnd_some hf
    refine v_callVv (pc := 76) (As := [.int 5]) F cl_X11_229 dX11_readLine_76 (kX11_wrong e58) km_0.1 km_0.2 rc_10 rfl rfl (Nat.le_of_ble_eq_true rfl) (by decide) (Nat.zero_le _) ?_
    exact tX11_readLine_79 F hr hf
set_option maxRecDepth 100000 in
set_option maxHeartbeats 4000000 in
theorem kX11_readLine {l : Launch} {g : GE} {B : Nat} {h : ST} {a1 : Int32} {y : Int32 × ST} (hf : fX11_readLine h a1 = some y) : CT l yX11_readLine cX11_readLine 4 (some .int) 75 KM 43 g B [.ref (gA g 0), .int a1] h (some (.int y.1)) y.2 := by
  refine CT.of pn_X11 (Nat.le_of_ble_eq_true rfl) ?_
  intro p e s m below meth c hr F
  have F : Fx p s m _ meth c cX11_readLine 4 "DustParishModel" 43 g B := F
  refine V_lv (lv' := [(0, .ref (gA g 0)), (1, .int a1)]) rfl ?_
  unfold fX11_readLine at hf
  refine v_aload_n (pc := 0) (j := 0) F dX11_readLine_0 rfl rfl ?_
  refine v_ldcSW (pc := 1) (j := 7) (tx := "calendar") F (by decide) dX11_readLine_1 ?_
  obtain ⟨r1, e2, hf⟩ := bnd_some hf
  refine v_callVi (pc := 4) (As := [.ref (gK g 7)]) F cl_X11_222 dX11_readLine_4 (kX11_is (by decide) e2) km_0.1 km_0.2 rc_10 rfl rfl (Nat.le_of_ble_eq_true rfl) (by decide) (Nat.zero_le _) ?_
  refine v_if_eq (pc := 7) (tgt := 14) F dX11_readLine_7 (by decide) (fun c3 => ?_) (fun c3 => ?_)
  · have hf := ite_t hf c3
    refine v_aload_n (pc := 14) (j := 0) F dX11_readLine_14 rfl rfl ?_
    refine v_ldcSW (pc := 15) (j := 8) (tx := "every") F (by decide) dX11_readLine_15 ?_
    obtain ⟨r4, e5, hf⟩ := bnd_some hf
    refine v_callVi (pc := 18) (As := [.ref (gK g 8)]) F cl_X11_222 dX11_readLine_18 (kX11_is (by decide) e5) km_0.1 km_0.2 rc_10 rfl rfl (Nat.le_of_ble_eq_true rfl) (by decide) (Nat.zero_le _) ?_
    refine v_if_eq (pc := 21) (tgt := 28) F dX11_readLine_21 (by decide) (fun c6 => ?_) (fun c6 => ?_)
    · have hf := ite_t hf c6
      refine v_aload_n (pc := 28) (j := 0) F dX11_readLine_28 rfl rfl ?_
      refine v_ldcSW (pc := 29) (j := 9) (tx := "clean") F (by decide) dX11_readLine_29 ?_
      obtain ⟨r7, e8, hf⟩ := bnd_some hf
      refine v_callVi (pc := 32) (As := [.ref (gK g 9)]) F cl_X11_222 dX11_readLine_32 (kX11_is (by decide) e8) km_0.1 km_0.2 rc_10 rfl rfl (Nat.le_of_ble_eq_true rfl) (by decide) (Nat.zero_le _) ?_
      refine v_if_eq (pc := 35) (tgt := 42) F dX11_readLine_35 (by decide) (fun c9 => ?_) (fun c9 => ?_)
      · have hf := ite_t hf c9
        refine v_aload_n (pc := 42) (j := 0) F dX11_readLine_42 rfl rfl ?_
        refine v_ldcSW (pc := 43) (j := 10) (tx := "tithe") F (by decide) dX11_readLine_43 ?_
        obtain ⟨r10, e11, hf⟩ := bnd_some hf
        refine v_callVi (pc := 46) (As := [.ref (gK g 10)]) F cl_X11_222 dX11_readLine_46 (kX11_is (by decide) e11) km_0.1 km_0.2 rc_10 rfl rfl (Nat.le_of_ble_eq_true rfl) (by decide) (Nat.zero_le _) ?_
        refine v_if_eq (pc := 49) (tgt := 57) F dX11_readLine_49 (by decide) (fun c12 => ?_) (fun c12 => ?_)
        · have hf := ite_t hf c12
          refine v_iconst (pc := 57) (v := 0) F dX11_readLine_57 ic_0 ?_
          exact tX11_readLine_58 F hr hf
        · have hf := ite_f hf c12
          refine v_bipush (pc := 52) (v := 8) F dX11_readLine_52 bp_8 ?_
          refine v_goto (pc := 54) (tgt := 58) F dX11_readLine_54 (by decide) ?_
          exact tX11_readLine_58 F hr hf
      · have hf := ite_f hf c9
        refine v_iconst (pc := 38) (v := 4) F dX11_readLine_38 ic_4 ?_
        refine v_goto (pc := 39) (tgt := 58) F dX11_readLine_39 (by decide) ?_
        exact tX11_readLine_58 F hr hf
    · have hf := ite_f hf c6
      refine v_iconst (pc := 24) (v := 2) F dX11_readLine_24 ic_2 ?_
      refine v_goto (pc := 25) (tgt := 58) F dX11_readLine_25 (by decide) ?_
      exact tX11_readLine_58 F hr hf
  · have hf := ite_f hf c3
    refine v_iconst (pc := 10) (v := 1) F dX11_readLine_10 ic_1 ?_
    refine v_goto (pc := 11) (tgt := 58) F dX11_readLine_11 (by decide) ?_
    exact tX11_readLine_58 F hr hf
def fX11_takeHalf_2 (o1 : Nat) (n_o1 : Nat) (s1 : (ST × Int32)) : Option ((ST × Int32) ⊕ ST) :=
  if ((Int32.ofNat n_o1) / 2) ≤ s1.2 then
  some (.inr s1.1)
  else
  bnd (rd n_o1 (s1.1 o1) (((Int32.ofNat n_o1) / 2) + s1.2)) fun v2 =>
    bnd (wr n_o1 s1.1 o1 s1.2 v2) fun h4 =>
    some (.inl (h4, s1.2 + 1))
def fX11_takeHalf (h : ST) (o1 : Nat) (n_o1 : Nat) : Option (ST) :=
  bnd (lp FU (fX11_takeHalf_2 o1 n_o1) (h, 0)) fun x6 =>
  some x6
set_option maxRecDepth 100000 in
set_option maxHeartbeats 4000000 in
theorem tX11_takeHalf_2 {p : Program} {l : Launch} {e : Env} {s : State} {m : MethodId} {args : Array Value} {below : List Frame} {meth : Method} {c : Code} {g : GE} {B : Nat}  {o1 n_o1 : Nat} (ho_o1 : o1 < 43) (hk_o1 : KM o1 = (20, n_o1)) {Q : State → Prop} {x : ST} {nf : Nat} {s0 : (ST × Int32)} (F : Fx p s m args meth c cX11_takeHalf 2 "DustParishModel" 43 g B) (hX0 : V p l e 1 0 s m args below meth c Q KM 43 g B 2 0 x 27 [] []) (hl : lp nf (fX11_takeHalf_2 o1 n_o1) s0 = some x) : V p l e 1 0 s m args below meth c Q KM 43 g B 2 0 s0.1 2 [(0, .ref (gA g o1)), (1, .int s0.2)] [] := by
  refine lp_ind (P := fun s0 => V p l e 1 0 s m args below meth c Q KM 43 g B 2 0 s0.1 2 [(0, .ref (gA g o1)), (1, .int s0.2)] []) ?_ nf s0 hl
  intro s1 y hf hk hx
  have hx0 : ∀ v : ST, y = Sum.inr v → V p l e 1 0 s m args below meth c Q KM 43 g B 2 0 v 27 [] [] := fun v e9 => by rw [hx v e9]; exact hX0
  unfold fX11_takeHalf_2 at hf
  refine v_iload_n (pc := 2) (j := 1) F dX11_takeHalf_2 rfl rfl ?_
  refine v_aload_n (pc := 3) (j := 0) F dX11_takeHalf_3 rfl rfl ?_
  refine v_alen (pc := 4) (v := Int32.ofNat n_o1) F dX11_takeHalf_4 ho_o1 hk_o1 (by decide) (by decide) rfl ?_
  refine v_iconst (pc := 5) (v := 2) F dX11_takeHalf_5 ic_2 ?_
  refine v_idiv (pc := 6) F dX11_takeHalf_6 (by decide) ?_
  refine v_icmp_ge (pc := 7) (tgt := 27) F dX11_takeHalf_7 (by decide) (fun c1 => ?_) (fun c1 => ?_)
  · have hf := ite_t hf c1
    refine V.sub (lv' := []) [] rfl ?_
    exact hx0 s1.1 (Option.some.inj hf).symm
  · have hf := ite_f hf c1
    refine v_aload_n (pc := 10) (j := 0) F dX11_takeHalf_10 rfl rfl ?_
    refine v_iload_n (pc := 11) (j := 1) F dX11_takeHalf_11 rfl rfl ?_
    refine v_aload_n (pc := 12) (j := 0) F dX11_takeHalf_12 rfl rfl ?_
    refine v_aload_n (pc := 13) (j := 0) F dX11_takeHalf_13 rfl rfl ?_
    refine v_alen (pc := 14) (v := Int32.ofNat n_o1) F dX11_takeHalf_14 ho_o1 hk_o1 (by decide) (by decide) rfl ?_
    refine v_iconst (pc := 15) (v := 2) F dX11_takeHalf_15 ic_2 ?_
    refine v_idiv (pc := 16) F dX11_takeHalf_16 (by decide) ?_
    refine v_iload_n (pc := 17) (j := 1) F dX11_takeHalf_17 rfl rfl ?_
    refine v_iadd (pc := 18) F dX11_takeHalf_18 ?_
    obtain ⟨v2, e3, hf⟩ := bnd_some hf
    refine v_iald (pc := 19) F dX11_takeHalf_19 ho_o1 hk_o1 e3 ?_
    obtain ⟨h4, e5, hf⟩ := bnd_some hf
    refine v_iast (pc := 20) F dX11_takeHalf_20 ho_o1 hk_o1 e5 ?_
    refine v_iinc (pc := 21) (j := 1) (v := s1.2 + 1) (lv' := [(0, .ref (gA g o1)), (1, .int (s1.2 + 1))]) F dX11_takeHalf_21 rfl (congrArg (fun z => s1.2 + z) ic_1) (by decide) rfl ?_
    refine v_goto (pc := 24) (tgt := 2) F dX11_takeHalf_24 (by decide) ?_
    exact hk (h4, s1.2 + 1) (Option.some.inj hf).symm
set_option maxRecDepth 100000 in
set_option maxHeartbeats 4000000 in
theorem kX11_takeHalf {l : Launch} {g : GE} {B : Nat} {h : ST} {o1 n_o1 : Nat} (ho_o1 : o1 < 43) (hk_o1 : KM o1 = (20, n_o1)) {y : ST} (hf : fX11_takeHalf h o1 n_o1 = some y) : CT l yX11_takeHalf cX11_takeHalf 2 none 1 KM 43 g B [.ref (gA g o1)] h none y := by
  refine CT.of pn_X11 (Nat.le_of_ble_eq_true rfl) ?_
  intro p e s m below meth c hr F
  have F : Fx p s m _ meth c cX11_takeHalf 2 "DustParishModel" 43 g B := F
  refine V_lv (lv' := [(0, .ref (gA g o1))]) rfl ?_
  unfold fX11_takeHalf at hf
  refine v_iconst (pc := 0) (v := 0) F dX11_takeHalf_0 ic_0 ?_
  refine v_istore_n (pc := 1) (lv' := [(0, .ref (gA g o1)), (1, .int 0)]) F dX11_takeHalf_1 rfl (by decide) rfl ?_
  obtain ⟨x6, e7, hf⟩ := bnd_some hf
  refine tX11_takeHalf_2 (s0 := (h, 0)) ho_o1 hk_o1 F ?_ e7
  exact v_vret (pc := 27) F hr dX11_takeHalf_27 (Option.some.inj hf) (Nat.zero_le _)
def fX11_takeOver_146 (h : ST) (l1 : Int32) (q1 : Int32) (q2 : Int32) : Option ((ST × Int32) ⊕ ST) :=
  bnd (wr 9 h 19 q1 q2) fun h39 =>
  bnd (wr 9 h39 20 l1 0) fun h41 =>
  some (.inl (h41, l1 + 1))
def fX11_takeOver_115 (s1 : (ST × Int32)) : Option ((ST × Int32) ⊕ ST) :=
  if 9 ≤ s1.2 then
  some (.inr s1.1)
  else
  bnd (rd 14 (s1.1 3) 0) fun v36 =>
    if v36 ≤ s1.2 then
    fX11_takeOver_146 s1.1 s1.2 s1.2 0
    else
    bnd (rd 18 (s1.1 6) s1.2) fun v43 =>
      fX11_takeOver_146 s1.1 s1.2 s1.2 v43
def fX11_takeOver_162 (s1 : (ST × Int32)) : Option ((ST × Int32) ⊕ ST) :=
  if 10 ≤ s1.2 then
  some (.inr s1.1)
  else
  bnd (rd 20 (s1.1 15) s1.2) fun v48 =>
    bnd (wr 10 s1.1 21 s1.2 v48) fun h50 =>
    some (.inl (h50, s1.2 + 1))
def fX11_takeOver (h : ST) : Option (ST) :=
  bnd (fX11_takeHalf h 3 14) fun r1 =>
  bnd (fX11_takeHalf r1 4 18) fun r3 =>
  bnd (fX11_takeHalf r3 5 18) fun r5 =>
  bnd (fX11_takeHalf r5 6 18) fun r7 =>
  bnd (fX11_takeHalf r7 7 18) fun r9 =>
  bnd (fX11_takeHalf r9 8 28) fun r11 =>
  bnd (fX11_takeHalf r11 9 28) fun r13 =>
  bnd (fX11_takeHalf r13 10 28) fun r15 =>
  bnd (fX11_takeHalf r15 11 10) fun r17 =>
  bnd (fX11_takeHalf r17 12 80) fun r19 =>
  bnd (fX11_takeHalf r19 13 80) fun r21 =>
  bnd (fX11_takeHalf r21 14 80) fun r23 =>
  bnd (fX11_takeHalf r23 15 20) fun r25 =>
  bnd (fX11_takeHalf r25 16 1400) fun r27 =>
  bnd (pw r27 0 33 0) fun h29 =>
  bnd (pw h29 0 34 0) fun h31 =>
  bnd (pw h31 0 35 0) fun h33 =>
  bnd (lp FU (fX11_takeOver_115) (h33, 0)) fun x45 =>
  bnd (lp FU (fX11_takeOver_162) (x45, 0)) fun x52 =>
  bnd (pw x52 0 36 0) fun h54 =>
  bnd (pw h54 0 37 0) fun h56 =>
  bnd (pw h56 0 54 0) fun h58 =>
  some h58
set_option maxRecDepth 100000 in
set_option maxHeartbeats 4000000 in
theorem tX11_takeOver_146 {p : Program} {l : Launch} {e : Env} {s : State} {m : MethodId} {args : Array Value} {below : List Frame} {meth : Method} {c : Code} {g : GE} {B : Nat} {h : ST}  {l1 : Int32} {q1 : Int32} {q2 : Int32} (F : Fx p s m args meth c cX11_takeOver 2 "DustParishModel" 43 g B)
    {Q : State → Prop} {y : (ST × Int32) ⊕ ST} (hk : ∀ v : (ST × Int32), y = Sum.inl v → V p l e 2 0 s m args below meth c Q KM 43 g B 2 0 v.1 115 [(0, .ref (gA g 0)), (1, .int v.2)] []) (hx0 : ∀ v : ST, y = Sum.inr v → V p l e 2 0 s m args below meth c Q KM 43 g B 2 0 v 160 [(0, .ref (gA g 0))] []) (hf : fX11_takeOver_146 h l1 q1 q2 = some y) : V p l e 2 0 s m args below meth c Q KM 43 g B 2 0 h 146 [(0, .ref (gA g 0)), (1, .int l1)] [.int q2, .int q1, .ref (gA g 19)] := by
  unfold fX11_takeOver_146 at hf
  obtain ⟨h39, e40, hf⟩ := bnd_some hf
  refine v_iast (pc := 146) F dX11_takeOver_146 km_19.1 km_19.2 e40 ?_
  refine v_aload_n (pc := 147) (j := 0) F dX11_takeOver_147 rfl rfl ?_
  refine v_ifl (pc := 148) F fl_X11_89 dX11_takeOver_148 km_0.1 km_0.2 fv_10_30 ?_
  refine v_iload_n (pc := 151) (j := 1) F dX11_takeOver_151 rfl rfl ?_
  refine v_iconst (pc := 152) (v := 0) F dX11_takeOver_152 ic_0 ?_
  obtain ⟨h41, e42, hf⟩ := bnd_some hf
  refine v_iast (pc := 153) F dX11_takeOver_153 km_20.1 km_20.2 e42 ?_
  refine v_iinc (pc := 154) (j := 1) (v := l1 + 1) (lv' := [(0, .ref (gA g 0)), (1, .int (l1 + 1))]) F dX11_takeOver_154 rfl (congrArg (fun z => l1 + z) ic_1) (by decide) rfl ?_
  refine v_goto (pc := 157) (tgt := 115) F dX11_takeOver_157 (by decide) ?_
  exact hk (h41, l1 + 1) (Option.some.inj hf).symm
set_option maxRecDepth 100000 in
set_option maxHeartbeats 4000000 in
theorem tX11_takeOver_115 {p : Program} {l : Launch} {e : Env} {s : State} {m : MethodId} {args : Array Value} {below : List Frame} {meth : Method} {c : Code} {g : GE} {B : Nat}   {Q : State → Prop} {x : ST} {nf : Nat} {s0 : (ST × Int32)} (F : Fx p s m args meth c cX11_takeOver 2 "DustParishModel" 43 g B) (hX0 : V p l e 2 0 s m args below meth c Q KM 43 g B 2 0 x 160 [(0, .ref (gA g 0))] []) (hl : lp nf (fX11_takeOver_115) s0 = some x) : V p l e 2 0 s m args below meth c Q KM 43 g B 2 0 s0.1 115 [(0, .ref (gA g 0)), (1, .int s0.2)] [] := by
  refine lp_ind (P := fun s0 => V p l e 2 0 s m args below meth c Q KM 43 g B 2 0 s0.1 115 [(0, .ref (gA g 0)), (1, .int s0.2)] []) ?_ nf s0 hl
  intro s1 y hf hk hx
  have hx0 : ∀ v : ST, y = Sum.inr v → V p l e 2 0 s m args below meth c Q KM 43 g B 2 0 v 160 [(0, .ref (gA g 0))] [] := fun v e9 => by rw [hx v e9]; exact hX0
  unfold fX11_takeOver_115 at hf
  refine v_iload_n (pc := 115) (j := 1) F dX11_takeOver_115 rfl rfl ?_
  refine v_bipush (pc := 116) (v := 9) F dX11_takeOver_116 bp_9 ?_
  refine v_icmp_ge (pc := 118) (tgt := 160) F dX11_takeOver_118 (by decide) (fun c35 => ?_) (fun c35 => ?_)
  · have hf := ite_t hf c35
    refine V.sub (lv' := [(0, .ref (gA g 0))]) [0] rfl ?_
    exact hx0 s1.1 (Option.some.inj hf).symm
  · have hf := ite_f hf c35
    refine v_aload_n (pc := 121) (j := 0) F dX11_takeOver_121 rfl rfl ?_
    refine v_ifl (pc := 122) F fl_X11_87 dX11_takeOver_122 km_0.1 km_0.2 fv_10_29 ?_
    refine v_iload_n (pc := 125) (j := 1) F dX11_takeOver_125 rfl rfl ?_
    refine v_iload_n (pc := 126) (j := 1) F dX11_takeOver_126 rfl rfl ?_
    refine v_aload_n (pc := 127) (j := 0) F dX11_takeOver_127 rfl rfl ?_
    refine v_ifl (pc := 128) F fl_X11_36 dX11_takeOver_128 km_0.1 km_0.2 fv_10_3 ?_
    refine v_iconst (pc := 131) (v := 0) F dX11_takeOver_131 ic_0 ?_
    obtain ⟨v36, e37, hf⟩ := bnd_some hf
    refine v_iald (pc := 132) F dX11_takeOver_132 km_3.1 km_3.2 e37 ?_
    refine v_icmp_ge (pc := 133) (tgt := 145) F dX11_takeOver_133 (by decide) (fun c38 => ?_) (fun c38 => ?_)
    · have hf := ite_t hf c38
      refine v_iconst (pc := 145) (v := 0) F dX11_takeOver_145 ic_0 ?_
      exact tX11_takeOver_146 F hk hx0 hf
    · have hf := ite_f hf c38
      refine v_aload_n (pc := 136) (j := 0) F dX11_takeOver_136 rfl rfl ?_
      refine v_ifl (pc := 137) F fl_X11_44 dX11_takeOver_137 km_0.1 km_0.2 fv_10_6 ?_
      refine v_iload_n (pc := 140) (j := 1) F dX11_takeOver_140 rfl rfl ?_
      obtain ⟨v43, e44, hf⟩ := bnd_some hf
      refine v_iald (pc := 141) F dX11_takeOver_141 km_6.1 km_6.2 e44 ?_
      refine v_goto (pc := 142) (tgt := 146) F dX11_takeOver_142 (by decide) ?_
      exact tX11_takeOver_146 F hk hx0 hf
set_option maxRecDepth 100000 in
set_option maxHeartbeats 4000000 in
theorem tX11_takeOver_162 {p : Program} {l : Launch} {e : Env} {s : State} {m : MethodId} {args : Array Value} {below : List Frame} {meth : Method} {c : Code} {g : GE} {B : Nat}   {Q : State → Prop} {x : ST} {nf : Nat} {s0 : (ST × Int32)} (F : Fx p s m args meth c cX11_takeOver 2 "DustParishModel" 43 g B) (hX0 : V p l e 2 0 s m args below meth c Q KM 43 g B 2 0 x 186 [(0, .ref (gA g 0))] []) (hl : lp nf (fX11_takeOver_162) s0 = some x) : V p l e 2 0 s m args below meth c Q KM 43 g B 2 0 s0.1 162 [(0, .ref (gA g 0)), (1, .int s0.2)] [] := by
  refine lp_ind (P := fun s0 => V p l e 2 0 s m args below meth c Q KM 43 g B 2 0 s0.1 162 [(0, .ref (gA g 0)), (1, .int s0.2)] []) ?_ nf s0 hl
  intro s1 y hf hk hx
  have hx0 : ∀ v : ST, y = Sum.inr v → V p l e 2 0 s m args below meth c Q KM 43 g B 2 0 v 186 [(0, .ref (gA g 0))] [] := fun v e9 => by rw [hx v e9]; exact hX0
  unfold fX11_takeOver_162 at hf
  refine v_iload_n (pc := 162) (j := 1) F dX11_takeOver_162 rfl rfl ?_
  refine v_bipush (pc := 163) (v := 10) F dX11_takeOver_163 bp_10 ?_
  refine v_icmp_ge (pc := 165) (tgt := 186) F dX11_takeOver_165 (by decide) (fun c47 => ?_) (fun c47 => ?_)
  · have hf := ite_t hf c47
    refine V.sub (lv' := [(0, .ref (gA g 0))]) [0] rfl ?_
    exact hx0 s1.1 (Option.some.inj hf).symm
  · have hf := ite_f hf c47
    refine v_aload_n (pc := 168) (j := 0) F dX11_takeOver_168 rfl rfl ?_
    refine v_ifl (pc := 169) F fl_X11_91 dX11_takeOver_169 km_0.1 km_0.2 fv_10_31 ?_
    refine v_iload_n (pc := 172) (j := 1) F dX11_takeOver_172 rfl rfl ?_
    refine v_aload_n (pc := 173) (j := 0) F dX11_takeOver_173 rfl rfl ?_
    refine v_ifl (pc := 174) F fl_X11_71 dX11_takeOver_174 km_0.1 km_0.2 fv_10_15 ?_
    refine v_iload_n (pc := 177) (j := 1) F dX11_takeOver_177 rfl rfl ?_
    obtain ⟨v48, e49, hf⟩ := bnd_some hf
    refine v_iald (pc := 178) F dX11_takeOver_178 km_15.1 km_15.2 e49 ?_
    obtain ⟨h50, e51, hf⟩ := bnd_some hf
    refine v_iast (pc := 179) F dX11_takeOver_179 km_21.1 km_21.2 e51 ?_
    refine v_iinc (pc := 180) (j := 1) (v := s1.2 + 1) (lv' := [(0, .ref (gA g 0)), (1, .int (s1.2 + 1))]) F dX11_takeOver_180 rfl (congrArg (fun z => s1.2 + z) ic_1) (by decide) rfl ?_
    refine v_goto (pc := 183) (tgt := 162) F dX11_takeOver_183 (by decide) ?_
    exact hk (h50, s1.2 + 1) (Option.some.inj hf).symm
set_option maxRecDepth 100000 in
set_option maxHeartbeats 4000000 in
theorem kX11_takeOver {l : Launch} {g : GE} {B : Nat} {h : ST} {y : ST} (hf : fX11_takeOver h = some y) : CT l yX11_takeOver cX11_takeOver 2 none 2 KM 43 g B [.ref (gA g 0)] h none y := by
  refine CT.of pn_X11 (Nat.le_of_ble_eq_true rfl) ?_
  intro p e s m below meth c hr F
  have F : Fx p s m _ meth c cX11_takeOver 2 "DustParishModel" 43 g B := F
  refine V_lv (lv' := [(0, .ref (gA g 0))]) rfl ?_
  unfold fX11_takeOver at hf
  refine v_aload_n (pc := 0) (j := 0) F dX11_takeOver_0 rfl rfl ?_
  refine v_ifl (pc := 1) F fl_X11_36 dX11_takeOver_1 km_0.1 km_0.2 fv_10_3 ?_
  obtain ⟨r1, e2, hf⟩ := bnd_some hf
  refine v_callSv (pc := 4) (As := [.ref (gA g 3)]) F cl_X11_329 dX11_takeOver_4 (kX11_takeHalf km_3.1 km_3.2 e2) rfl rfl (Nat.le_of_ble_eq_true rfl) (by decide) (Nat.zero_le _) ?_
  refine v_aload_n (pc := 7) (j := 0) F dX11_takeOver_7 rfl rfl ?_
  refine v_ifl (pc := 8) F fl_X11_40 dX11_takeOver_8 km_0.1 km_0.2 fv_10_4 ?_
  obtain ⟨r3, e4, hf⟩ := bnd_some hf
  refine v_callSv (pc := 11) (As := [.ref (gA g 4)]) F cl_X11_329 dX11_takeOver_11 (kX11_takeHalf km_4.1 km_4.2 e4) rfl rfl (Nat.le_of_ble_eq_true rfl) (by decide) (Nat.zero_le _) ?_
  refine v_aload_n (pc := 14) (j := 0) F dX11_takeOver_14 rfl rfl ?_
  refine v_ifl (pc := 15) F fl_X11_42 dX11_takeOver_15 km_0.1 km_0.2 fv_10_5 ?_
  obtain ⟨r5, e6, hf⟩ := bnd_some hf
  refine v_callSv (pc := 18) (As := [.ref (gA g 5)]) F cl_X11_329 dX11_takeOver_18 (kX11_takeHalf km_5.1 km_5.2 e6) rfl rfl (Nat.le_of_ble_eq_true rfl) (by decide) (Nat.zero_le _) ?_
  refine v_aload_n (pc := 21) (j := 0) F dX11_takeOver_21 rfl rfl ?_
  refine v_ifl (pc := 22) F fl_X11_44 dX11_takeOver_22 km_0.1 km_0.2 fv_10_6 ?_
  obtain ⟨r7, e8, hf⟩ := bnd_some hf
  refine v_callSv (pc := 25) (As := [.ref (gA g 6)]) F cl_X11_329 dX11_takeOver_25 (kX11_takeHalf km_6.1 km_6.2 e8) rfl rfl (Nat.le_of_ble_eq_true rfl) (by decide) (Nat.zero_le _) ?_
  refine v_aload_n (pc := 28) (j := 0) F dX11_takeOver_28 rfl rfl ?_
  refine v_ifl (pc := 29) F fl_X11_47 dX11_takeOver_29 km_0.1 km_0.2 fv_10_7 ?_
  obtain ⟨r9, e10, hf⟩ := bnd_some hf
  refine v_callSv (pc := 32) (As := [.ref (gA g 7)]) F cl_X11_329 dX11_takeOver_32 (kX11_takeHalf km_7.1 km_7.2 e10) rfl rfl (Nat.le_of_ble_eq_true rfl) (by decide) (Nat.zero_le _) ?_
  refine v_aload_n (pc := 35) (j := 0) F dX11_takeOver_35 rfl rfl ?_
  refine v_ifl (pc := 36) F fl_X11_50 dX11_takeOver_36 km_0.1 km_0.2 fv_10_8 ?_
  obtain ⟨r11, e12, hf⟩ := bnd_some hf
  refine v_callSv (pc := 39) (As := [.ref (gA g 8)]) F cl_X11_329 dX11_takeOver_39 (kX11_takeHalf km_8.1 km_8.2 e12) rfl rfl (Nat.le_of_ble_eq_true rfl) (by decide) (Nat.zero_le _) ?_
  refine v_aload_n (pc := 42) (j := 0) F dX11_takeOver_42 rfl rfl ?_
  refine v_ifl (pc := 43) F fl_X11_53 dX11_takeOver_43 km_0.1 km_0.2 fv_10_9 ?_
  obtain ⟨r13, e14, hf⟩ := bnd_some hf
  refine v_callSv (pc := 46) (As := [.ref (gA g 9)]) F cl_X11_329 dX11_takeOver_46 (kX11_takeHalf km_9.1 km_9.2 e14) rfl rfl (Nat.le_of_ble_eq_true rfl) (by decide) (Nat.zero_le _) ?_
  refine v_aload_n (pc := 49) (j := 0) F dX11_takeOver_49 rfl rfl ?_
  refine v_ifl (pc := 50) F fl_X11_56 dX11_takeOver_50 km_0.1 km_0.2 fv_10_10 ?_
  obtain ⟨r15, e16, hf⟩ := bnd_some hf
  refine v_callSv (pc := 53) (As := [.ref (gA g 10)]) F cl_X11_329 dX11_takeOver_53 (kX11_takeHalf km_10.1 km_10.2 e16) rfl rfl (Nat.le_of_ble_eq_true rfl) (by decide) (Nat.zero_le _) ?_
  refine v_aload_n (pc := 56) (j := 0) F dX11_takeOver_56 rfl rfl ?_
  refine v_ifl (pc := 57) F fl_X11_59 dX11_takeOver_57 km_0.1 km_0.2 fv_10_11 ?_
  obtain ⟨r17, e18, hf⟩ := bnd_some hf
  refine v_callSv (pc := 60) (As := [.ref (gA g 11)]) F cl_X11_329 dX11_takeOver_60 (kX11_takeHalf km_11.1 km_11.2 e18) rfl rfl (Nat.le_of_ble_eq_true rfl) (by decide) (Nat.zero_le _) ?_
  refine v_aload_n (pc := 63) (j := 0) F dX11_takeOver_63 rfl rfl ?_
  refine v_ifl (pc := 64) F fl_X11_62 dX11_takeOver_64 km_0.1 km_0.2 fv_10_12 ?_
  obtain ⟨r19, e20, hf⟩ := bnd_some hf
  refine v_callSv (pc := 67) (As := [.ref (gA g 12)]) F cl_X11_329 dX11_takeOver_67 (kX11_takeHalf km_12.1 km_12.2 e20) rfl rfl (Nat.le_of_ble_eq_true rfl) (by decide) (Nat.zero_le _) ?_
  refine v_aload_n (pc := 70) (j := 0) F dX11_takeOver_70 rfl rfl ?_
  refine v_ifl (pc := 71) F fl_X11_65 dX11_takeOver_71 km_0.1 km_0.2 fv_10_13 ?_
  obtain ⟨r21, e22, hf⟩ := bnd_some hf
  refine v_callSv (pc := 74) (As := [.ref (gA g 13)]) F cl_X11_329 dX11_takeOver_74 (kX11_takeHalf km_13.1 km_13.2 e22) rfl rfl (Nat.le_of_ble_eq_true rfl) (by decide) (Nat.zero_le _) ?_
  refine v_aload_n (pc := 77) (j := 0) F dX11_takeOver_77 rfl rfl ?_
  refine v_ifl (pc := 78) F fl_X11_68 dX11_takeOver_78 km_0.1 km_0.2 fv_10_14 ?_
  obtain ⟨r23, e24, hf⟩ := bnd_some hf
  refine v_callSv (pc := 81) (As := [.ref (gA g 14)]) F cl_X11_329 dX11_takeOver_81 (kX11_takeHalf km_14.1 km_14.2 e24) rfl rfl (Nat.le_of_ble_eq_true rfl) (by decide) (Nat.zero_le _) ?_
  refine v_aload_n (pc := 84) (j := 0) F dX11_takeOver_84 rfl rfl ?_
  refine v_ifl (pc := 85) F fl_X11_71 dX11_takeOver_85 km_0.1 km_0.2 fv_10_15 ?_
  obtain ⟨r25, e26, hf⟩ := bnd_some hf
  refine v_callSv (pc := 88) (As := [.ref (gA g 15)]) F cl_X11_329 dX11_takeOver_88 (kX11_takeHalf km_15.1 km_15.2 e26) rfl rfl (Nat.le_of_ble_eq_true rfl) (by decide) (Nat.zero_le _) ?_
  refine v_aload_n (pc := 91) (j := 0) F dX11_takeOver_91 rfl rfl ?_
  refine v_ifl (pc := 92) F fl_X11_74 dX11_takeOver_92 km_0.1 km_0.2 fv_10_16 ?_
  obtain ⟨r27, e28, hf⟩ := bnd_some hf
  refine v_callSv (pc := 95) (As := [.ref (gA g 16)]) F cl_X11_329 dX11_takeOver_95 (kX11_takeHalf km_16.1 km_16.2 e28) rfl rfl (Nat.le_of_ble_eq_true rfl) (by decide) (Nat.zero_le _) ?_
  refine v_aload_n (pc := 98) (j := 0) F dX11_takeOver_98 rfl rfl ?_
  refine v_iconst (pc := 99) (v := 0) F dX11_takeOver_99 ic_0 ?_
  obtain ⟨h29, e30, hf⟩ := bnd_some hf
  refine v_pfl (pc := 100) F fl_X11_333 pl_10_33 dX11_takeOver_100 km_0.1 km_0.2 fv_10_33 rfl rfl e30 ?_
  refine v_aload_n (pc := 103) (j := 0) F dX11_takeOver_103 rfl rfl ?_
  refine v_iconst (pc := 104) (v := 0) F dX11_takeOver_104 ic_0 ?_
  obtain ⟨h31, e32, hf⟩ := bnd_some hf
  refine v_pfl (pc := 105) F fl_X11_335 pl_10_34 dX11_takeOver_105 km_0.1 km_0.2 fv_10_34 rfl rfl e32 ?_
  refine v_aload_n (pc := 108) (j := 0) F dX11_takeOver_108 rfl rfl ?_
  refine v_iconst (pc := 109) (v := 0) F dX11_takeOver_109 ic_0 ?_
  obtain ⟨h33, e34, hf⟩ := bnd_some hf
  refine v_pfl (pc := 110) F fl_X11_338 pl_10_35 dX11_takeOver_110 km_0.1 km_0.2 fv_10_35 rfl rfl e34 ?_
  refine v_iconst (pc := 113) (v := 0) F dX11_takeOver_113 ic_0 ?_
  refine v_istore_n (pc := 114) (lv' := [(0, .ref (gA g 0)), (1, .int 0)]) F dX11_takeOver_114 rfl (by decide) rfl ?_
  obtain ⟨x45, e46, hf⟩ := bnd_some hf
  refine tX11_takeOver_115 (s0 := (h33, 0)) F ?_ e46
  refine v_iconst (pc := 160) (v := 0) F dX11_takeOver_160 ic_0 ?_
  refine v_istore_n (pc := 161) (lv' := [(0, .ref (gA g 0)), (1, .int 0)]) F dX11_takeOver_161 rfl (by decide) rfl ?_
  obtain ⟨x52, e53, hf⟩ := bnd_some hf
  refine tX11_takeOver_162 (s0 := (x45, 0)) F ?_ e53
  refine v_aload_n (pc := 186) (j := 0) F dX11_takeOver_186 rfl rfl ?_
  refine v_iconst (pc := 187) (v := 0) F dX11_takeOver_187 ic_0 ?_
  obtain ⟨h54, e55, hf⟩ := bnd_some hf
  refine v_pfl (pc := 188) F fl_X11_341 pl_10_36 dX11_takeOver_188 km_0.1 km_0.2 fv_10_36 rfl rfl e55 ?_
  refine v_aload_n (pc := 191) (j := 0) F dX11_takeOver_191 rfl rfl ?_
  refine v_iconst (pc := 192) (v := 0) F dX11_takeOver_192 ic_0 ?_
  obtain ⟨h56, e57, hf⟩ := bnd_some hf
  refine v_pfl (pc := 193) F fl_X11_344 pl_10_37 dX11_takeOver_193 km_0.1 km_0.2 fv_10_37 rfl rfl e57 ?_
  refine v_aload_n (pc := 196) (j := 0) F dX11_takeOver_196 rfl rfl ?_
  refine v_iconst (pc := 197) (v := 0) F dX11_takeOver_197 ic_0 ?_
  obtain ⟨h58, e59, hf⟩ := bnd_some hf
  refine v_pfl (pc := 198) F fl_X11_347 pl_10_54 dX11_takeOver_198 km_0.1 km_0.2 fv_10_54 rfl rfl e59 ?_
  exact v_vret (pc := 201) F hr dX11_takeOver_201 (Option.some.inj hf) (Nat.zero_le _)
def fX11_parish_17 (h : ST)  : Option (Int32 × ST) :=
  bnd (fX11_fail h 1) fun r4 =>
  some (r4.1, r4.2)
def fX11_parish_85 (h : ST) (l2 : Int32) (q1 : Int32) (q2 : Int32) : Option ((ST × Int32) ⊕ ST) :=
  bnd (wr 14 h 3 q1 q2) fun h20 =>
  some (.inl (h20, l2 + 1))
def fX11_parish_50 (s1 : (ST × Int32)) : Option ((ST × Int32) ⊕ ST) :=
  if 7 ≤ s1.2 then
  some (.inr s1.1)
  else
  if s1.2 = 4 then
    fX11_parish_85 s1.1 s1.2 (7 + s1.2) 7
    else
    if s1.2 = 5 then
      fX11_parish_85 s1.1 s1.2 (7 + s1.2) 10
      else
      fX11_parish_85 s1.1 s1.2 (7 + s1.2) 0
def fX11_parish_98 (s1 : (ST × Int32)) : Option ((ST × Int32) ⊕ ST) :=
  if (s1.1 0 26) = 0 then
  if (s1.1 0 22) = 0 then
    some (.inr s1.1)
    else
    bnd (fX11_readLine s1.1 s1.2) fun r28 =>
      some (.inl (r28.2, r28.1))
  else
  some (.inr s1.1)
def fX11_parish_121 (h : ST)  : Option (Int32 × ST) :=
  if (h 0 26) = 0 then
  bnd (fX11_takeOver h) fun r33 =>
    some (0, r33)
  else
  bnd (pw h 0 28 (h 0 27)) fun h35 =>
    bnd (rd 3 (h35 17) 0) fun v37 =>
    bnd (wr 3 h35 17 0 (v37 + 1)) fun h39 =>
    some (h39 0 26, h39)
def fX11_parish (h : ST) (a1 : Int32) : Option (Int32 × ST) :=
  bnd (pw h 0 2 0) fun h1 =>
  if a1 < 0 then
  fX11_parish_17 h1 
  else
  if a1 ≤ (h1 0 19) then
    bnd (pw h1 0 19 0) fun h7 =>
      bnd (pw h7 0 21 a1) fun h9 =>
      bnd (pw h9 0 20 0) fun h11 =>
      bnd (pw h11 0 26 0) fun h13 =>
      bnd (pw h13 0 28 (-1)) fun h15 =>
      bnd (lp FU (fX11_parish_50) (h15, 0)) fun x22 =>
      bnd (fX11_stepOn x22) fun r24 =>
      bnd (lp FU (fX11_parish_98) (r24, 0)) fun x30 =>
      fX11_parish_121 x30 
    else
    fX11_parish_17 h1 
set_option maxRecDepth 100000 in
set_option maxHeartbeats 4000000 in
theorem tX11_parish_17 {p : Program} {l : Launch} {e : Env} {s : State} {m : MethodId} {args : Array Value} {below : List Frame} {meth : Method} {c : Code} {g : GE} {B : Nat} {h : ST}  (F : Fx p s m args meth c cX11_parish 3 "DustParishModel" 43 g B)
    {y : Int32 × ST} (hr : meth.sig.returnType = (some .int)) (hf : fX11_parish_17 h  = some y) : V p l e 76 0 s m args below meth c (MQ below (QO KM 43 g (some (.int y.1)) y.2) args s 0 (6 * 0) (WA 43 g)) KM 43 g B 3 0 h 17 [(0, .ref (gA g 0))] [] := by
  unfold fX11_parish_17 at hf
  refine v_aload_n (pc := 17) (j := 0) F dX11_parish_17 rfl rfl ?_
  refine v_iconst (pc := 18) (v := 1) F dX11_parish_18 ic_1 ?_
  obtain ⟨r4, e5, hf⟩ := bnd_some hf
  refine v_callVi (pc := 19) (As := [.int 1]) F cl_X11_320 dX11_parish_19 (kX11_fail e5) km_0.1 km_0.2 rc_10 rfl rfl (Nat.le_of_ble_eq_true rfl) (by decide) (Nat.zero_le _) ?_
  exact v_iret (pc := 22) F hr dX11_parish_22 (some_fst hf) (some_snd hf) (Nat.zero_le _)
set_option maxRecDepth 100000 in
set_option maxHeartbeats 4000000 in
theorem tX11_parish_85 {p : Program} {l : Launch} {e : Env} {s : State} {m : MethodId} {args : Array Value} {below : List Frame} {meth : Method} {c : Code} {g : GE} {B : Nat} {h : ST}  {l2 : Int32} {q1 : Int32} {q2 : Int32} (F : Fx p s m args meth c cX11_parish 3 "DustParishModel" 43 g B)
    {Q : State → Prop} {y : (ST × Int32) ⊕ ST} (hk : ∀ v : (ST × Int32), y = Sum.inl v → V p l e 76 0 s m args below meth c Q KM 43 g B 3 0 v.1 50 [(0, .ref (gA g 0)), (2, .int v.2)] []) (hx0 : ∀ v : ST, y = Sum.inr v → V p l e 76 0 s m args below meth c Q KM 43 g B 3 0 v 92 [(0, .ref (gA g 0))] []) (hf : fX11_parish_85 h l2 q1 q2 = some y) : V p l e 76 0 s m args below meth c Q KM 43 g B 3 0 h 85 [(0, .ref (gA g 0)), (2, .int l2)] [.int q2, .int q1, .ref (gA g 3)] := by
  unfold fX11_parish_85 at hf
  obtain ⟨h20, e21, hf⟩ := bnd_some hf
  refine v_iast (pc := 85) F dX11_parish_85 km_3.1 km_3.2 e21 ?_
  refine v_iinc (pc := 86) (j := 1) (v := l2 + 1) (lv' := [(0, .ref (gA g 0)), (2, .int (l2 + 1))]) F dX11_parish_86 rfl (congrArg (fun z => l2 + z) ic_1) (by decide) rfl ?_
  refine v_goto (pc := 89) (tgt := 50) F dX11_parish_89 (by decide) ?_
  exact hk (h20, l2 + 1) (Option.some.inj hf).symm
set_option maxRecDepth 100000 in
set_option maxHeartbeats 4000000 in
theorem tX11_parish_50 {p : Program} {l : Launch} {e : Env} {s : State} {m : MethodId} {args : Array Value} {below : List Frame} {meth : Method} {c : Code} {g : GE} {B : Nat}   {Q : State → Prop} {x : ST} {nf : Nat} {s0 : (ST × Int32)} (F : Fx p s m args meth c cX11_parish 3 "DustParishModel" 43 g B) (hX0 : V p l e 76 0 s m args below meth c Q KM 43 g B 3 0 x 92 [(0, .ref (gA g 0))] []) (hl : lp nf (fX11_parish_50) s0 = some x) : V p l e 76 0 s m args below meth c Q KM 43 g B 3 0 s0.1 50 [(0, .ref (gA g 0)), (2, .int s0.2)] [] := by
  refine lp_ind (P := fun s0 => V p l e 76 0 s m args below meth c Q KM 43 g B 3 0 s0.1 50 [(0, .ref (gA g 0)), (2, .int s0.2)] []) ?_ nf s0 hl
  intro s1 y hf hk hx
  have hx0 : ∀ v : ST, y = Sum.inr v → V p l e 76 0 s m args below meth c Q KM 43 g B 3 0 v 92 [(0, .ref (gA g 0))] [] := fun v e9 => by rw [hx v e9]; exact hX0
  unfold fX11_parish_50 at hf
  refine v_iload_n (pc := 50) (j := 1) F dX11_parish_50 rfl rfl ?_
  refine v_bipush (pc := 51) (v := 7) F dX11_parish_51 bp_7 ?_
  refine v_icmp_ge (pc := 53) (tgt := 92) F dX11_parish_53 (by decide) (fun c17 => ?_) (fun c17 => ?_)
  · have hf := ite_t hf c17
    refine V.sub (lv' := [(0, .ref (gA g 0))]) [0] rfl ?_
    exact hx0 s1.1 (Option.some.inj hf).symm
  · have hf := ite_f hf c17
    refine v_aload_n (pc := 56) (j := 0) F dX11_parish_56 rfl rfl ?_
    refine v_ifl (pc := 57) F fl_X11_36 dX11_parish_57 km_0.1 km_0.2 fv_10_3 ?_
    refine v_bipush (pc := 60) (v := 7) F dX11_parish_60 bp_7 ?_
    refine v_iload_n (pc := 62) (j := 1) F dX11_parish_62 rfl rfl ?_
    refine v_iadd (pc := 63) F dX11_parish_63 ?_
    refine v_iload_n (pc := 64) (j := 1) F dX11_parish_64 rfl rfl ?_
    refine v_iconst (pc := 65) (v := 4) F dX11_parish_65 ic_4 ?_
    refine v_icmp_ne (pc := 66) (tgt := 74) F dX11_parish_66 (by decide) (fun c18 => ?_) (fun c18 => ?_)
    · have hf := ite_f hf c18
      refine v_iload_n (pc := 74) (j := 1) F dX11_parish_74 rfl rfl ?_
      refine v_iconst (pc := 75) (v := 5) F dX11_parish_75 ic_5 ?_
      refine v_icmp_ne (pc := 76) (tgt := 84) F dX11_parish_76 (by decide) (fun c19 => ?_) (fun c19 => ?_)
      · have hf := ite_f hf c19
        refine v_iconst (pc := 84) (v := 0) F dX11_parish_84 ic_0 ?_
        exact tX11_parish_85 F hk hx0 hf
      · have hf := ite_t hf c19
        refine v_bipush (pc := 79) (v := 10) F dX11_parish_79 bp_10 ?_
        refine v_goto (pc := 81) (tgt := 85) F dX11_parish_81 (by decide) ?_
        exact tX11_parish_85 F hk hx0 hf
    · have hf := ite_t hf c18
      refine v_bipush (pc := 69) (v := 7) F dX11_parish_69 bp_7 ?_
      refine v_goto (pc := 71) (tgt := 85) F dX11_parish_71 (by decide) ?_
      exact tX11_parish_85 F hk hx0 hf
set_option maxRecDepth 100000 in
set_option maxHeartbeats 4000000 in
theorem tX11_parish_98 {p : Program} {l : Launch} {e : Env} {s : State} {m : MethodId} {args : Array Value} {below : List Frame} {meth : Method} {c : Code} {g : GE} {B : Nat}   {Q : State → Prop} {x : ST} {nf : Nat} {s0 : (ST × Int32)} (F : Fx p s m args meth c cX11_parish 3 "DustParishModel" 43 g B) (hX0 : V p l e 76 0 s m args below meth c Q KM 43 g B 3 0 x 121 [(0, .ref (gA g 0))] []) (hl : lp nf (fX11_parish_98) s0 = some x) : V p l e 76 0 s m args below meth c Q KM 43 g B 3 0 s0.1 98 [(0, .ref (gA g 0)), (2, .int s0.2)] [] := by
  refine lp_ind (P := fun s0 => V p l e 76 0 s m args below meth c Q KM 43 g B 3 0 s0.1 98 [(0, .ref (gA g 0)), (2, .int s0.2)] []) ?_ nf s0 hl
  intro s1 y hf hk hx
  have hx0 : ∀ v : ST, y = Sum.inr v → V p l e 76 0 s m args below meth c Q KM 43 g B 3 0 v 121 [(0, .ref (gA g 0))] [] := fun v e9 => by rw [hx v e9]; exact hX0
  unfold fX11_parish_98 at hf
  refine v_aload_n (pc := 98) (j := 0) F dX11_parish_98 rfl rfl ?_
  refine v_ifl (pc := 99) F fl_X11_208 dX11_parish_99 km_0.1 km_0.2 fv_10_26 ?_
  refine v_if_ne (pc := 102) (tgt := 121) F dX11_parish_102 (by decide) (fun c26 => ?_) (fun c26 => ?_)
  · have hf := ite_f hf c26
    refine V.sub (lv' := [(0, .ref (gA g 0))]) [0] rfl ?_
    exact hx0 s1.1 (Option.some.inj hf).symm
  · have hf := ite_t hf c26
    refine v_aload_n (pc := 105) (j := 0) F dX11_parish_105 rfl rfl ?_
    refine v_ifl (pc := 106) F fl_X11_182 dX11_parish_106 km_0.1 km_0.2 fv_10_22 ?_
    refine v_if_eq (pc := 109) (tgt := 121) F dX11_parish_109 (by decide) (fun c27 => ?_) (fun c27 => ?_)
    · have hf := ite_t hf c27
      refine V.sub (lv' := [(0, .ref (gA g 0))]) [0] rfl ?_
      exact hx0 s1.1 (Option.some.inj hf).symm
    · have hf := ite_f hf c27
      refine v_aload_n (pc := 112) (j := 0) F dX11_parish_112 rfl rfl ?_
      refine v_iload_n (pc := 113) (j := 1) F dX11_parish_113 rfl rfl ?_
      obtain ⟨r28, e29, hf⟩ := bnd_some hf
      refine v_callVi (pc := 114) (As := [.int s1.2]) F cl_X11_323 dX11_parish_114 (kX11_readLine e29) km_0.1 km_0.2 rc_10 rfl rfl (Nat.le_of_ble_eq_true rfl) (by decide) (Nat.zero_le _) ?_
      refine v_istore_n (pc := 117) (lv' := [(0, .ref (gA g 0)), (2, .int r28.1)]) F dX11_parish_117 rfl (by decide) rfl ?_
      refine v_goto (pc := 118) (tgt := 98) F dX11_parish_118 (by decide) ?_
      exact hk (r28.2, r28.1) (Option.some.inj hf).symm
set_option maxRecDepth 100000 in
set_option maxHeartbeats 4000000 in
theorem tX11_parish_121 {p : Program} {l : Launch} {e : Env} {s : State} {m : MethodId} {args : Array Value} {below : List Frame} {meth : Method} {c : Code} {g : GE} {B : Nat} {h : ST}  (F : Fx p s m args meth c cX11_parish 3 "DustParishModel" 43 g B)
    {y : Int32 × ST} (hr : meth.sig.returnType = (some .int)) (hf : fX11_parish_121 h  = some y) : V p l e 76 0 s m args below meth c (MQ below (QO KM 43 g (some (.int y.1)) y.2) args s 0 (6 * 0) (WA 43 g)) KM 43 g B 3 0 h 121 [(0, .ref (gA g 0))] [] := by
  unfold fX11_parish_121 at hf
  refine v_aload_n (pc := 121) (j := 0) F dX11_parish_121 rfl rfl ?_
  refine v_ifl (pc := 122) F fl_X11_208 dX11_parish_122 km_0.1 km_0.2 fv_10_26 ?_
  refine v_if_eq (pc := 125) (tgt := 151) F dX11_parish_125 (by decide) (fun c32 => ?_) (fun c32 => ?_)
  · have hf := ite_t hf c32
    refine v_aload_n (pc := 151) (j := 0) F dX11_parish_151 rfl rfl ?_
    obtain ⟨r33, e34, hf⟩ := bnd_some hf
    refine v_callVv (pc := 152) (As := []) F cl_X11_326 dX11_parish_152 (kX11_takeOver e34) km_0.1 km_0.2 rc_10 rfl rfl (Nat.le_of_ble_eq_true rfl) (by decide) (Nat.zero_le _) ?_
    refine v_iconst (pc := 155) (v := 0) F dX11_parish_155 ic_0 ?_
    exact v_iret (pc := 156) F hr dX11_parish_156 (some_fst hf) (some_snd hf) (Nat.zero_le _)
  · have hf := ite_f hf c32
    refine v_aload_n (pc := 128) (j := 0) F dX11_parish_128 rfl rfl ?_
    refine v_aload_n (pc := 129) (j := 0) F dX11_parish_129 rfl rfl ?_
    refine v_ifl (pc := 130) F fl_X11_211 dX11_parish_130 km_0.1 km_0.2 fv_10_27 ?_
    obtain ⟨h35, e36, hf⟩ := bnd_some hf
    refine v_pfl (pc := 133) F fl_X11_83 pl_10_28 dX11_parish_133 km_0.1 km_0.2 fv_10_28 rfl rfl e36 ?_
    refine v_aload_n (pc := 136) (j := 0) F dX11_parish_136 rfl rfl ?_
    refine v_ifl (pc := 137) F fl_X11_77 dX11_parish_137 km_0.1 km_0.2 fv_10_17 ?_
    refine v_iconst (pc := 140) (v := 0) F dX11_parish_140 ic_0 ?_
    refine v_dup2_11 (pc := 141) F dX11_parish_141 rfl rfl ?_
    obtain ⟨v37, e38, hf⟩ := bnd_some hf
    refine v_iald (pc := 142) F dX11_parish_142 km_17.1 km_17.2 e38 ?_
    refine v_iconst (pc := 143) (v := 1) F dX11_parish_143 ic_1 ?_
    refine v_iadd (pc := 144) F dX11_parish_144 ?_
    obtain ⟨h39, e40, hf⟩ := bnd_some hf
    refine v_iast (pc := 145) F dX11_parish_145 km_17.1 km_17.2 e40 ?_
    refine v_aload_n (pc := 146) (j := 0) F dX11_parish_146 rfl rfl ?_
    refine v_ifl (pc := 147) F fl_X11_208 dX11_parish_147 km_0.1 km_0.2 fv_10_26 ?_
    exact v_iret (pc := 150) F hr dX11_parish_150 (some_fst hf) (some_snd hf) (Nat.zero_le _)
set_option maxRecDepth 100000 in
set_option maxHeartbeats 4000000 in
theorem kX11_parish {l : Launch} {g : GE} {B : Nat} {h : ST} {a1 : Int32} {y : Int32 × ST} (hf : fX11_parish h a1 = some y) : CT l yX11_parish cX11_parish 3 (some .int) 76 KM 43 g B [.ref (gA g 0), .int a1] h (some (.int y.1)) y.2 := by
  refine CT.of pn_X11 (Nat.le_of_ble_eq_true rfl) ?_
  intro p e s m below meth c hr F
  have F : Fx p s m _ meth c cX11_parish 3 "DustParishModel" 43 g B := F
  refine V_lv (lv' := [(0, .ref (gA g 0)), (1, .int a1)]) rfl ?_
  unfold fX11_parish at hf
  refine v_aload_n (pc := 0) (j := 0) F dX11_parish_0 rfl rfl ?_
  refine v_iconst (pc := 1) (v := 0) F dX11_parish_1 ic_0 ?_
  obtain ⟨h1, e2, hf⟩ := bnd_some hf
  refine v_pfl (pc := 2) F fl_X11_157 pl_10_2 dX11_parish_2 km_0.1 km_0.2 fv_10_2 rfl rfl e2 ?_
  refine v_iload_n (pc := 5) (j := 1) F dX11_parish_5 rfl rfl ?_
  refine v_if_lt (pc := 6) (tgt := 17) F dX11_parish_6 (by decide) (fun c3 => ?_) (fun c3 => ?_)
  · have hf := ite_t hf c3
    refine V.sub (lv' := [(0, .ref (gA g 0))]) [0] rfl ?_
    exact tX11_parish_17 F hr hf
  · have hf := ite_f hf c3
    refine v_iload_n (pc := 9) (j := 1) F dX11_parish_9 rfl rfl ?_
    refine v_aload_n (pc := 10) (j := 0) F dX11_parish_10 rfl rfl ?_
    refine v_ifl (pc := 11) F fl_X11_166 dX11_parish_11 km_0.1 km_0.2 fv_10_19 ?_
    refine v_icmp_le (pc := 14) (tgt := 23) F dX11_parish_14 (by decide) (fun c6 => ?_) (fun c6 => ?_)
    · have hf := ite_t hf c6
      refine v_aload_n (pc := 23) (j := 0) F dX11_parish_23 rfl rfl ?_
      refine v_iconst (pc := 24) (v := 0) F dX11_parish_24 ic_0 ?_
      obtain ⟨h7, e8, hf⟩ := bnd_some hf
      refine v_pfl (pc := 25) F fl_X11_166 pl_10_19 dX11_parish_25 km_0.1 km_0.2 fv_10_19 rfl rfl e8 ?_
      refine v_aload_n (pc := 28) (j := 0) F dX11_parish_28 rfl rfl ?_
      refine v_iload_n (pc := 29) (j := 1) F dX11_parish_29 rfl rfl ?_
      obtain ⟨h9, e10, hf⟩ := bnd_some hf
      refine v_pfl (pc := 30) F fl_X11_169 pl_10_21 dX11_parish_30 km_0.1 km_0.2 fv_10_21 rfl rfl e10 ?_
      refine v_aload_n (pc := 33) (j := 0) F dX11_parish_33 rfl rfl ?_
      refine v_iconst (pc := 34) (v := 0) F dX11_parish_34 ic_0 ?_
      obtain ⟨h11, e12, hf⟩ := bnd_some hf
      refine v_pfl (pc := 35) F fl_X11_172 pl_10_20 dX11_parish_35 km_0.1 km_0.2 fv_10_20 rfl rfl e12 ?_
      refine v_aload_n (pc := 38) (j := 0) F dX11_parish_38 rfl rfl ?_
      refine v_iconst (pc := 39) (v := 0) F dX11_parish_39 ic_0 ?_
      obtain ⟨h13, e14, hf⟩ := bnd_some hf
      refine v_pfl (pc := 40) F fl_X11_208 pl_10_26 dX11_parish_40 km_0.1 km_0.2 fv_10_26 rfl rfl e14 ?_
      refine v_aload_n (pc := 43) (j := 0) F dX11_parish_43 rfl rfl ?_
      refine v_iconst (pc := 44) (v := (-1)) F dX11_parish_44 ic_m1 ?_
      obtain ⟨h15, e16, hf⟩ := bnd_some hf
      refine v_pfl (pc := 45) F fl_X11_83 pl_10_28 dX11_parish_45 km_0.1 km_0.2 fv_10_28 rfl rfl e16 ?_
      refine v_iconst (pc := 48) (v := 0) F dX11_parish_48 ic_0 ?_
      refine v_istore_n (pc := 49) (lv' := [(0, .ref (gA g 0)), (1, .int a1), (2, .int 0)]) F dX11_parish_49 rfl (by decide) rfl ?_
      obtain ⟨x22, e23, hf⟩ := bnd_some hf
      refine V.sub (lv' := [(0, .ref (gA g 0)), (2, .int 0)]) [0, 2] rfl ?_
      refine tX11_parish_50 (s0 := (h15, 0)) F ?_ e23
      refine v_aload_n (pc := 92) (j := 0) F dX11_parish_92 rfl rfl ?_
      obtain ⟨r24, e25, hf⟩ := bnd_some hf
      refine v_callVv (pc := 93) (As := []) F cl_X11_233 dX11_parish_93 (kX11_stepOn e25) km_0.1 km_0.2 rc_10 rfl rfl (Nat.le_of_ble_eq_true rfl) (by decide) (Nat.zero_le _) ?_
      refine v_iconst (pc := 96) (v := 0) F dX11_parish_96 ic_0 ?_
      refine v_istore_n (pc := 97) (lv' := [(0, .ref (gA g 0)), (2, .int 0)]) F dX11_parish_97 rfl (by decide) rfl ?_
      obtain ⟨x30, e31, hf⟩ := bnd_some hf
      refine tX11_parish_98 (s0 := (r24, 0)) F ?_ e31
      exact tX11_parish_121 F hr hf
    · have hf := ite_f hf c6
      refine V.sub (lv' := [(0, .ref (gA g 0))]) [0] rfl ?_
      exact tX11_parish_17 F hr hf
def fX11_plan_46 (h : ST)  : Option (Int32 × ST) :=
  bnd (fX11_refuse h 1) fun r8 =>
  some (r8.1, r8.2)
def fX11_plan_52 (h : ST) (l1 : Int32) (l2 : Int32) : Option (Int32 × ST) :=
  bnd (fX11_keep h) fun r11 =>
  bnd (rd 10 (r11 21) l1) fun v13 =>
  bnd (wr 10 r11 21 l1 l2) fun h15 =>
  some (v13, h15)
def fX11_plan (h : ST) (a1 : Int32) (a2 : Int32) : Option (Int32 × ST) :=
  bnd (pw h 0 2 0) fun h1 =>
  bnd (rd 14 (h1 3) 3) fun v3 =>
  bnd (fX11_isIn h1 a1.toInt64 (0 : Int64) ((v3 - 1).toInt64)) fun r5 =>
  if r5 = 0 then
  fX11_plan_46 h1 
  else
  if a2 = 5 then
    fX11_plan_52 h1 a1 a2
    else
    bnd (rd 14 (h1 3) 2) fun v17 =>
      bnd (fX11_isIn h1 a2.toInt64 (0 : Int64) ((v17 - 1).toInt64)) fun r19 =>
      if r19 = 0 then
      fX11_plan_46 h1 
      else
      fX11_plan_52 h1 a1 a2
set_option maxRecDepth 100000 in
set_option maxHeartbeats 4000000 in
theorem tX11_plan_46 {p : Program} {l : Launch} {e : Env} {s : State} {m : MethodId} {args : Array Value} {below : List Frame} {meth : Method} {c : Code} {g : GE} {B : Nat} {h : ST}  (F : Fx p s m args meth c cX11_plan 4 "DustParishModel" 43 g B)
    {y : Int32 × ST} (hr : meth.sig.returnType = (some .int)) (hf : fX11_plan_46 h  = some y) : V p l e 3 0 s m args below meth c (MQ below (QO KM 43 g (some (.int y.1)) y.2) args s 0 (6 * 0) (WA 43 g)) KM 43 g B 4 0 h 46 [(0, .ref (gA g 0))] [] := by
  unfold fX11_plan_46 at hf
  refine v_aload_n (pc := 46) (j := 0) F dX11_plan_46 rfl rfl ?_
  refine v_iconst (pc := 47) (v := 1) F dX11_plan_47 ic_1 ?_
  obtain ⟨r8, e9, hf⟩ := bnd_some hf
  refine v_callVi (pc := 48) (As := [.int 1]) F cl_X11_409 dX11_plan_48 (kX11_refuse e9) km_0.1 km_0.2 rc_10 rfl rfl (Nat.le_of_ble_eq_true rfl) (by decide) (Nat.zero_le _) ?_
  exact v_iret (pc := 51) F hr dX11_plan_51 (some_fst hf) (some_snd hf) (Nat.zero_le _)
set_option maxRecDepth 100000 in
set_option maxHeartbeats 4000000 in
theorem tX11_plan_52 {p : Program} {l : Launch} {e : Env} {s : State} {m : MethodId} {args : Array Value} {below : List Frame} {meth : Method} {c : Code} {g : GE} {B : Nat} {h : ST}  {l1 : Int32} {l2 : Int32} (F : Fx p s m args meth c cX11_plan 4 "DustParishModel" 43 g B)
    {y : Int32 × ST} (hr : meth.sig.returnType = (some .int)) (hf : fX11_plan_52 h l1 l2 = some y) : V p l e 3 0 s m args below meth c (MQ below (QO KM 43 g (some (.int y.1)) y.2) args s 0 (6 * 0) (WA 43 g)) KM 43 g B 4 0 h 52 [(0, .ref (gA g 0)), (1, .int l1), (2, .int l2)] [] := by
  unfold fX11_plan_52 at hf
  refine v_aload_n (pc := 52) (j := 0) F dX11_plan_52 rfl rfl ?_
  obtain ⟨r11, e12, hf⟩ := bnd_some hf
  refine v_callVv (pc := 53) (As := []) F cl_X11_412 dX11_plan_53 (kX11_keep e12) km_0.1 km_0.2 rc_10 rfl rfl (Nat.le_of_ble_eq_true rfl) (by decide) (Nat.zero_le _) ?_
  refine v_aload_n (pc := 56) (j := 0) F dX11_plan_56 rfl rfl ?_
  refine v_ifl (pc := 57) F fl_X11_91 dX11_plan_57 km_0.1 km_0.2 fv_10_31 ?_
  refine v_iload_n (pc := 60) (j := 1) F dX11_plan_60 rfl rfl ?_
  obtain ⟨v13, e14, hf⟩ := bnd_some hf
  refine v_iald (pc := 61) F dX11_plan_61 km_21.1 km_21.2 e14 ?_
  refine v_istore_n (pc := 62) (lv' := [(0, .ref (gA g 0)), (1, .int l1), (2, .int l2), (3, .int v13)]) F dX11_plan_62 rfl (by decide) rfl ?_
  refine v_aload_n (pc := 63) (j := 0) F dX11_plan_63 rfl rfl ?_
  refine v_ifl (pc := 64) F fl_X11_91 dX11_plan_64 km_0.1 km_0.2 fv_10_31 ?_
  refine v_iload_n (pc := 67) (j := 1) F dX11_plan_67 rfl rfl ?_
  refine v_iload_n (pc := 68) (j := 2) F dX11_plan_68 rfl rfl ?_
  obtain ⟨h15, e16, hf⟩ := bnd_some hf
  refine v_iast (pc := 69) F dX11_plan_69 km_21.1 km_21.2 e16 ?_
  refine v_iload_n (pc := 70) (j := 3) F dX11_plan_70 rfl rfl ?_
  exact v_iret (pc := 71) F hr dX11_plan_71 (some_fst hf) (some_snd hf) (Nat.zero_le _)
set_option maxRecDepth 100000 in
set_option maxHeartbeats 4000000 in
theorem kX11_plan {l : Launch} {g : GE} {B : Nat} {h : ST} {a1 : Int32} {a2 : Int32} {y : Int32 × ST} (hf : fX11_plan h a1 a2 = some y) : CT l yX11_plan cX11_plan 4 (some .int) 3 KM 43 g B [.ref (gA g 0), .int a1, .int a2] h (some (.int y.1)) y.2 := by
  refine CT.of pn_X11 (Nat.le_of_ble_eq_true rfl) ?_
  intro p e s m below meth c hr F
  have F : Fx p s m _ meth c cX11_plan 4 "DustParishModel" 43 g B := F
  refine V_lv (lv' := [(0, .ref (gA g 0)), (1, .int a1), (2, .int a2)]) rfl ?_
  unfold fX11_plan at hf
  refine v_aload_n (pc := 0) (j := 0) F dX11_plan_0 rfl rfl ?_
  refine v_iconst (pc := 1) (v := 0) F dX11_plan_1 ic_0 ?_
  obtain ⟨h1, e2, hf⟩ := bnd_some hf
  refine v_pfl (pc := 2) F fl_X11_157 pl_10_2 dX11_plan_2 km_0.1 km_0.2 fv_10_2 rfl rfl e2 ?_
  refine v_iload_n (pc := 5) (j := 1) F dX11_plan_5 rfl rfl ?_
  refine v_i2l (pc := 6) F dX11_plan_6 rfl ?_
  refine v_lconst (pc := 7) (v := 0) F dX11_plan_7 rfl ?_
  refine v_aload_n (pc := 8) (j := 0) F dX11_plan_8 rfl rfl ?_
  refine v_ifl (pc := 9) F fl_X11_36 dX11_plan_9 km_0.1 km_0.2 fv_10_3 ?_
  refine v_iconst (pc := 12) (v := 3) F dX11_plan_12 ic_3 ?_
  obtain ⟨v3, e4, hf⟩ := bnd_some hf
  refine v_iald (pc := 13) F dX11_plan_13 km_3.1 km_3.2 e4 ?_
  refine v_iconst (pc := 14) (v := 1) F dX11_plan_14 ic_1 ?_
  refine v_isub (pc := 15) F dX11_plan_15 ?_
  refine v_i2l (pc := 16) F dX11_plan_16 rfl ?_
  obtain ⟨r5, e6, hf⟩ := bnd_some hf
  refine v_callSi (pc := 17) (As := [.long a1.toInt64, .long (0 : Int64), .long ((v3 - 1).toInt64)]) F cl_X11_160 dX11_plan_17 (kX11_isIn e6) rfl rfl (Nat.le_of_ble_eq_true rfl) (by decide) (Nat.zero_le _) ?_
  refine v_if_eq (pc := 20) (tgt := 46) F dX11_plan_20 (by decide) (fun c7 => ?_) (fun c7 => ?_)
  · have hf := ite_t hf c7
    refine V.sub (lv' := [(0, .ref (gA g 0))]) [0] rfl ?_
    exact tX11_plan_46 F hr hf
  · have hf := ite_f hf c7
    refine v_iload_n (pc := 23) (j := 2) F dX11_plan_23 rfl rfl ?_
    refine v_iconst (pc := 24) (v := 5) F dX11_plan_24 ic_5 ?_
    refine v_icmp_eq (pc := 25) (tgt := 52) F dX11_plan_25 (by decide) (fun c10 => ?_) (fun c10 => ?_)
    · have hf := ite_t hf c10
      exact tX11_plan_52 F hr hf
    · have hf := ite_f hf c10
      refine v_iload_n (pc := 28) (j := 2) F dX11_plan_28 rfl rfl ?_
      refine v_i2l (pc := 29) F dX11_plan_29 rfl ?_
      refine v_lconst (pc := 30) (v := 0) F dX11_plan_30 rfl ?_
      refine v_aload_n (pc := 31) (j := 0) F dX11_plan_31 rfl rfl ?_
      refine v_ifl (pc := 32) F fl_X11_36 dX11_plan_32 km_0.1 km_0.2 fv_10_3 ?_
      refine v_iconst (pc := 35) (v := 2) F dX11_plan_35 ic_2 ?_
      obtain ⟨v17, e18, hf⟩ := bnd_some hf
      refine v_iald (pc := 36) F dX11_plan_36 km_3.1 km_3.2 e18 ?_
      refine v_iconst (pc := 37) (v := 1) F dX11_plan_37 ic_1 ?_
      refine v_isub (pc := 38) F dX11_plan_38 ?_
      refine v_i2l (pc := 39) F dX11_plan_39 rfl ?_
      obtain ⟨r19, e20, hf⟩ := bnd_some hf
      refine v_callSi (pc := 40) (As := [.long a2.toInt64, .long (0 : Int64), .long ((v17 - 1).toInt64)]) F cl_X11_160 dX11_plan_40 (kX11_isIn e20) rfl rfl (Nat.le_of_ble_eq_true rfl) (by decide) (Nat.zero_le _) ?_
      refine v_if_ne (pc := 43) (tgt := 52) F dX11_plan_43 (by decide) (fun c21 => ?_) (fun c21 => ?_)
      · have hf := ite_f hf c21
        exact tX11_plan_52 F hr hf
      · have hf := ite_t hf c21
        refine V.sub (lv' := [(0, .ref (gA g 0))]) [0] rfl ?_
        exact tX11_plan_46 F hr hf
def fX11_poorest_68 (h : ST) (l2 : Int32) (l3 : Int32) : Option ((Int32 × Int32) ⊕ Int32) :=
  some (.inl (l2, l3 + 1))
def fX11_poorest_66 (h : ST) (l3 : Int32) : Option ((Int32 × Int32) ⊕ Int32) :=
  fX11_poorest_68 h l3 l3
def fX11_poorest_36 (h : ST) (s1 : (Int32 × Int32)) : Option ((Int32 × Int32) ⊕ Int32) :=
  bnd (rd 14 (h 3) 0) fun v10 =>
  if v10 ≤ s1.2 then
  some (.inr s1.1)
  else
  if s1.1 = (-1) then
    fX11_poorest_66 h s1.2
    else
    bnd (rd 9 (h 19) s1.2) fun v14 =>
      bnd (rd 9 (h 19) s1.1) fun v16 =>
      if v16 ≤ v14 then
      fX11_poorest_68 h s1.1 s1.2
      else
      fX11_poorest_66 h s1.2
def fX11_poorest (h : ST) (a1 : Int32) : Option (Int32 × ST) :=
  bnd (pw h 0 2 0) fun h1 =>
  bnd (fX11_isAhead h1 a1) fun r3 =>
  if r3 = 0 then
  bnd (fX11_fail h1 1) fun r23 =>
    some (r23.1, r23.2)
  else
  bnd (fX11_pack h1 27 31 0) fun r6 =>
    bnd (fX11_goOn r6 a1) fun r8 =>
    bnd (lp FU (fX11_poorest_36 r8) ((-1), 0)) fun x19 =>
    bnd (fX11_unpack r8 27 31 0) fun r21 =>
    some (x19, r21)
set_option maxRecDepth 100000 in
set_option maxHeartbeats 4000000 in
theorem tX11_poorest_68 {p : Program} {l : Launch} {e : Env} {s : State} {m : MethodId} {args : Array Value} {below : List Frame} {meth : Method} {c : Code} {g : GE} {B : Nat} {h : ST}  {l2 : Int32} {l3 : Int32} (F : Fx p s m args meth c cX11_poorest 4 "DustParishModel" 43 g B)
    {Q : State → Prop} {y : (Int32 × Int32) ⊕ Int32} (hk : ∀ v : (Int32 × Int32), y = Sum.inl v → V p l e 8 0 s m args below meth c Q KM 43 g B 4 0 h 36 [(0, .ref (gA g 0)), (2, .int v.1), (3, .int v.2)] []) (hx0 : ∀ v : Int32, y = Sum.inr v → V p l e 8 0 s m args below meth c Q KM 43 g B 4 0 h 74 [(0, .ref (gA g 0)), (2, .int v)] []) (hf : fX11_poorest_68 h l2 l3 = some y) : V p l e 8 0 s m args below meth c Q KM 43 g B 4 0 h 68 [(0, .ref (gA g 0)), (2, .int l2), (3, .int l3)] [] := by
  unfold fX11_poorest_68 at hf
  refine v_iinc (pc := 68) (j := 2) (v := l3 + 1) (lv' := [(0, .ref (gA g 0)), (2, .int l2), (3, .int (l3 + 1))]) F dX11_poorest_68 rfl (congrArg (fun z => l3 + z) ic_1) (by decide) rfl ?_
  refine v_goto (pc := 71) (tgt := 36) F dX11_poorest_71 (by decide) ?_
  exact hk (l2, l3 + 1) (Option.some.inj hf).symm
set_option maxRecDepth 100000 in
set_option maxHeartbeats 4000000 in
theorem tX11_poorest_66 {p : Program} {l : Launch} {e : Env} {s : State} {m : MethodId} {args : Array Value} {below : List Frame} {meth : Method} {c : Code} {g : GE} {B : Nat} {h : ST}  {l3 : Int32} (F : Fx p s m args meth c cX11_poorest 4 "DustParishModel" 43 g B)
    {Q : State → Prop} {y : (Int32 × Int32) ⊕ Int32} (hk : ∀ v : (Int32 × Int32), y = Sum.inl v → V p l e 8 0 s m args below meth c Q KM 43 g B 4 0 h 36 [(0, .ref (gA g 0)), (2, .int v.1), (3, .int v.2)] []) (hx0 : ∀ v : Int32, y = Sum.inr v → V p l e 8 0 s m args below meth c Q KM 43 g B 4 0 h 74 [(0, .ref (gA g 0)), (2, .int v)] []) (hf : fX11_poorest_66 h l3 = some y) : V p l e 8 0 s m args below meth c Q KM 43 g B 4 0 h 66 [(0, .ref (gA g 0)), (3, .int l3)] [] := by
  unfold fX11_poorest_66 at hf
  refine v_iload_n (pc := 66) (j := 1) F dX11_poorest_66 rfl rfl ?_
  refine v_istore_n (pc := 67) (lv' := [(0, .ref (gA g 0)), (2, .int l3), (3, .int l3)]) F dX11_poorest_67 rfl (by decide) rfl ?_
  exact tX11_poorest_68 F hk hx0 hf
set_option maxRecDepth 100000 in
set_option maxHeartbeats 4000000 in
theorem tX11_poorest_36 {p : Program} {l : Launch} {e : Env} {s : State} {m : MethodId} {args : Array Value} {below : List Frame} {meth : Method} {c : Code} {g : GE} {B : Nat}  {h : ST}  {Q : State → Prop} {x : Int32} {nf : Nat} {s0 : (Int32 × Int32)} (F : Fx p s m args meth c cX11_poorest 4 "DustParishModel" 43 g B) (hX0 : V p l e 8 0 s m args below meth c Q KM 43 g B 4 0 h 74 [(0, .ref (gA g 0)), (2, .int x)] []) (hl : lp nf (fX11_poorest_36 h) s0 = some x) : V p l e 8 0 s m args below meth c Q KM 43 g B 4 0 h 36 [(0, .ref (gA g 0)), (2, .int s0.1), (3, .int s0.2)] [] := by
  refine lp_ind (P := fun s0 => V p l e 8 0 s m args below meth c Q KM 43 g B 4 0 h 36 [(0, .ref (gA g 0)), (2, .int s0.1), (3, .int s0.2)] []) ?_ nf s0 hl
  intro s1 y hf hk hx
  have hx0 : ∀ v : Int32, y = Sum.inr v → V p l e 8 0 s m args below meth c Q KM 43 g B 4 0 h 74 [(0, .ref (gA g 0)), (2, .int v)] [] := fun v e9 => by rw [hx v e9]; exact hX0
  unfold fX11_poorest_36 at hf
  refine v_iload_n (pc := 36) (j := 2) F dX11_poorest_36 rfl rfl ?_
  refine v_aload_n (pc := 37) (j := 0) F dX11_poorest_37 rfl rfl ?_
  refine v_ifl (pc := 38) F fl_X11_36 dX11_poorest_38 km_0.1 km_0.2 fv_10_3 ?_
  refine v_iconst (pc := 41) (v := 0) F dX11_poorest_41 ic_0 ?_
  obtain ⟨v10, e11, hf⟩ := bnd_some hf
  refine v_iald (pc := 42) F dX11_poorest_42 km_3.1 km_3.2 e11 ?_
  refine v_icmp_ge (pc := 43) (tgt := 74) F dX11_poorest_43 (by decide) (fun c12 => ?_) (fun c12 => ?_)
  · have hf := ite_t hf c12
    refine V.sub (lv' := [(0, .ref (gA g 0)), (2, .int s1.1)]) [0, 1] rfl ?_
    exact hx0 s1.1 (Option.some.inj hf).symm
  · have hf := ite_f hf c12
    refine v_iload_n (pc := 46) (j := 1) F dX11_poorest_46 rfl rfl ?_
    refine v_iconst (pc := 47) (v := (-1)) F dX11_poorest_47 ic_m1 ?_
    refine v_icmp_eq (pc := 48) (tgt := 66) F dX11_poorest_48 (by decide) (fun c13 => ?_) (fun c13 => ?_)
    · have hf := ite_t hf c13
      refine V.sub (lv' := [(0, .ref (gA g 0)), (3, .int s1.2)]) [0, 2] rfl ?_
      exact tX11_poorest_66 F hk hx0 hf
    · have hf := ite_f hf c13
      refine v_aload_n (pc := 51) (j := 0) F dX11_poorest_51 rfl rfl ?_
      refine v_ifl (pc := 52) F fl_X11_87 dX11_poorest_52 km_0.1 km_0.2 fv_10_29 ?_
      refine v_iload_n (pc := 55) (j := 2) F dX11_poorest_55 rfl rfl ?_
      obtain ⟨v14, e15, hf⟩ := bnd_some hf
      refine v_iald (pc := 56) F dX11_poorest_56 km_19.1 km_19.2 e15 ?_
      refine v_aload_n (pc := 57) (j := 0) F dX11_poorest_57 rfl rfl ?_
      refine v_ifl (pc := 58) F fl_X11_87 dX11_poorest_58 km_0.1 km_0.2 fv_10_29 ?_
      refine v_iload_n (pc := 61) (j := 1) F dX11_poorest_61 rfl rfl ?_
      obtain ⟨v16, e17, hf⟩ := bnd_some hf
      refine v_iald (pc := 62) F dX11_poorest_62 km_19.1 km_19.2 e17 ?_
      refine v_icmp_ge (pc := 63) (tgt := 68) F dX11_poorest_63 (by decide) (fun c18 => ?_) (fun c18 => ?_)
      · have hf := ite_t hf c18
        exact tX11_poorest_68 F hk hx0 hf
      · have hf := ite_f hf c18
        refine V.sub (lv' := [(0, .ref (gA g 0)), (3, .int s1.2)]) [0, 2] rfl ?_
        exact tX11_poorest_66 F hk hx0 hf
set_option maxRecDepth 100000 in
set_option maxHeartbeats 4000000 in
theorem kX11_poorest {l : Launch} {g : GE} {B : Nat} {h : ST} {a1 : Int32} {y : Int32 × ST} (hf : fX11_poorest h a1 = some y) : CT l yX11_poorest cX11_poorest 4 (some .int) 8 KM 43 g B [.ref (gA g 0), .int a1] h (some (.int y.1)) y.2 := by
  refine CT.of pn_X11 (Nat.le_of_ble_eq_true rfl) ?_
  intro p e s m below meth c hr F
  have F : Fx p s m _ meth c cX11_poorest 4 "DustParishModel" 43 g B := F
  refine V_lv (lv' := [(0, .ref (gA g 0)), (1, .int a1)]) rfl ?_
  unfold fX11_poorest at hf
  refine v_aload_n (pc := 0) (j := 0) F dX11_poorest_0 rfl rfl ?_
  refine v_iconst (pc := 1) (v := 0) F dX11_poorest_1 ic_0 ?_
  obtain ⟨h1, e2, hf⟩ := bnd_some hf
  refine v_pfl (pc := 2) F fl_X11_157 pl_10_2 dX11_poorest_2 km_0.1 km_0.2 fv_10_2 rfl rfl e2 ?_
  refine v_iload_n (pc := 5) (j := 1) F dX11_poorest_5 rfl rfl ?_
  obtain ⟨r3, e4, hf⟩ := bnd_some hf
  refine v_callSi (pc := 6) (As := [.int a1]) F cl_X11_433 dX11_poorest_6 (kX11_isAhead e4) rfl rfl (Nat.le_of_ble_eq_true rfl) (by decide) (Nat.zero_le _) ?_
  refine v_if_ne (pc := 9) (tgt := 18) F dX11_poorest_9 (by decide) (fun c5 => ?_) (fun c5 => ?_)
  · have hf := ite_f hf c5
    refine v_aload_n (pc := 18) (j := 0) F dX11_poorest_18 rfl rfl ?_
    refine v_aload_n (pc := 19) (j := 0) F dX11_poorest_19 rfl rfl ?_
    refine v_ifl (pc := 20) F fl_X11_109 dX11_poorest_20 km_0.1 km_0.2 fv_10_42 ?_
    refine v_iconst (pc := 23) (v := 0) F dX11_poorest_23 ic_0 ?_
    obtain ⟨r6, e7, hf⟩ := bnd_some hf
    refine v_callVv (pc := 24) (As := [.ref (gA g 27), .int 0]) F cl_X11_403 dX11_poorest_24 (kX11_pack km_27.1 km_27.2 e7) km_0.1 km_0.2 rc_10 rfl rfl (Nat.le_of_ble_eq_true rfl) (by decide) (Nat.zero_le _) ?_
    refine v_aload_n (pc := 27) (j := 0) F dX11_poorest_27 rfl rfl ?_
    refine v_iload_n (pc := 28) (j := 1) F dX11_poorest_28 rfl rfl ?_
    obtain ⟨r8, e9, hf⟩ := bnd_some hf
    refine v_callVv (pc := 29) (As := [.int a1]) F cl_X11_415 dX11_poorest_29 (kX11_goOn e9) km_0.1 km_0.2 rc_10 rfl rfl (Nat.le_of_ble_eq_true rfl) (by decide) (Nat.zero_le _) ?_
    refine v_iconst (pc := 32) (v := (-1)) F dX11_poorest_32 ic_m1 ?_
    refine v_istore_n (pc := 33) (lv' := [(0, .ref (gA g 0)), (1, .int a1), (2, .int (-1))]) F dX11_poorest_33 rfl (by decide) rfl ?_
    refine v_iconst (pc := 34) (v := 0) F dX11_poorest_34 ic_0 ?_
    refine v_istore_n (pc := 35) (lv' := [(0, .ref (gA g 0)), (1, .int a1), (2, .int (-1)), (3, .int 0)]) F dX11_poorest_35 rfl (by decide) rfl ?_
    obtain ⟨x19, e20, hf⟩ := bnd_some hf
    refine V.sub (lv' := [(0, .ref (gA g 0)), (2, .int (-1)), (3, .int 0)]) [0, 2, 3] rfl ?_
    refine tX11_poorest_36 (s0 := ((-1), 0)) F ?_ e20
    refine v_aload_n (pc := 74) (j := 0) F dX11_poorest_74 rfl rfl ?_
    refine v_aload_n (pc := 75) (j := 0) F dX11_poorest_75 rfl rfl ?_
    refine v_ifl (pc := 76) F fl_X11_109 dX11_poorest_76 km_0.1 km_0.2 fv_10_42 ?_
    refine v_iconst (pc := 79) (v := 0) F dX11_poorest_79 ic_0 ?_
    obtain ⟨r21, e22, hf⟩ := bnd_some hf
    refine v_callVv (pc := 80) (As := [.ref (gA g 27), .int 0]) F cl_X11_430 dX11_poorest_80 (kX11_unpack km_27.1 km_27.2 e22) km_0.1 km_0.2 rc_10 rfl rfl (Nat.le_of_ble_eq_true rfl) (by decide) (Nat.zero_le _) ?_
    refine v_iload_n (pc := 83) (j := 1) F dX11_poorest_83 rfl rfl ?_
    exact v_iret (pc := 84) F hr dX11_poorest_84 (some_fst hf) (some_snd hf) (Nat.zero_le _)
  · have hf := ite_t hf c5
    refine v_aload_n (pc := 12) (j := 0) F dX11_poorest_12 rfl rfl ?_
    refine v_iconst (pc := 13) (v := 1) F dX11_poorest_13 ic_1 ?_
    obtain ⟨r23, e24, hf⟩ := bnd_some hf
    refine v_callVi (pc := 14) (As := [.int 1]) F cl_X11_320 dX11_poorest_14 (kX11_fail e24) km_0.1 km_0.2 rc_10 rfl rfl (Nat.le_of_ble_eq_true rfl) (by decide) (Nat.zero_le _) ?_
    exact v_iret (pc := 17) F hr dX11_poorest_17 (some_fst hf) (some_snd hf) (Nat.zero_le _)
def fX11_restore (h : ST) : Option (Int32 × ST) :=
  bnd (pw h 0 2 0) fun h1 =>
  if (h1 0 54) = 0 then
  some (0, h1)
  else
  bnd (pw h1 0 36 (h1 0 55)) fun h4 =>
    bnd (pw h4 0 37 (h4 0 56)) fun h6 =>
    bnd (fX11_unpack h6 37 31 0) fun r8 =>
    bnd (fX11_be r8 22 1240 38 1240) fun r10 =>
    bnd (fX11_be r10 33 8 39 8) fun r12 =>
    bnd (fX11_be r12 34 8 40 8) fun r14 =>
    bnd (fX11_be r14 35 8 41 8) fun r16 =>
    bnd (fX11_be r16 17 3 42 3) fun r18 =>
    some (1, r18)
set_option maxRecDepth 100000 in
set_option maxHeartbeats 4000000 in
theorem kX11_restore {l : Launch} {g : GE} {B : Nat} {h : ST} {y : Int32 × ST} (hf : fX11_restore h = some y) : CT l yX11_restore cX11_restore 1 (some .boolean) 2 KM 43 g B [.ref (gA g 0)] h (some (.int y.1)) y.2 := by
  refine CT.of pn_X11 (Nat.le_of_ble_eq_true rfl) ?_
  intro p e s m below meth c hr F
  have F : Fx p s m _ meth c cX11_restore 1 "DustParishModel" 43 g B := F
  refine V_lv (lv' := [(0, .ref (gA g 0))]) rfl ?_
  unfold fX11_restore at hf
  refine v_aload_n (pc := 0) (j := 0) F dX11_restore_0 rfl rfl ?_
  refine v_iconst (pc := 1) (v := 0) F dX11_restore_1 ic_0 ?_
  obtain ⟨h1, e2, hf⟩ := bnd_some hf
  refine v_pfl (pc := 2) F fl_X11_157 pl_10_2 dX11_restore_2 km_0.1 km_0.2 fv_10_2 rfl rfl e2 ?_
  refine v_aload_n (pc := 5) (j := 0) F dX11_restore_5 rfl rfl ?_
  refine v_ifl (pc := 6) F fl_X11_347 dX11_restore_6 km_0.1 km_0.2 fv_10_54 ?_
  refine v_if_ne (pc := 9) (tgt := 14) F dX11_restore_9 (by decide) (fun c3 => ?_) (fun c3 => ?_)
  · have hf := ite_f hf c3
    refine v_aload_n (pc := 14) (j := 0) F dX11_restore_14 rfl rfl ?_
    refine v_aload_n (pc := 15) (j := 0) F dX11_restore_15 rfl rfl ?_
    refine v_ifl (pc := 16) F fl_X11_489 dX11_restore_16 km_0.1 km_0.2 fv_10_55 ?_
    obtain ⟨h4, e5, hf⟩ := bnd_some hf
    refine v_pfl (pc := 19) F fl_X11_341 pl_10_36 dX11_restore_19 km_0.1 km_0.2 fv_10_36 rfl rfl e5 ?_
    refine v_aload_n (pc := 22) (j := 0) F dX11_restore_22 rfl rfl ?_
    refine v_aload_n (pc := 23) (j := 0) F dX11_restore_23 rfl rfl ?_
    refine v_ifl (pc := 24) F fl_X11_492 dX11_restore_24 km_0.1 km_0.2 fv_10_56 ?_
    obtain ⟨h6, e7, hf⟩ := bnd_some hf
    refine v_pfl (pc := 27) F fl_X11_344 pl_10_37 dX11_restore_27 km_0.1 km_0.2 fv_10_37 rfl rfl e7 ?_
    refine v_aload_n (pc := 30) (j := 0) F dX11_restore_30 rfl rfl ?_
    refine v_aload_n (pc := 31) (j := 0) F dX11_restore_31 rfl rfl ?_
    refine v_ifl (pc := 32) F fl_X11_139 dX11_restore_32 km_0.1 km_0.2 fv_10_57 ?_
    refine v_iconst (pc := 35) (v := 0) F dX11_restore_35 ic_0 ?_
    obtain ⟨r8, e9, hf⟩ := bnd_some hf
    refine v_callVv (pc := 36) (As := [.ref (gA g 37), .int 0]) F cl_X11_430 dX11_restore_36 (kX11_unpack km_37.1 km_37.2 e9) km_0.1 km_0.2 rc_10 rfl rfl (Nat.le_of_ble_eq_true rfl) (by decide) (Nat.zero_le _) ?_
    refine v_aload_n (pc := 39) (j := 0) F dX11_restore_39 rfl rfl ?_
    refine v_ifl (pc := 40) F fl_X11_94 dX11_restore_40 km_0.1 km_0.2 fv_10_32 ?_
    refine v_aload_n (pc := 43) (j := 0) F dX11_restore_43 rfl rfl ?_
    refine v_ifl (pc := 44) F fl_X11_142 dX11_restore_44 km_0.1 km_0.2 fv_10_58 ?_
    obtain ⟨r10, e11, hf⟩ := bnd_some hf
    refine v_callSv (pc := 47) (As := [.ref (gA g 22), .ref (gA g 38)]) F cl_X11_495 dX11_restore_47 (kX11_be km_22.1 km_22.2 km_38.1 km_38.2 e11) rfl rfl (Nat.le_of_ble_eq_true rfl) (by decide) (Nat.zero_le _) ?_
    refine v_aload_n (pc := 50) (j := 0) F dX11_restore_50 rfl rfl ?_
    refine v_ifl (pc := 51) F fl_X11_127 dX11_restore_51 km_0.1 km_0.2 fv_10_49 ?_
    refine v_aload_n (pc := 54) (j := 0) F dX11_restore_54 rfl rfl ?_
    refine v_ifl (pc := 55) F fl_X11_145 dX11_restore_55 km_0.1 km_0.2 fv_10_59 ?_
    obtain ⟨r12, e13, hf⟩ := bnd_some hf
    refine v_callSv (pc := 58) (As := [.ref (gA g 33), .ref (gA g 39)]) F cl_X11_495 dX11_restore_58 (kX11_be km_33.1 km_33.2 km_39.1 km_39.2 e13) rfl rfl (Nat.le_of_ble_eq_true rfl) (by decide) (Nat.zero_le _) ?_
    refine v_aload_n (pc := 61) (j := 0) F dX11_restore_61 rfl rfl ?_
    refine v_ifl (pc := 62) F fl_X11_130 dX11_restore_62 km_0.1 km_0.2 fv_10_50 ?_
    refine v_aload_n (pc := 65) (j := 0) F dX11_restore_65 rfl rfl ?_
    refine v_ifl (pc := 66) F fl_X11_148 dX11_restore_66 km_0.1 km_0.2 fv_10_60 ?_
    obtain ⟨r14, e15, hf⟩ := bnd_some hf
    refine v_callSv (pc := 69) (As := [.ref (gA g 34), .ref (gA g 40)]) F cl_X11_495 dX11_restore_69 (kX11_be km_34.1 km_34.2 km_40.1 km_40.2 e15) rfl rfl (Nat.le_of_ble_eq_true rfl) (by decide) (Nat.zero_le _) ?_
    refine v_aload_n (pc := 72) (j := 0) F dX11_restore_72 rfl rfl ?_
    refine v_ifl (pc := 73) F fl_X11_133 dX11_restore_73 km_0.1 km_0.2 fv_10_51 ?_
    refine v_aload_n (pc := 76) (j := 0) F dX11_restore_76 rfl rfl ?_
    refine v_ifl (pc := 77) F fl_X11_151 dX11_restore_77 km_0.1 km_0.2 fv_10_61 ?_
    obtain ⟨r16, e17, hf⟩ := bnd_some hf
    refine v_callSv (pc := 80) (As := [.ref (gA g 35), .ref (gA g 41)]) F cl_X11_495 dX11_restore_80 (kX11_be km_35.1 km_35.2 km_41.1 km_41.2 e17) rfl rfl (Nat.le_of_ble_eq_true rfl) (by decide) (Nat.zero_le _) ?_
    refine v_aload_n (pc := 83) (j := 0) F dX11_restore_83 rfl rfl ?_
    refine v_ifl (pc := 84) F fl_X11_77 dX11_restore_84 km_0.1 km_0.2 fv_10_17 ?_
    refine v_aload_n (pc := 87) (j := 0) F dX11_restore_87 rfl rfl ?_
    refine v_ifl (pc := 88) F fl_X11_154 dX11_restore_88 km_0.1 km_0.2 fv_10_62 ?_
    obtain ⟨r18, e19, hf⟩ := bnd_some hf
    refine v_callSv (pc := 91) (As := [.ref (gA g 17), .ref (gA g 42)]) F cl_X11_495 dX11_restore_91 (kX11_be km_17.1 km_17.2 km_42.1 km_42.2 e19) rfl rfl (Nat.le_of_ble_eq_true rfl) (by decide) (Nat.zero_le _) ?_
    refine v_iconst (pc := 94) (v := 1) F dX11_restore_94 ic_1 ?_
    exact v_zret (pc := 95) F hr dX11_restore_95 rfl (some_fst hf) (some_snd hf) (Nat.zero_le _)
  · have hf := ite_t hf c3
    refine v_iconst (pc := 12) (v := 0) F dX11_restore_12 ic_0 ?_
    exact v_zret (pc := 13) F hr dX11_restore_13 rfl (some_fst hf) (some_snd hf) (Nat.zero_le _)
def fX11_riches_58 (h : ST) (l1 : Int32) (l3 : Int32) (q0 : Int32) (q1 : Int32) : Option ((Int32 × Int32) ⊕ Int32) :=
  some (.inl (q0 + q1, l3 + 1))
def fX11_riches_27 (h : ST) (l1 : Int32) (s1 : (Int32 × Int32)) : Option ((Int32 × Int32) ⊕ Int32) :=
  bnd (rd 14 (h 3) 0) fun v6 =>
  if v6 ≤ s1.2 then
  some (.inr s1.1)
  else
  bnd (rd 18 (h 5) s1.2) fun v9 =>
    if v9 = l1 then
    bnd (rd 9 (h 19) s1.2) fun v12 =>
      fX11_riches_58 h l1 s1.2 s1.1 v12
    else
    fX11_riches_58 h l1 s1.2 s1.1 0
def fX11_riches (h : ST) (a1 : Int32) : Option (Int32 × ST) :=
  bnd (pw h 0 2 0) fun h1 =>
  bnd (fX11_isIn h1 a1.toInt64 (0 : Int64) (5 : Int64)) fun r3 =>
  if r3 = 0 then
  bnd (fX11_fail h1 1) fun r16 =>
    some (r16.1, r16.2)
  else
  bnd (lp FU (fX11_riches_27 h1 a1) (0, 0)) fun x14 =>
    some (x14, h1)
set_option maxRecDepth 100000 in
set_option maxHeartbeats 4000000 in
theorem tX11_riches_58 {p : Program} {l : Launch} {e : Env} {s : State} {m : MethodId} {args : Array Value} {below : List Frame} {meth : Method} {c : Code} {g : GE} {B : Nat} {h : ST}  {l1 : Int32} {l3 : Int32} {q0 : Int32} {q1 : Int32} (F : Fx p s m args meth c cX11_riches 4 "DustParishModel" 43 g B)
    {Q : State → Prop} {y : (Int32 × Int32) ⊕ Int32} (hk : ∀ v : (Int32 × Int32), y = Sum.inl v → V p l e 2 0 s m args below meth c Q KM 43 g B 4 0 h 27 [(0, .ref (gA g 0)), (1, .int l1), (2, .int v.1), (3, .int v.2)] []) (hx0 : ∀ v : Int32, y = Sum.inr v → V p l e 2 0 s m args below meth c Q KM 43 g B 4 0 h 66 [(2, .int v)] []) (hf : fX11_riches_58 h l1 l3 q0 q1 = some y) : V p l e 2 0 s m args below meth c Q KM 43 g B 4 0 h 58 [(0, .ref (gA g 0)), (1, .int l1), (3, .int l3)] [.int q1, .int q0] := by
  unfold fX11_riches_58 at hf
  refine v_iadd (pc := 58) F dX11_riches_58 ?_
  refine v_istore_n (pc := 59) (lv' := [(0, .ref (gA g 0)), (1, .int l1), (2, .int (q0 + q1)), (3, .int l3)]) F dX11_riches_59 rfl (by decide) rfl ?_
  refine v_iinc (pc := 60) (j := 3) (v := l3 + 1) (lv' := [(0, .ref (gA g 0)), (1, .int l1), (2, .int (q0 + q1)), (3, .int (l3 + 1))]) F dX11_riches_60 rfl (congrArg (fun z => l3 + z) ic_1) (by decide) rfl ?_
  refine v_goto (pc := 63) (tgt := 27) F dX11_riches_63 (by decide) ?_
  exact hk (q0 + q1, l3 + 1) (Option.some.inj hf).symm
set_option maxRecDepth 100000 in
set_option maxHeartbeats 4000000 in
theorem tX11_riches_27 {p : Program} {l : Launch} {e : Env} {s : State} {m : MethodId} {args : Array Value} {below : List Frame} {meth : Method} {c : Code} {g : GE} {B : Nat}  {h : ST}  {l1 : Int32} {Q : State → Prop} {x : Int32} {nf : Nat} {s0 : (Int32 × Int32)} (F : Fx p s m args meth c cX11_riches 4 "DustParishModel" 43 g B) (hX0 : V p l e 2 0 s m args below meth c Q KM 43 g B 4 0 h 66 [(2, .int x)] []) (hl : lp nf (fX11_riches_27 h l1) s0 = some x) : V p l e 2 0 s m args below meth c Q KM 43 g B 4 0 h 27 [(0, .ref (gA g 0)), (1, .int l1), (2, .int s0.1), (3, .int s0.2)] [] := by
  refine lp_ind (P := fun s0 => V p l e 2 0 s m args below meth c Q KM 43 g B 4 0 h 27 [(0, .ref (gA g 0)), (1, .int l1), (2, .int s0.1), (3, .int s0.2)] []) ?_ nf s0 hl
  intro s1 y hf hk hx
  have hx0 : ∀ v : Int32, y = Sum.inr v → V p l e 2 0 s m args below meth c Q KM 43 g B 4 0 h 66 [(2, .int v)] [] := fun v e9 => by rw [hx v e9]; exact hX0
  unfold fX11_riches_27 at hf
  refine v_iload_n (pc := 27) (j := 3) F dX11_riches_27 rfl rfl ?_
  refine v_aload_n (pc := 28) (j := 0) F dX11_riches_28 rfl rfl ?_
  refine v_ifl (pc := 29) F fl_X11_36 dX11_riches_29 km_0.1 km_0.2 fv_10_3 ?_
  refine v_iconst (pc := 32) (v := 0) F dX11_riches_32 ic_0 ?_
  obtain ⟨v6, e7, hf⟩ := bnd_some hf
  refine v_iald (pc := 33) F dX11_riches_33 km_3.1 km_3.2 e7 ?_
  refine v_icmp_ge (pc := 34) (tgt := 66) F dX11_riches_34 (by decide) (fun c8 => ?_) (fun c8 => ?_)
  · have hf := ite_t hf c8
    refine V.sub (lv' := [(2, .int s1.1)]) [2] rfl ?_
    exact hx0 s1.1 (Option.some.inj hf).symm
  · have hf := ite_f hf c8
    refine v_iload_n (pc := 37) (j := 2) F dX11_riches_37 rfl rfl ?_
    refine v_aload_n (pc := 38) (j := 0) F dX11_riches_38 rfl rfl ?_
    refine v_ifl (pc := 39) F fl_X11_42 dX11_riches_39 km_0.1 km_0.2 fv_10_5 ?_
    refine v_iload_n (pc := 42) (j := 3) F dX11_riches_42 rfl rfl ?_
    obtain ⟨v9, e10, hf⟩ := bnd_some hf
    refine v_iald (pc := 43) F dX11_riches_43 km_5.1 km_5.2 e10 ?_
    refine v_iload_n (pc := 44) (j := 1) F dX11_riches_44 rfl rfl ?_
    refine v_icmp_ne (pc := 45) (tgt := 57) F dX11_riches_45 (by decide) (fun c11 => ?_) (fun c11 => ?_)
    · have hf := ite_f hf c11
      refine v_iconst (pc := 57) (v := 0) F dX11_riches_57 ic_0 ?_
      refine V.sub (lv' := [(0, .ref (gA g 0)), (1, .int l1), (3, .int s1.2)]) [0, 1, 3] rfl ?_
      exact tX11_riches_58 F hk hx0 hf
    · have hf := ite_t hf c11
      refine v_aload_n (pc := 48) (j := 0) F dX11_riches_48 rfl rfl ?_
      refine v_ifl (pc := 49) F fl_X11_87 dX11_riches_49 km_0.1 km_0.2 fv_10_29 ?_
      refine v_iload_n (pc := 52) (j := 3) F dX11_riches_52 rfl rfl ?_
      obtain ⟨v12, e13, hf⟩ := bnd_some hf
      refine v_iald (pc := 53) F dX11_riches_53 km_19.1 km_19.2 e13 ?_
      refine v_goto (pc := 54) (tgt := 58) F dX11_riches_54 (by decide) ?_
      refine V.sub (lv' := [(0, .ref (gA g 0)), (1, .int l1), (3, .int s1.2)]) [0, 1, 3] rfl ?_
      exact tX11_riches_58 F hk hx0 hf
set_option maxRecDepth 100000 in
set_option maxHeartbeats 4000000 in
theorem kX11_riches {l : Launch} {g : GE} {B : Nat} {h : ST} {a1 : Int32} {y : Int32 × ST} (hf : fX11_riches h a1 = some y) : CT l yX11_riches cX11_riches 4 (some .int) 2 KM 43 g B [.ref (gA g 0), .int a1] h (some (.int y.1)) y.2 := by
  refine CT.of pn_X11 (Nat.le_of_ble_eq_true rfl) ?_
  intro p e s m below meth c hr F
  have F : Fx p s m _ meth c cX11_riches 4 "DustParishModel" 43 g B := F
  refine V_lv (lv' := [(0, .ref (gA g 0)), (1, .int a1)]) rfl ?_
  unfold fX11_riches at hf
  refine v_aload_n (pc := 0) (j := 0) F dX11_riches_0 rfl rfl ?_
  refine v_iconst (pc := 1) (v := 0) F dX11_riches_1 ic_0 ?_
  obtain ⟨h1, e2, hf⟩ := bnd_some hf
  refine v_pfl (pc := 2) F fl_X11_157 pl_10_2 dX11_riches_2 km_0.1 km_0.2 fv_10_2 rfl rfl e2 ?_
  refine v_iload_n (pc := 5) (j := 1) F dX11_riches_5 rfl rfl ?_
  refine v_i2l (pc := 6) F dX11_riches_6 rfl ?_
  refine v_lconst (pc := 7) (v := 0) F dX11_riches_7 rfl ?_
  refine v_ldc2 (pc := 8) F tw_1850 dX11_riches_8 ?_
  obtain ⟨r3, e4, hf⟩ := bnd_some hf
  refine v_callSi (pc := 11) (As := [.long a1.toInt64, .long (0 : Int64), .long (5 : Int64)]) F cl_X11_160 dX11_riches_11 (kX11_isIn e4) rfl rfl (Nat.le_of_ble_eq_true rfl) (by decide) (Nat.zero_le _) ?_
  refine v_if_ne (pc := 14) (tgt := 23) F dX11_riches_14 (by decide) (fun c5 => ?_) (fun c5 => ?_)
  · have hf := ite_f hf c5
    refine v_iconst (pc := 23) (v := 0) F dX11_riches_23 ic_0 ?_
    refine v_istore_n (pc := 24) (lv' := [(0, .ref (gA g 0)), (1, .int a1), (2, .int 0)]) F dX11_riches_24 rfl (by decide) rfl ?_
    refine v_iconst (pc := 25) (v := 0) F dX11_riches_25 ic_0 ?_
    refine v_istore_n (pc := 26) (lv' := [(0, .ref (gA g 0)), (1, .int a1), (2, .int 0), (3, .int 0)]) F dX11_riches_26 rfl (by decide) rfl ?_
    obtain ⟨x14, e15, hf⟩ := bnd_some hf
    refine tX11_riches_27 (s0 := (0, 0)) F ?_ e15
    refine v_iload_n (pc := 66) (j := 0) F dX11_riches_66 rfl rfl ?_
    exact v_iret (pc := 67) F hr dX11_riches_67 (some_fst hf) (some_snd hf) (Nat.zero_le _)
  · have hf := ite_t hf c5
    refine v_aload_n (pc := 17) (j := 0) F dX11_riches_17 rfl rfl ?_
    refine v_iconst (pc := 18) (v := 1) F dX11_riches_18 ic_1 ?_
    obtain ⟨r16, e17, hf⟩ := bnd_some hf
    refine v_callVi (pc := 19) (As := [.int 1]) F cl_X11_320 dX11_riches_19 (kX11_fail e17) km_0.1 km_0.2 rc_10 rfl rfl (Nat.le_of_ble_eq_true rfl) (by decide) (Nat.zero_le _) ?_
    exact v_iret (pc := 22) F hr dX11_riches_22 (some_fst hf) (some_snd hf) (Nat.zero_le _)
