def fX6_readPart_190 (h : ST) (q0 : Int32) : Option (Int32 × ST) :=
  some (q0, h)
def fX6_readPart_167 (h : ST) (q0 : Int32) : Option (Int32 × ST) :=
  some (q0, h)
def fX6_readPart_122 (h : ST)  : Option (Int32 × ST) :=
  bnd (pw h 40 4 0) fun h7 =>
  if (h7 39 0) = 2 then
  bnd (rf KC 395 4 (h7 40 7)) fun f17 =>
    bnd (fX5_put h7 f17 (h7 39 2)) fun r19 =>
    if (r19 39 3) = 0 then
    fX6_readPart_167 r19 0
    else
    fX6_readPart_167 r19 2
  else
  bnd (fX6_valueAtHand h7) fun r10 =>
    bnd (rf KC 395 4 (h7 40 7)) fun f12 =>
    bnd (fX5_put h7 f12 r10) fun r14 =>
    if r10 = 0 then
    fX6_readPart_190 r14 3
    else
    fX6_readPart_190 r14 0
def fX6_readPart_121 (h : ST) (q0 : Int32) : Option (Int32 × ST) :=
  some (q0, h)
def fX6_readPart_38 (h : ST) (l1 : Int32) : Option (Int32 × ST) :=
  if (h 40 2) < 6 then
  if l1 = 0 then
    if (h 40 5) = 0 then
      fX6_readPart_122 h 
      else
      bnd (fX9_isWord h 11) fun r22 =>
        if r22 = 0 then
        fX6_readPart_122 h 
        else
        bnd (pw h 40 3 ((h 40 3) + 1)) fun h25 =>
          if (h25 40 3) ≤ 6 then
          bnd (fX6_hold h25 (-13)) fun r28 =>
            fX6_readPart_121 r28.2 r28.1
          else
          fX6_readPart_121 h25 2
    else
    bnd (pw h 40 2 ((h 40 2) + 1)) fun h30 =>
      bnd (fX6_wantNot h30) fun r32 =>
      bnd (fX6_hold r32 0) fun r34 =>
      some (r34.1, r34.2)
  else
  some (2, h)
def fX6_readPart (h : ST) : Option (Int32 × ST) :=
  bnd (fX9_isSign h 40) fun r1 =>
  if r1 = 0 then
  if (h 39 0) = 1 then
    fX6_readPart_38 h r1
    else
    if (h 39 0) = 2 then
      fX6_readPart_38 h r1
      else
      some (1, h)
  else
  fX6_readPart_38 h r1
set_option maxRecDepth 100000 in
set_option maxHeartbeats 4000000 in
theorem tX6_readPart_190 {p : Program} {l : Launch} {e : Env} {s : State} {m : MethodId} {args : Array Value} {below : List Frame} {meth : Method} {c : Code} {g : GE} {B : Nat} {h : ST}  {q0 : Int32} (F : Fx p s m args meth c cX6_readPart 3 "DustParish$RuleReader" 395 g B)
    {y : Int32 × ST} (hr : meth.sig.returnType = (some .int)) (hf : fX6_readPart_190 h q0 = some y) : V p l e 14 0 s m args below meth c (MQ below (QO KC 395 g (some (.int y.1)) y.2) args s 0 (6 * 0) (WA 395 g)) KC 395 g B 3 0 h 190 [] [.int q0] := by
  unfold fX6_readPart_190 at hf
  exact v_iret (pc := 190) F hr dX6_readPart_190 (some_fst hf) (some_snd hf) (Nat.zero_le _)
set_option maxRecDepth 100000 in
set_option maxHeartbeats 4000000 in
theorem tX6_readPart_167 {p : Program} {l : Launch} {e : Env} {s : State} {m : MethodId} {args : Array Value} {below : List Frame} {meth : Method} {c : Code} {g : GE} {B : Nat} {h : ST}  {q0 : Int32} (F : Fx p s m args meth c cX6_readPart 3 "DustParish$RuleReader" 395 g B)
    {y : Int32 × ST} (hr : meth.sig.returnType = (some .int)) (hf : fX6_readPart_167 h q0 = some y) : V p l e 14 0 s m args below meth c (MQ below (QO KC 395 g (some (.int y.1)) y.2) args s 0 (6 * 0) (WA 395 g)) KC 395 g B 3 0 h 167 [] [.int q0] := by
  unfold fX6_readPart_167 at hf
  exact v_iret (pc := 167) F hr dX6_readPart_167 (some_fst hf) (some_snd hf) (Nat.zero_le _)
set_option maxRecDepth 100000 in
set_option maxHeartbeats 4000000 in
theorem tX6_readPart_122 {p : Program} {l : Launch} {e : Env} {s : State} {m : MethodId} {args : Array Value} {below : List Frame} {meth : Method} {c : Code} {g : GE} {B : Nat} {h : ST}  (F : Fx p s m args meth c cX6_readPart 3 "DustParish$RuleReader" 395 g B)
    {y : Int32 × ST} (hr : meth.sig.returnType = (some .int)) (hf : fX6_readPart_122 h  = some y) : V p l e 14 0 s m args below meth c (MQ below (QO KC 395 g (some (.int y.1)) y.2) args s 0 (6 * 0) (WA 395 g)) KC 395 g B 3 0 h 122 [(0, .ref (gA g 40))] [] := by
  unfold fX6_readPart_122 at hf
  refine v_aload_n (pc := 122) (j := 0) F dX6_readPart_122 rfl rfl ?_
  refine v_iconst (pc := 123) (v := 0) F dX6_readPart_123 ic_0 ?_
  obtain ⟨h7, e8, hf⟩ := bnd_some hf
  refine v_pfl (pc := 124) F fl_X6_25 pl_5_4 dX6_readPart_124 kc_40.1 kc_40.2 fv_5_4 rfl rfl e8 ?_
  refine v_aload_n (pc := 127) (j := 0) F dX6_readPart_127 rfl rfl ?_
  refine v_ifl (pc := 128) F fl_X6_32 dX6_readPart_128 kc_40.1 kc_40.2 fv_5_6 ?_
  refine v_ifl (pc := 131) F fl_X6_66 dX6_readPart_131 kc_39.1 kc_39.2 fv_8_0 ?_
  refine v_iconst (pc := 134) (v := 2) F dX6_readPart_134 ic_2 ?_
  refine v_icmp_ne (pc := 135) (tgt := 168) F dX6_readPart_135 (by decide) (fun c9 => ?_) (fun c9 => ?_)
  · have hf := ite_f hf c9
    refine v_aload_n (pc := 168) (j := 0) F dX6_readPart_168 rfl rfl ?_
    obtain ⟨r10, e11, hf⟩ := bnd_some hf
    refine v_callVi (pc := 169) (As := []) F cl_X6_90 dX6_readPart_169 (kX6_valueAtHand e11) kc_40.1 kc_40.2 rc_5 rfl rfl (Nat.le_of_ble_eq_true rfl) (by decide) (Nat.zero_le _) ?_
    refine v_istore_n (pc := 172) (lv' := [(0, .ref (gA g 40)), (2, .int r10)]) F dX6_readPart_172 rfl (by decide) rfl ?_
    refine v_aload_n (pc := 173) (j := 0) F dX6_readPart_173 rfl rfl ?_
    obtain ⟨f12, e13, hf⟩ := bnd_some hf
    obtain ⟨ho_f12, hk_f12, e13⟩ := rf_in e13
    refine v_ifl (pc := 174) F fl_X6_36 dX6_readPart_174 kc_40.1 kc_40.2 (fv_5_7 e13) ?_
    refine v_iload_n (pc := 177) (j := 1) F dX6_readPart_177 rfl rfl ?_
    obtain ⟨r14, e15, hf⟩ := bnd_some hf
    refine v_callVv (pc := 178) (As := [.int r10]) F cl_X6_84 dX6_readPart_178 (kX5_put ho_f12 hk_f12 e15) ho_f12 hk_f12 rc_4 rfl rfl (Nat.le_of_ble_eq_true rfl) (by decide) (Nat.zero_le _) ?_
    refine v_iload_n (pc := 181) (j := 1) F dX6_readPart_181 rfl rfl ?_
    refine v_if_ne (pc := 182) (tgt := 189) F dX6_readPart_182 (by decide) (fun c16 => ?_) (fun c16 => ?_)
    · have hf := ite_f hf c16
      refine v_iconst (pc := 189) (v := 0) F dX6_readPart_189 ic_0 ?_
      refine V.sub (lv' := []) [] rfl ?_
      exact tX6_readPart_190 F hr hf
    · have hf := ite_t hf c16
      refine v_iconst (pc := 185) (v := 3) F dX6_readPart_185 ic_3 ?_
      refine v_goto (pc := 186) (tgt := 190) F dX6_readPart_186 (by decide) ?_
      refine V.sub (lv' := []) [] rfl ?_
      exact tX6_readPart_190 F hr hf
  · have hf := ite_t hf c9
    refine v_aload_n (pc := 138) (j := 0) F dX6_readPart_138 rfl rfl ?_
    obtain ⟨f17, e18, hf⟩ := bnd_some hf
    obtain ⟨ho_f17, hk_f17, e18⟩ := rf_in e18
    refine v_ifl (pc := 139) F fl_X6_36 dX6_readPart_139 kc_40.1 kc_40.2 (fv_5_7 e18) ?_
    refine v_aload_n (pc := 142) (j := 0) F dX6_readPart_142 rfl rfl ?_
    refine v_ifl (pc := 143) F fl_X6_32 dX6_readPart_143 kc_40.1 kc_40.2 fv_5_6 ?_
    refine v_ifl (pc := 146) F fl_X6_81 dX6_readPart_146 kc_39.1 kc_39.2 fv_8_2 ?_
    obtain ⟨r19, e20, hf⟩ := bnd_some hf
    refine v_callVv (pc := 149) (As := [.int (h7 39 2)]) F cl_X6_84 dX6_readPart_149 (kX5_put ho_f17 hk_f17 e20) ho_f17 hk_f17 rc_4 rfl rfl (Nat.le_of_ble_eq_true rfl) (by decide) (Nat.zero_le _) ?_
    refine v_aload_n (pc := 152) (j := 0) F dX6_readPart_152 rfl rfl ?_
    refine v_ifl (pc := 153) F fl_X6_32 dX6_readPart_153 kc_40.1 kc_40.2 fv_5_6 ?_
    refine v_ifl (pc := 156) F fl_X6_87 dX6_readPart_156 kc_39.1 kc_39.2 fv_8_3 ?_
    refine v_if_eq (pc := 159) (tgt := 166) F dX6_readPart_159 (by decide) (fun c21 => ?_) (fun c21 => ?_)
    · have hf := ite_t hf c21
      refine v_iconst (pc := 166) (v := 0) F dX6_readPart_166 ic_0 ?_
      refine V.sub (lv' := []) [] rfl ?_
      exact tX6_readPart_167 F hr hf
    · have hf := ite_f hf c21
      refine v_iconst (pc := 162) (v := 2) F dX6_readPart_162 ic_2 ?_
      refine v_goto (pc := 163) (tgt := 167) F dX6_readPart_163 (by decide) ?_
      refine V.sub (lv' := []) [] rfl ?_
      exact tX6_readPart_167 F hr hf
set_option maxRecDepth 100000 in
set_option maxHeartbeats 4000000 in
theorem tX6_readPart_121 {p : Program} {l : Launch} {e : Env} {s : State} {m : MethodId} {args : Array Value} {below : List Frame} {meth : Method} {c : Code} {g : GE} {B : Nat} {h : ST}  {q0 : Int32} (F : Fx p s m args meth c cX6_readPart 3 "DustParish$RuleReader" 395 g B)
    {y : Int32 × ST} (hr : meth.sig.returnType = (some .int)) (hf : fX6_readPart_121 h q0 = some y) : V p l e 14 0 s m args below meth c (MQ below (QO KC 395 g (some (.int y.1)) y.2) args s 0 (6 * 0) (WA 395 g)) KC 395 g B 3 0 h 121 [] [.int q0] := by
  unfold fX6_readPart_121 at hf
  exact v_iret (pc := 121) F hr dX6_readPart_121 (some_fst hf) (some_snd hf) (Nat.zero_le _)
set_option maxRecDepth 100000 in
set_option maxHeartbeats 4000000 in
theorem tX6_readPart_38 {p : Program} {l : Launch} {e : Env} {s : State} {m : MethodId} {args : Array Value} {below : List Frame} {meth : Method} {c : Code} {g : GE} {B : Nat} {h : ST}  {l1 : Int32} (F : Fx p s m args meth c cX6_readPart 3 "DustParish$RuleReader" 395 g B)
    {y : Int32 × ST} (hr : meth.sig.returnType = (some .int)) (hf : fX6_readPart_38 h l1 = some y) : V p l e 14 0 s m args below meth c (MQ below (QO KC 395 g (some (.int y.1)) y.2) args s 0 (6 * 0) (WA 395 g)) KC 395 g B 3 0 h 38 [(0, .ref (gA g 40)), (1, .int l1)] [] := by
  unfold fX6_readPart_38 at hf
  refine v_aload_n (pc := 38) (j := 0) F dX6_readPart_38 rfl rfl ?_
  refine v_ifl (pc := 39) F fl_X6_19 dX6_readPart_39 kc_40.1 kc_40.2 fv_5_2 ?_
  refine v_bipush (pc := 42) (v := 6) F dX6_readPart_42 bp_6 ?_
  refine v_icmp_lt (pc := 44) (tgt := 49) F dX6_readPart_44 (by decide) (fun c4 => ?_) (fun c4 => ?_)
  · have hf := ite_t hf c4
    refine v_iload_n (pc := 49) (j := 1) F dX6_readPart_49 rfl rfl ?_
    refine v_if_eq (pc := 50) (tgt := 73) F dX6_readPart_50 (by decide) (fun c5 => ?_) (fun c5 => ?_)
    · have hf := ite_t hf c5
      refine v_aload_n (pc := 73) (j := 0) F dX6_readPart_73 rfl rfl ?_
      refine v_ifl (pc := 74) F fl_X6_29 dX6_readPart_74 kc_40.1 kc_40.2 fv_5_5 ?_
      refine v_if_eq (pc := 77) (tgt := 122) F dX6_readPart_77 (by decide) (fun c6 => ?_) (fun c6 => ?_)
      · have hf := ite_t hf c6
        refine V.sub (lv' := [(0, .ref (gA g 40))]) [0] rfl ?_
        exact tX6_readPart_122 F hr hf
      · have hf := ite_f hf c6
        refine v_aload_n (pc := 80) (j := 0) F dX6_readPart_80 rfl rfl ?_
        refine v_ifl (pc := 81) F fl_X6_32 dX6_readPart_81 kc_40.1 kc_40.2 fv_5_6 ?_
        refine v_ldcS (pc := 84) (j := 11) (tx := "not") F (by decide) dX6_readPart_84 ?_
        obtain ⟨r22, e23, hf⟩ := bnd_some hf
        refine v_callVi (pc := 86) (As := [.ref (gK g 11)]) F cl_X6_75 dX6_readPart_86 (kX9_isWord (by decide) e23) kc_39.1 kc_39.2 rc_8 rfl rfl (Nat.le_of_ble_eq_true rfl) (by decide) (Nat.zero_le _) ?_
        refine v_if_eq (pc := 89) (tgt := 122) F dX6_readPart_89 (by decide) (fun c24 => ?_) (fun c24 => ?_)
        · have hf := ite_t hf c24
          refine V.sub (lv' := [(0, .ref (gA g 40))]) [0] rfl ?_
          exact tX6_readPart_122 F hr hf
        · have hf := ite_f hf c24
          refine v_aload_n (pc := 92) (j := 0) F dX6_readPart_92 rfl rfl ?_
          refine v_dup (pc := 93) F dX6_readPart_93 rfl ?_
          refine v_ifl (pc := 94) F fl_X6_22 dX6_readPart_94 kc_40.1 kc_40.2 fv_5_3 ?_
          refine v_iconst (pc := 97) (v := 1) F dX6_readPart_97 ic_1 ?_
          refine v_iadd (pc := 98) F dX6_readPart_98 ?_
          obtain ⟨h25, e26, hf⟩ := bnd_some hf
          refine v_pfl (pc := 99) F fl_X6_22 pl_5_3 dX6_readPart_99 kc_40.1 kc_40.2 fv_5_3 rfl rfl e26 ?_
          refine v_aload_n (pc := 102) (j := 0) F dX6_readPart_102 rfl rfl ?_
          refine v_ifl (pc := 103) F fl_X6_22 dX6_readPart_103 kc_40.1 kc_40.2 fv_5_3 ?_
          refine v_bipush (pc := 106) (v := 6) F dX6_readPart_106 bp_6 ?_
          refine v_icmp_le (pc := 108) (tgt := 115) F dX6_readPart_108 (by decide) (fun c27 => ?_) (fun c27 => ?_)
          · have hf := ite_t hf c27
            refine v_aload_n (pc := 115) (j := 0) F dX6_readPart_115 rfl rfl ?_
            refine v_bipush (pc := 116) (v := (-13)) F dX6_readPart_116 bp_m13 ?_
            obtain ⟨r28, e29, hf⟩ := bnd_some hf
            refine v_callVi (pc := 118) (As := [.int (-13)]) F cl_X6_69 dX6_readPart_118 (kX6_hold e29) kc_40.1 kc_40.2 rc_5 rfl rfl (Nat.le_of_ble_eq_true rfl) (by decide) (Nat.zero_le _) ?_
            refine V.sub (lv' := []) [] rfl ?_
            exact tX6_readPart_121 F hr hf
          · have hf := ite_f hf c27
            refine v_iconst (pc := 111) (v := 2) F dX6_readPart_111 ic_2 ?_
            refine v_goto (pc := 112) (tgt := 121) F dX6_readPart_112 (by decide) ?_
            refine V.sub (lv' := []) [] rfl ?_
            exact tX6_readPart_121 F hr hf
    · have hf := ite_f hf c5
      refine v_aload_n (pc := 53) (j := 0) F dX6_readPart_53 rfl rfl ?_
      refine v_dup (pc := 54) F dX6_readPart_54 rfl ?_
      refine v_ifl (pc := 55) F fl_X6_19 dX6_readPart_55 kc_40.1 kc_40.2 fv_5_2 ?_
      refine v_iconst (pc := 58) (v := 1) F dX6_readPart_58 ic_1 ?_
      refine v_iadd (pc := 59) F dX6_readPart_59 ?_
      obtain ⟨h30, e31, hf⟩ := bnd_some hf
      refine v_pfl (pc := 60) F fl_X6_19 pl_5_2 dX6_readPart_60 kc_40.1 kc_40.2 fv_5_2 rfl rfl e31 ?_
      refine v_aload_n (pc := 63) (j := 0) F dX6_readPart_63 rfl rfl ?_
      obtain ⟨r32, e33, hf⟩ := bnd_some hf
      refine v_callVv (pc := 64) (As := []) F cl_X6_40 dX6_readPart_64 (kX6_wantNot e33) kc_40.1 kc_40.2 rc_5 rfl rfl (Nat.le_of_ble_eq_true rfl) (by decide) (Nat.zero_le _) ?_
      refine v_aload_n (pc := 67) (j := 0) F dX6_readPart_67 rfl rfl ?_
      refine v_iconst (pc := 68) (v := 0) F dX6_readPart_68 ic_0 ?_
      obtain ⟨r34, e35, hf⟩ := bnd_some hf
      refine v_callVi (pc := 69) (As := [.int 0]) F cl_X6_69 dX6_readPart_69 (kX6_hold e35) kc_40.1 kc_40.2 rc_5 rfl rfl (Nat.le_of_ble_eq_true rfl) (by decide) (Nat.zero_le _) ?_
      exact v_iret (pc := 72) F hr dX6_readPart_72 (some_fst hf) (some_snd hf) (Nat.zero_le _)
  · have hf := ite_f hf c4
    refine v_iconst (pc := 47) (v := 2) F dX6_readPart_47 ic_2 ?_
    exact v_iret (pc := 48) F hr dX6_readPart_48 (some_fst hf) (some_snd hf) (Nat.zero_le _)
set_option maxRecDepth 100000 in
set_option maxHeartbeats 4000000 in
theorem kX6_readPart {l : Launch} {g : GE} {B : Nat} {h : ST} {y : Int32 × ST} (hf : fX6_readPart h = some y) : CT l yX6_readPart cX6_readPart 3 (some .int) 14 KC 395 g B [.ref (gA g 40)] h (some (.int y.1)) y.2 := by
  refine CT.of pn_X6 (Nat.le_of_ble_eq_true rfl) ?_
  intro p e s m below meth c hr F
  have F : Fx p s m _ meth c cX6_readPart 3 "DustParish$RuleReader" 395 g B := F
  refine V_lv (lv' := [(0, .ref (gA g 40))]) rfl ?_
  unfold fX6_readPart at hf
  refine v_aload_n (pc := 0) (j := 0) F dX6_readPart_0 rfl rfl ?_
  refine v_ifl (pc := 1) F fl_X6_32 dX6_readPart_1 kc_40.1 kc_40.2 fv_5_6 ?_
  refine v_bipush (pc := 4) (v := 40) F dX6_readPart_4 bp_40 ?_
  obtain ⟨r1, e2, hf⟩ := bnd_some hf
  refine v_callVi (pc := 6) (As := [.int 40]) F cl_X6_43 dX6_readPart_6 (kX9_isSign e2) kc_39.1 kc_39.2 rc_8 rfl rfl (Nat.le_of_ble_eq_true rfl) (by decide) (Nat.zero_le _) ?_
  refine v_istore_n (pc := 9) (lv' := [(0, .ref (gA g 40)), (1, .int r1)]) F dX6_readPart_9 rfl (by decide) rfl ?_
  refine v_iload_n (pc := 10) (j := 1) F dX6_readPart_10 rfl rfl ?_
  refine v_if_ne (pc := 11) (tgt := 38) F dX6_readPart_11 (by decide) (fun c3 => ?_) (fun c3 => ?_)
  · have hf := ite_f hf c3
    exact tX6_readPart_38 F hr hf
  · have hf := ite_t hf c3
    refine v_aload_n (pc := 14) (j := 0) F dX6_readPart_14 rfl rfl ?_
    refine v_ifl (pc := 15) F fl_X6_32 dX6_readPart_15 kc_40.1 kc_40.2 fv_5_6 ?_
    refine v_ifl (pc := 18) F fl_X6_66 dX6_readPart_18 kc_39.1 kc_39.2 fv_8_0 ?_
    refine v_iconst (pc := 21) (v := 1) F dX6_readPart_21 ic_1 ?_
    refine v_icmp_eq (pc := 22) (tgt := 38) F dX6_readPart_22 (by decide) (fun c36 => ?_) (fun c36 => ?_)
    · have hf := ite_t hf c36
      exact tX6_readPart_38 F hr hf
    · have hf := ite_f hf c36
      refine v_aload_n (pc := 25) (j := 0) F dX6_readPart_25 rfl rfl ?_
      refine v_ifl (pc := 26) F fl_X6_32 dX6_readPart_26 kc_40.1 kc_40.2 fv_5_6 ?_
      refine v_ifl (pc := 29) F fl_X6_66 dX6_readPart_29 kc_39.1 kc_39.2 fv_8_0 ?_
      refine v_iconst (pc := 32) (v := 2) F dX6_readPart_32 ic_2 ?_
      refine v_icmp_eq (pc := 33) (tgt := 38) F dX6_readPart_33 (by decide) (fun c37 => ?_) (fun c37 => ?_)
      · have hf := ite_t hf c37
        exact tX6_readPart_38 F hr hf
      · have hf := ite_f hf c37
        refine v_iconst (pc := 36) (v := 1) F dX6_readPart_36 ic_1 ?_
        exact v_iret (pc := 37) F hr dX6_readPart_37 (some_fst hf) (some_snd hf) (Nat.zero_le _)
def fX6_close (h : ST) : Option (Int32 × ST) :=
  if (h 40 2) = 0 then
  some (1, h)
  else
  bnd (fX6_release h 1) fun r2 =>
    bnd (pw r2 40 1 (if (0 : Int32) < ((r2 40 1) - 1) then ((r2 40 1) - 1) else 0)) fun h4 =>
    bnd (pw h4 40 2 ((h4 40 2) - 1)) fun h6 =>
    some (0, h6)
set_option maxRecDepth 100000 in
set_option maxHeartbeats 4000000 in
theorem kX6_close {l : Launch} {g : GE} {B : Nat} {h : ST} {y : Int32 × ST} (hf : fX6_close h = some y) : CT l yX6_close cX6_close 1 (some .int) 3 KC 395 g B [.ref (gA g 40)] h (some (.int y.1)) y.2 := by
  refine CT.of pn_X6 (Nat.le_of_ble_eq_true rfl) ?_
  intro p e s m below meth c hr F
  have F : Fx p s m _ meth c cX6_close 1 "DustParish$RuleReader" 395 g B := F
  refine V_lv (lv' := [(0, .ref (gA g 40))]) rfl ?_
  unfold fX6_close at hf
  refine v_aload_n (pc := 0) (j := 0) F dX6_close_0 rfl rfl ?_
  refine v_ifl (pc := 1) F fl_X6_19 dX6_close_1 kc_40.1 kc_40.2 fv_5_2 ?_
  refine v_if_ne (pc := 4) (tgt := 9) F dX6_close_4 (by decide) (fun c1 => ?_) (fun c1 => ?_)
  · have hf := ite_f hf c1
    refine v_aload_n (pc := 9) (j := 0) F dX6_close_9 rfl rfl ?_
    refine v_iconst (pc := 10) (v := 1) F dX6_close_10 ic_1 ?_
    obtain ⟨r2, e3, hf⟩ := bnd_some hf
    refine v_callVv (pc := 11) (As := [.int 1]) F cl_X6_49 dX6_close_11 (kX6_release e3) kc_40.1 kc_40.2 rc_5 rfl rfl (Nat.le_of_ble_eq_true rfl) (by decide) (Nat.zero_le _) ?_
    refine v_aload_n (pc := 14) (j := 0) F dX6_close_14 rfl rfl ?_
    refine v_iconst (pc := 15) (v := 0) F dX6_close_15 ic_0 ?_
    refine v_aload_n (pc := 16) (j := 0) F dX6_close_16 rfl rfl ?_
    refine v_ifl (pc := 17) F fl_X6_15 dX6_close_17 kc_40.1 kc_40.2 fv_5_1 ?_
    refine v_iconst (pc := 20) (v := 1) F dX6_close_20 ic_1 ?_
    refine v_isub (pc := 21) F dX6_close_21 ?_
    refine v_mmax (pc := 22) F tw_890 mmaxW dX6_close_22 (by decide) (Nat.le_of_ble_eq_true rfl) (Nat.zero_le _) ?_
    obtain ⟨h4, e5, hf⟩ := bnd_some hf
    refine v_pfl (pc := 25) F fl_X6_15 pl_5_1 dX6_close_25 kc_40.1 kc_40.2 fv_5_1 rfl rfl e5 ?_
    refine v_aload_n (pc := 28) (j := 0) F dX6_close_28 rfl rfl ?_
    refine v_dup (pc := 29) F dX6_close_29 rfl ?_
    refine v_ifl (pc := 30) F fl_X6_19 dX6_close_30 kc_40.1 kc_40.2 fv_5_2 ?_
    refine v_iconst (pc := 33) (v := 1) F dX6_close_33 ic_1 ?_
    refine v_isub (pc := 34) F dX6_close_34 ?_
    obtain ⟨h6, e7, hf⟩ := bnd_some hf
    refine v_pfl (pc := 35) F fl_X6_19 pl_5_2 dX6_close_35 kc_40.1 kc_40.2 fv_5_2 rfl rfl e7 ?_
    refine v_iconst (pc := 38) (v := 0) F dX6_close_38 ic_0 ?_
    exact v_iret (pc := 39) F hr dX6_close_39 (some_fst hf) (some_snd hf) (Nat.zero_le _)
  · have hf := ite_t hf c1
    refine v_iconst (pc := 7) (v := 1) F dX6_close_7 ic_1 ?_
    exact v_iret (pc := 8) F hr dX6_close_8 (some_fst hf) (some_snd hf) (Nat.zero_le _)
def fX6_signAtHand_123 (h : ST) (q0 : Int32) : Option (Int32) :=
  some q0
def fX6_signAtHand (h : ST) : Option (Int32) :=
  bnd (fX9_isSign h 43) fun r1 =>
  if r1 = 0 then
  bnd (fX9_isSign h 45) fun r4 =>
    if r4 = 0 then
    bnd (fX9_isSign h 42) fun r7 =>
      if r7 = 0 then
      bnd (fX9_isSign h 47) fun r10 =>
        if r10 = 0 then
        bnd (fX9_isSign h 60) fun r13 =>
          if r13 = 0 then
          bnd (fX9_isSign h 61) fun r16 =>
            if r16 = 0 then
            bnd (fX9_isWord h 18) fun r19 =>
              if r19 = 0 then
              bnd (fX9_isWord h 19) fun r22 =>
                if r22 = 0 then
                fX6_signAtHand_123 h 0
                else
                fX6_signAtHand_123 h (-15)
              else
              some (-14)
            else
            some (-12)
          else
          some (-11)
        else
        some (-10)
      else
      some (-9)
    else
    some (-8)
  else
  some (-7)
set_option maxRecDepth 100000 in
set_option maxHeartbeats 4000000 in
theorem tX6_signAtHand_123 {p : Program} {l : Launch} {e : Env} {s : State} {m : MethodId} {args : Array Value} {below : List Frame} {meth : Method} {c : Code} {g : GE} {B : Nat} {h : ST}  {q0 : Int32} (F : Fx p s m args meth c cX6_signAtHand 1 "DustParish$RuleReader" 395 g B)
    {y : Int32} (hr : meth.sig.returnType = (some .int)) (hf : fX6_signAtHand_123 h q0 = some y) : V p l e 13 0 s m args below meth c (MQ below (QO KC 395 g (some (.int y)) h) args s 0 (6 * 0) (WA 395 g)) KC 395 g B 1 0 h 123 [] [.int q0] := by
  unfold fX6_signAtHand_123 at hf
  exact v_iret (pc := 123) F hr dX6_signAtHand_123 (Option.some.inj hf) rfl (Nat.zero_le _)
set_option maxRecDepth 100000 in
set_option maxHeartbeats 4000000 in
theorem kX6_signAtHand {l : Launch} {g : GE} {B : Nat} {h : ST} {y : Int32} (hf : fX6_signAtHand h = some y) : CT l yX6_signAtHand cX6_signAtHand 1 (some .int) 13 KC 395 g B [.ref (gA g 40)] h (some (.int y)) h := by
  refine CT.of pn_X6 (Nat.le_of_ble_eq_true rfl) ?_
  intro p e s m below meth c hr F
  have F : Fx p s m _ meth c cX6_signAtHand 1 "DustParish$RuleReader" 395 g B := F
  refine V_lv (lv' := [(0, .ref (gA g 40))]) rfl ?_
  unfold fX6_signAtHand at hf
  refine v_aload_n (pc := 0) (j := 0) F dX6_signAtHand_0 rfl rfl ?_
  refine v_ifl (pc := 1) F fl_X6_32 dX6_signAtHand_1 kc_40.1 kc_40.2 fv_5_6 ?_
  refine v_bipush (pc := 4) (v := 43) F dX6_signAtHand_4 bp_43 ?_
  obtain ⟨r1, e2, hf⟩ := bnd_some hf
  refine v_callVi (pc := 6) (As := [.int 43]) F cl_X6_43 dX6_signAtHand_6 (kX9_isSign e2) kc_39.1 kc_39.2 rc_8 rfl rfl (Nat.le_of_ble_eq_true rfl) (by decide) (Nat.zero_le _) ?_
  refine v_if_eq (pc := 9) (tgt := 15) F dX6_signAtHand_9 (by decide) (fun c3 => ?_) (fun c3 => ?_)
  · have hf := ite_t hf c3
    refine v_aload_n (pc := 15) (j := 0) F dX6_signAtHand_15 rfl rfl ?_
    refine v_ifl (pc := 16) F fl_X6_32 dX6_signAtHand_16 kc_40.1 kc_40.2 fv_5_6 ?_
    refine v_bipush (pc := 19) (v := 45) F dX6_signAtHand_19 bp_45 ?_
    obtain ⟨r4, e5, hf⟩ := bnd_some hf
    refine v_callVi (pc := 21) (As := [.int 45]) F cl_X6_43 dX6_signAtHand_21 (kX9_isSign e5) kc_39.1 kc_39.2 rc_8 rfl rfl (Nat.le_of_ble_eq_true rfl) (by decide) (Nat.zero_le _) ?_
    refine v_if_eq (pc := 24) (tgt := 30) F dX6_signAtHand_24 (by decide) (fun c6 => ?_) (fun c6 => ?_)
    · have hf := ite_t hf c6
      refine v_aload_n (pc := 30) (j := 0) F dX6_signAtHand_30 rfl rfl ?_
      refine v_ifl (pc := 31) F fl_X6_32 dX6_signAtHand_31 kc_40.1 kc_40.2 fv_5_6 ?_
      refine v_bipush (pc := 34) (v := 42) F dX6_signAtHand_34 bp_42 ?_
      obtain ⟨r7, e8, hf⟩ := bnd_some hf
      refine v_callVi (pc := 36) (As := [.int 42]) F cl_X6_43 dX6_signAtHand_36 (kX9_isSign e8) kc_39.1 kc_39.2 rc_8 rfl rfl (Nat.le_of_ble_eq_true rfl) (by decide) (Nat.zero_le _) ?_
      refine v_if_eq (pc := 39) (tgt := 45) F dX6_signAtHand_39 (by decide) (fun c9 => ?_) (fun c9 => ?_)
      · have hf := ite_t hf c9
        refine v_aload_n (pc := 45) (j := 0) F dX6_signAtHand_45 rfl rfl ?_
        refine v_ifl (pc := 46) F fl_X6_32 dX6_signAtHand_46 kc_40.1 kc_40.2 fv_5_6 ?_
        refine v_bipush (pc := 49) (v := 47) F dX6_signAtHand_49 bp_47 ?_
        obtain ⟨r10, e11, hf⟩ := bnd_some hf
        refine v_callVi (pc := 51) (As := [.int 47]) F cl_X6_43 dX6_signAtHand_51 (kX9_isSign e11) kc_39.1 kc_39.2 rc_8 rfl rfl (Nat.le_of_ble_eq_true rfl) (by decide) (Nat.zero_le _) ?_
        refine v_if_eq (pc := 54) (tgt := 60) F dX6_signAtHand_54 (by decide) (fun c12 => ?_) (fun c12 => ?_)
        · have hf := ite_t hf c12
          refine v_aload_n (pc := 60) (j := 0) F dX6_signAtHand_60 rfl rfl ?_
          refine v_ifl (pc := 61) F fl_X6_32 dX6_signAtHand_61 kc_40.1 kc_40.2 fv_5_6 ?_
          refine v_bipush (pc := 64) (v := 60) F dX6_signAtHand_64 bp_60 ?_
          obtain ⟨r13, e14, hf⟩ := bnd_some hf
          refine v_callVi (pc := 66) (As := [.int 60]) F cl_X6_43 dX6_signAtHand_66 (kX9_isSign e14) kc_39.1 kc_39.2 rc_8 rfl rfl (Nat.le_of_ble_eq_true rfl) (by decide) (Nat.zero_le _) ?_
          refine v_if_eq (pc := 69) (tgt := 75) F dX6_signAtHand_69 (by decide) (fun c15 => ?_) (fun c15 => ?_)
          · have hf := ite_t hf c15
            refine v_aload_n (pc := 75) (j := 0) F dX6_signAtHand_75 rfl rfl ?_
            refine v_ifl (pc := 76) F fl_X6_32 dX6_signAtHand_76 kc_40.1 kc_40.2 fv_5_6 ?_
            refine v_bipush (pc := 79) (v := 61) F dX6_signAtHand_79 bp_61 ?_
            obtain ⟨r16, e17, hf⟩ := bnd_some hf
            refine v_callVi (pc := 81) (As := [.int 61]) F cl_X6_43 dX6_signAtHand_81 (kX9_isSign e17) kc_39.1 kc_39.2 rc_8 rfl rfl (Nat.le_of_ble_eq_true rfl) (by decide) (Nat.zero_le _) ?_
            refine v_if_eq (pc := 84) (tgt := 90) F dX6_signAtHand_84 (by decide) (fun c18 => ?_) (fun c18 => ?_)
            · have hf := ite_t hf c18
              refine v_aload_n (pc := 90) (j := 0) F dX6_signAtHand_90 rfl rfl ?_
              refine v_ifl (pc := 91) F fl_X6_32 dX6_signAtHand_91 kc_40.1 kc_40.2 fv_5_6 ?_
              refine v_ldcS (pc := 94) (j := 18) (tx := "and") F (by decide) dX6_signAtHand_94 ?_
              obtain ⟨r19, e20, hf⟩ := bnd_some hf
              refine v_callVi (pc := 96) (As := [.ref (gK g 18)]) F cl_X6_75 dX6_signAtHand_96 (kX9_isWord (by decide) e20) kc_39.1 kc_39.2 rc_8 rfl rfl (Nat.le_of_ble_eq_true rfl) (by decide) (Nat.zero_le _) ?_
              refine v_if_eq (pc := 99) (tgt := 105) F dX6_signAtHand_99 (by decide) (fun c21 => ?_) (fun c21 => ?_)
              · have hf := ite_t hf c21
                refine v_aload_n (pc := 105) (j := 0) F dX6_signAtHand_105 rfl rfl ?_
                refine v_ifl (pc := 106) F fl_X6_32 dX6_signAtHand_106 kc_40.1 kc_40.2 fv_5_6 ?_
                refine v_ldcS (pc := 109) (j := 19) (tx := "or") F (by decide) dX6_signAtHand_109 ?_
                obtain ⟨r22, e23, hf⟩ := bnd_some hf
                refine v_callVi (pc := 111) (As := [.ref (gK g 19)]) F cl_X6_75 dX6_signAtHand_111 (kX9_isWord (by decide) e23) kc_39.1 kc_39.2 rc_8 rfl rfl (Nat.le_of_ble_eq_true rfl) (by decide) (Nat.zero_le _) ?_
                refine v_if_eq (pc := 114) (tgt := 122) F dX6_signAtHand_114 (by decide) (fun c24 => ?_) (fun c24 => ?_)
                · have hf := ite_t hf c24
                  refine v_iconst (pc := 122) (v := 0) F dX6_signAtHand_122 ic_0 ?_
                  refine V.sub (lv' := []) [] rfl ?_
                  exact tX6_signAtHand_123 F hr hf
                · have hf := ite_f hf c24
                  refine v_bipush (pc := 117) (v := (-15)) F dX6_signAtHand_117 bp_m15 ?_
                  refine v_goto (pc := 119) (tgt := 123) F dX6_signAtHand_119 (by decide) ?_
                  refine V.sub (lv' := []) [] rfl ?_
                  exact tX6_signAtHand_123 F hr hf
              · have hf := ite_f hf c21
                refine v_bipush (pc := 102) (v := (-14)) F dX6_signAtHand_102 bp_m14 ?_
                exact v_iret (pc := 104) F hr dX6_signAtHand_104 (Option.some.inj hf) rfl (Nat.zero_le _)
            · have hf := ite_f hf c18
              refine v_bipush (pc := 87) (v := (-12)) F dX6_signAtHand_87 bp_m12 ?_
              exact v_iret (pc := 89) F hr dX6_signAtHand_89 (Option.some.inj hf) rfl (Nat.zero_le _)
          · have hf := ite_f hf c15
            refine v_bipush (pc := 72) (v := (-11)) F dX6_signAtHand_72 bp_m11 ?_
            exact v_iret (pc := 74) F hr dX6_signAtHand_74 (Option.some.inj hf) rfl (Nat.zero_le _)
        · have hf := ite_f hf c12
          refine v_bipush (pc := 57) (v := (-10)) F dX6_signAtHand_57 bp_m10 ?_
          exact v_iret (pc := 59) F hr dX6_signAtHand_59 (Option.some.inj hf) rfl (Nat.zero_le _)
      · have hf := ite_f hf c9
        refine v_bipush (pc := 42) (v := (-9)) F dX6_signAtHand_42 bp_m9 ?_
        exact v_iret (pc := 44) F hr dX6_signAtHand_44 (Option.some.inj hf) rfl (Nat.zero_le _)
    · have hf := ite_f hf c6
      refine v_bipush (pc := 27) (v := (-8)) F dX6_signAtHand_27 bp_m8 ?_
      exact v_iret (pc := 29) F hr dX6_signAtHand_29 (Option.some.inj hf) rfl (Nat.zero_le _)
  · have hf := ite_f hf c3
    refine v_bipush (pc := 12) (v := (-7)) F dX6_signAtHand_12 bp_m7 ?_
    exact v_iret (pc := 14) F hr dX6_signAtHand_14 (Option.some.inj hf) rfl (Nat.zero_le _)
def fX6_strengthWaiting_25 (h : ST) (q0 : Int32) : Option (Int32) :=
  some q0
def fX6_strengthWaiting (h : ST) : Option (Int32) :=
  if (h 40 1) ≤ 0 then
  fX6_strengthWaiting_25 h 0
  else
  bnd (rd 80 (h 41) ((h 40 1) - 1)) fun v2 =>
    bnd (fX6_strengthOf h v2) fun r4 =>
    fX6_strengthWaiting_25 h r4
set_option maxRecDepth 100000 in
set_option maxHeartbeats 4000000 in
theorem tX6_strengthWaiting_25 {p : Program} {l : Launch} {e : Env} {s : State} {m : MethodId} {args : Array Value} {below : List Frame} {meth : Method} {c : Code} {g : GE} {B : Nat} {h : ST}  {q0 : Int32} (F : Fx p s m args meth c cX6_strengthWaiting 1 "DustParish$RuleReader" 395 g B)
    {y : Int32} (hr : meth.sig.returnType = (some .int)) (hf : fX6_strengthWaiting_25 h q0 = some y) : V p l e 2 0 s m args below meth c (MQ below (QO KC 395 g (some (.int y)) h) args s 0 (6 * 0) (WA 395 g)) KC 395 g B 1 0 h 25 [] [.int q0] := by
  unfold fX6_strengthWaiting_25 at hf
  exact v_iret (pc := 25) F hr dX6_strengthWaiting_25 (Option.some.inj hf) rfl (Nat.zero_le _)
set_option maxRecDepth 100000 in
set_option maxHeartbeats 4000000 in
theorem kX6_strengthWaiting {l : Launch} {g : GE} {B : Nat} {h : ST} {y : Int32} (hf : fX6_strengthWaiting h = some y) : CT l yX6_strengthWaiting cX6_strengthWaiting 1 (some .int) 2 KC 395 g B [.ref (gA g 40)] h (some (.int y)) h := by
  refine CT.of pn_X6 (Nat.le_of_ble_eq_true rfl) ?_
  intro p e s m below meth c hr F
  have F : Fx p s m _ meth c cX6_strengthWaiting 1 "DustParish$RuleReader" 395 g B := F
  refine V_lv (lv' := [(0, .ref (gA g 40))]) rfl ?_
  unfold fX6_strengthWaiting at hf
  refine v_aload_n (pc := 0) (j := 0) F dX6_strengthWaiting_0 rfl rfl ?_
  refine v_ifl (pc := 1) F fl_X6_15 dX6_strengthWaiting_1 kc_40.1 kc_40.2 fv_5_1 ?_
  refine v_if_le (pc := 4) (tgt := 24) F dX6_strengthWaiting_4 (by decide) (fun c1 => ?_) (fun c1 => ?_)
  · have hf := ite_t hf c1
    refine v_iconst (pc := 24) (v := 0) F dX6_strengthWaiting_24 ic_0 ?_
    refine V.sub (lv' := []) [] rfl ?_
    exact tX6_strengthWaiting_25 F hr hf
  · have hf := ite_f hf c1
    refine v_aload_n (pc := 7) (j := 0) F dX6_strengthWaiting_7 rfl rfl ?_
    refine v_ifl (pc := 8) F fl_X6_11 dX6_strengthWaiting_8 kc_40.1 kc_40.2 fv_5_0 ?_
    refine v_aload_n (pc := 11) (j := 0) F dX6_strengthWaiting_11 rfl rfl ?_
    refine v_ifl (pc := 12) F fl_X6_15 dX6_strengthWaiting_12 kc_40.1 kc_40.2 fv_5_1 ?_
    refine v_iconst (pc := 15) (v := 1) F dX6_strengthWaiting_15 ic_1 ?_
    refine v_isub (pc := 16) F dX6_strengthWaiting_16 ?_
    obtain ⟨v2, e3, hf⟩ := bnd_some hf
    refine v_iald (pc := 17) F dX6_strengthWaiting_17 kc_41.1 kc_41.2 e3 ?_
    obtain ⟨r4, e5, hf⟩ := bnd_some hf
    refine v_callSi (pc := 18) (As := [.int v2]) F cl_X6_111 dX6_strengthWaiting_18 (kX6_strengthOf e5) rfl rfl (Nat.le_of_ble_eq_true rfl) (by decide) (Nat.zero_le _) ?_
    refine v_goto (pc := 21) (tgt := 25) F dX6_strengthWaiting_21 (by decide) ?_
    refine V.sub (lv' := []) [] rfl ?_
    exact tX6_strengthWaiting_25 F hr hf
def fX6_readSign_78 (h : ST) (l1 : Int32) : Option (Int32 × ST) :=
  bnd (fX6_hold h l1) fun r16 =>
  some (r16.1, r16.2)
def fX6_readSign_62 (h : ST) (l1 : Int32) (l2 : Int32) : Option (Int32 × ST) :=
  if 2 < l2 then
  bnd (fX6_wantPart h) fun r14 =>
    fX6_readSign_78 r14 l1
  else
  bnd (fX6_wantNot h) fun r18 =>
    fX6_readSign_78 r18 l1
def fX6_readSign_44 (h : ST) (l1 : Int32) (l2 : Int32) (q1 : Int32) : Option (Int32 × ST) :=
  bnd (fX6_release h q1) fun r10 =>
  if l2 = 4 then
  bnd (fX6_strengthWaiting r10) fun r20 =>
    if r20 = 4 then
    some (1, r10)
    else
    fX6_readSign_62 r10 l1 l2
  else
  fX6_readSign_62 r10 l1 l2
def fX6_readSign (h : ST) : Option (Int32 × ST) :=
  bnd (fX9_isSign h 41) fun r1 =>
  if r1 = 0 then
  bnd (fX6_signAtHand h) fun r4 =>
    if r4 = 0 then
    some (1, h)
    else
    bnd (fX6_strengthOf h r4) fun r7 =>
      if r7 = 4 then
      fX6_readSign_44 h r4 r7 5
      else
      fX6_readSign_44 h r4 r7 r7
  else
  bnd (fX6_close h) fun r23 =>
    some (r23.1, r23.2)
set_option maxRecDepth 100000 in
set_option maxHeartbeats 4000000 in
theorem tX6_readSign_78 {p : Program} {l : Launch} {e : Env} {s : State} {m : MethodId} {args : Array Value} {below : List Frame} {meth : Method} {c : Code} {g : GE} {B : Nat} {h : ST}  {l1 : Int32} (F : Fx p s m args meth c cX6_readSign 3 "DustParish$RuleReader" 395 g B)
    {y : Int32 × ST} (hr : meth.sig.returnType = (some .int)) (hf : fX6_readSign_78 h l1 = some y) : V p l e 14 0 s m args below meth c (MQ below (QO KC 395 g (some (.int y.1)) y.2) args s 0 (6 * 0) (WA 395 g)) KC 395 g B 3 0 h 78 [(0, .ref (gA g 40)), (1, .int l1)] [] := by
  unfold fX6_readSign_78 at hf
  refine v_aload_n (pc := 78) (j := 0) F dX6_readSign_78 rfl rfl ?_
  refine v_iload_n (pc := 79) (j := 1) F dX6_readSign_79 rfl rfl ?_
  obtain ⟨r16, e17, hf⟩ := bnd_some hf
  refine v_callVi (pc := 80) (As := [.int l1]) F cl_X6_69 dX6_readSign_80 (kX6_hold e17) kc_40.1 kc_40.2 rc_5 rfl rfl (Nat.le_of_ble_eq_true rfl) (by decide) (Nat.zero_le _) ?_
  exact v_iret (pc := 83) F hr dX6_readSign_83 (some_fst hf) (some_snd hf) (Nat.zero_le _)
set_option maxRecDepth 100000 in
set_option maxHeartbeats 4000000 in
theorem tX6_readSign_62 {p : Program} {l : Launch} {e : Env} {s : State} {m : MethodId} {args : Array Value} {below : List Frame} {meth : Method} {c : Code} {g : GE} {B : Nat} {h : ST}  {l1 : Int32} {l2 : Int32} (F : Fx p s m args meth c cX6_readSign 3 "DustParish$RuleReader" 395 g B)
    {y : Int32 × ST} (hr : meth.sig.returnType = (some .int)) (hf : fX6_readSign_62 h l1 l2 = some y) : V p l e 14 0 s m args below meth c (MQ below (QO KC 395 g (some (.int y.1)) y.2) args s 0 (6 * 0) (WA 395 g)) KC 395 g B 3 0 h 62 [(0, .ref (gA g 40)), (1, .int l1), (2, .int l2)] [] := by
  unfold fX6_readSign_62 at hf
  refine v_iload_n (pc := 62) (j := 2) F dX6_readSign_62 rfl rfl ?_
  refine v_iconst (pc := 63) (v := 2) F dX6_readSign_63 ic_2 ?_
  refine v_icmp_gt (pc := 64) (tgt := 74) F dX6_readSign_64 (by decide) (fun c13 => ?_) (fun c13 => ?_)
  · have hf := ite_t hf c13
    refine v_aload_n (pc := 74) (j := 0) F dX6_readSign_74 rfl rfl ?_
    obtain ⟨r14, e15, hf⟩ := bnd_some hf
    refine v_callVv (pc := 75) (As := []) F cl_X6_63 dX6_readSign_75 (kX6_wantPart e15) kc_40.1 kc_40.2 rc_5 rfl rfl (Nat.le_of_ble_eq_true rfl) (by decide) (Nat.zero_le _) ?_
    refine V.sub (lv' := [(0, .ref (gA g 40)), (1, .int l1)]) [0, 1] rfl ?_
    exact tX6_readSign_78 F hr hf
  · have hf := ite_f hf c13
    refine v_aload_n (pc := 67) (j := 0) F dX6_readSign_67 rfl rfl ?_
    obtain ⟨r18, e19, hf⟩ := bnd_some hf
    refine v_callVv (pc := 68) (As := []) F cl_X6_40 dX6_readSign_68 (kX6_wantNot e19) kc_40.1 kc_40.2 rc_5 rfl rfl (Nat.le_of_ble_eq_true rfl) (by decide) (Nat.zero_le _) ?_
    refine v_goto (pc := 71) (tgt := 78) F dX6_readSign_71 (by decide) ?_
    refine V.sub (lv' := [(0, .ref (gA g 40)), (1, .int l1)]) [0, 1] rfl ?_
    exact tX6_readSign_78 F hr hf
set_option maxRecDepth 100000 in
set_option maxHeartbeats 4000000 in
theorem tX6_readSign_44 {p : Program} {l : Launch} {e : Env} {s : State} {m : MethodId} {args : Array Value} {below : List Frame} {meth : Method} {c : Code} {g : GE} {B : Nat} {h : ST}  {l1 : Int32} {l2 : Int32} {q1 : Int32} (F : Fx p s m args meth c cX6_readSign 3 "DustParish$RuleReader" 395 g B)
    {y : Int32 × ST} (hr : meth.sig.returnType = (some .int)) (hf : fX6_readSign_44 h l1 l2 q1 = some y) : V p l e 14 0 s m args below meth c (MQ below (QO KC 395 g (some (.int y.1)) y.2) args s 0 (6 * 0) (WA 395 g)) KC 395 g B 3 0 h 44 [(0, .ref (gA g 40)), (1, .int l1), (2, .int l2)] [.int q1, .ref (gA g 40)] := by
  unfold fX6_readSign_44 at hf
  obtain ⟨r10, e11, hf⟩ := bnd_some hf
  refine v_callVv (pc := 44) (As := [.int q1]) F cl_X6_49 dX6_readSign_44 (kX6_release e11) kc_40.1 kc_40.2 rc_5 rfl rfl (Nat.le_of_ble_eq_true rfl) (by decide) (Nat.zero_le _) ?_
  refine v_iload_n (pc := 47) (j := 2) F dX6_readSign_47 rfl rfl ?_
  refine v_iconst (pc := 48) (v := 4) F dX6_readSign_48 ic_4 ?_
  refine v_icmp_ne (pc := 49) (tgt := 62) F dX6_readSign_49 (by decide) (fun c12 => ?_) (fun c12 => ?_)
  · have hf := ite_f hf c12
    exact tX6_readSign_62 F hr hf
  · have hf := ite_t hf c12
    refine v_aload_n (pc := 52) (j := 0) F dX6_readSign_52 rfl rfl ?_
    obtain ⟨r20, e21, hf⟩ := bnd_some hf
    refine v_callVi (pc := 53) (As := []) F cl_X6_114 dX6_readSign_53 (kX6_strengthWaiting e21) kc_40.1 kc_40.2 rc_5 rfl rfl (Nat.le_of_ble_eq_true rfl) (by decide) (Nat.zero_le _) ?_
    refine v_iconst (pc := 56) (v := 4) F dX6_readSign_56 ic_4 ?_
    refine v_icmp_ne (pc := 57) (tgt := 62) F dX6_readSign_57 (by decide) (fun c22 => ?_) (fun c22 => ?_)
    · have hf := ite_f hf c22
      exact tX6_readSign_62 F hr hf
    · have hf := ite_t hf c22
      refine v_iconst (pc := 60) (v := 1) F dX6_readSign_60 ic_1 ?_
      exact v_iret (pc := 61) F hr dX6_readSign_61 (some_fst hf) (some_snd hf) (Nat.zero_le _)
set_option maxRecDepth 100000 in
set_option maxHeartbeats 4000000 in
theorem kX6_readSign {l : Launch} {g : GE} {B : Nat} {h : ST} {y : Int32 × ST} (hf : fX6_readSign h = some y) : CT l yX6_readSign cX6_readSign 3 (some .int) 14 KC 395 g B [.ref (gA g 40)] h (some (.int y.1)) y.2 := by
  refine CT.of pn_X6 (Nat.le_of_ble_eq_true rfl) ?_
  intro p e s m below meth c hr F
  have F : Fx p s m _ meth c cX6_readSign 3 "DustParish$RuleReader" 395 g B := F
  refine V_lv (lv' := [(0, .ref (gA g 40))]) rfl ?_
  unfold fX6_readSign at hf
  refine v_aload_n (pc := 0) (j := 0) F dX6_readSign_0 rfl rfl ?_
  refine v_ifl (pc := 1) F fl_X6_32 dX6_readSign_1 kc_40.1 kc_40.2 fv_5_6 ?_
  refine v_bipush (pc := 4) (v := 41) F dX6_readSign_4 bp_41 ?_
  obtain ⟨r1, e2, hf⟩ := bnd_some hf
  refine v_callVi (pc := 6) (As := [.int 41]) F cl_X6_43 dX6_readSign_6 (kX9_isSign e2) kc_39.1 kc_39.2 rc_8 rfl rfl (Nat.le_of_ble_eq_true rfl) (by decide) (Nat.zero_le _) ?_
  refine v_if_eq (pc := 9) (tgt := 17) F dX6_readSign_9 (by decide) (fun c3 => ?_) (fun c3 => ?_)
  · have hf := ite_t hf c3
    refine v_aload_n (pc := 17) (j := 0) F dX6_readSign_17 rfl rfl ?_
    obtain ⟨r4, e5, hf⟩ := bnd_some hf
    refine v_callVi (pc := 18) (As := []) F cl_X6_108 dX6_readSign_18 (kX6_signAtHand e5) kc_40.1 kc_40.2 rc_5 rfl rfl (Nat.le_of_ble_eq_true rfl) (by decide) (Nat.zero_le _) ?_
    refine v_istore_n (pc := 21) (lv' := [(0, .ref (gA g 40)), (1, .int r4)]) F dX6_readSign_21 rfl (by decide) rfl ?_
    refine v_iload_n (pc := 22) (j := 1) F dX6_readSign_22 rfl rfl ?_
    refine v_if_ne (pc := 23) (tgt := 28) F dX6_readSign_23 (by decide) (fun c6 => ?_) (fun c6 => ?_)
    · have hf := ite_f hf c6
      refine v_iload_n (pc := 28) (j := 1) F dX6_readSign_28 rfl rfl ?_
      obtain ⟨r7, e8, hf⟩ := bnd_some hf
      refine v_callSi (pc := 29) (As := [.int r4]) F cl_X6_111 dX6_readSign_29 (kX6_strengthOf e8) rfl rfl (Nat.le_of_ble_eq_true rfl) (by decide) (Nat.zero_le _) ?_
      refine v_istore_n (pc := 32) (lv' := [(0, .ref (gA g 40)), (1, .int r4), (2, .int r7)]) F dX6_readSign_32 rfl (by decide) rfl ?_
      refine v_aload_n (pc := 33) (j := 0) F dX6_readSign_33 rfl rfl ?_
      refine v_iload_n (pc := 34) (j := 2) F dX6_readSign_34 rfl rfl ?_
      refine v_iconst (pc := 35) (v := 4) F dX6_readSign_35 ic_4 ?_
      refine v_icmp_ne (pc := 36) (tgt := 43) F dX6_readSign_36 (by decide) (fun c9 => ?_) (fun c9 => ?_)
      · have hf := ite_f hf c9
        refine v_iload_n (pc := 43) (j := 2) F dX6_readSign_43 rfl rfl ?_
        exact tX6_readSign_44 F hr hf
      · have hf := ite_t hf c9
        refine v_iconst (pc := 39) (v := 5) F dX6_readSign_39 ic_5 ?_
        refine v_goto (pc := 40) (tgt := 44) F dX6_readSign_40 (by decide) ?_
        exact tX6_readSign_44 F hr hf
    · have hf := ite_t hf c6
      refine v_iconst (pc := 26) (v := 1) F dX6_readSign_26 ic_1 ?_
      exact v_iret (pc := 27) F hr dX6_readSign_27 (some_fst hf) (some_snd hf) (Nat.zero_le _)
  · have hf := ite_f hf c3
    refine v_aload_n (pc := 12) (j := 0) F dX6_readSign_12 rfl rfl ?_
    obtain ⟨r23, e24, hf⟩ := bnd_some hf
    refine v_callVi (pc := 13) (As := []) F cl_X6_105 dX6_readSign_13 (kX6_close e24) kc_40.1 kc_40.2 rc_5 rfl rfl (Nat.le_of_ble_eq_true rfl) (by decide) (Nat.zero_le _) ?_
    exact v_iret (pc := 16) F hr dX6_readSign_16 (some_fst hf) (some_snd hf) (Nat.zero_le _)
def fX6_read_79 (h : ST) (l2 : Int32) (q0 : Int32) : Option ((ST × Int32) ⊕ (ST ⊕ ((ST × Int32) ⊕ ST))) :=
  if q0 = 0 then
  bnd (fX9_step h) fun r15 =>
    some (.inl (r15, l2 + 1))
  else
  some (.inr (.inr (.inl (h, q0))))
def fX6_read_61 (h : ST) (l2 : Int32) : Option ((ST × Int32) ⊕ (ST ⊕ ((ST × Int32) ⊕ ST))) :=
  if (h 40 4) = 0 then
  bnd (fX6_readSign h) fun r12 =>
    fX6_read_79 r12.2 l2 r12.1
  else
  bnd (fX6_readPart h) fun r17 =>
    fX6_read_79 r17.2 l2 r17.1
def fX6_read_21 (s1 : (ST × Int32)) : Option ((ST × Int32) ⊕ (ST ⊕ ((ST × Int32) ⊕ ST))) :=
  if 700 < s1.2 then
  some (.inr (.inr (.inr s1.1)))
  else
  if (s1.1 40 4) = 0 then
    if (s1.1 40 2) = 0 then
      bnd (fX9_isSign s1.1 59) fun r20 =>
        if r20 = 0 then
        fX6_read_61 s1.1 s1.2
        else
        some (.inr (.inl s1.1))
      else
      fX6_read_61 s1.1 s1.2
    else
    fX6_read_61 s1.1 s1.2
def fX6_read (h : ST) (o1 : Nat) : Option (Int32 × ST) :=
  bnd (pw h 40 7 (Int32.ofNat o1)) fun h1 =>
  bnd (pw h1 40 1 0) fun h3 =>
  bnd (pw h3 40 2 0) fun h5 =>
  bnd (fX6_wantNot h5) fun r7 =>
  bnd (lp FU (fX6_read_21) (r7, 0)) fun x23 =>
  sm x23 (fun v => bnd (fX6_release v 1) fun r25 =>
  some (0, r25)) (fun w1 => sm w1 (fun v => some (v.2, v.1)) (fun v => some (1, v)))
set_option maxRecDepth 100000 in
set_option maxHeartbeats 4000000 in
theorem tX6_read_79 {p : Program} {l : Launch} {e : Env} {s : State} {m : MethodId} {args : Array Value} {below : List Frame} {meth : Method} {c : Code} {g : GE} {B : Nat} {h : ST}  {l2 : Int32} {q0 : Int32} (F : Fx p s m args meth c cX6_read 4 "DustParish$RuleReader" 395 g B)
    {Q : State → Prop} {y : (ST × Int32) ⊕ (ST ⊕ ((ST × Int32) ⊕ ST))} (hk : ∀ v : (ST × Int32), y = Sum.inl v → V p l e 15 0 s m args below meth c Q KC 395 g B 4 0 v.1 21 [(0, .ref (gA g 40)), (2, .int v.2)] []) (hx0 : ∀ v : ST, y = Sum.inr (.inl v) → V p l e 15 0 s m args below meth c Q KC 395 g B 4 0 v 54 [(0, .ref (gA g 40))] []) (hx1 : ∀ v : (ST × Int32), y = Sum.inr (.inr (.inl v)) → V p l e 15 0 s m args below meth c Q KC 395 g B 4 0 v.1 84 [(3, .int v.2)] []) (hx2 : ∀ v : ST, y = Sum.inr (.inr (.inr v)) → V p l e 15 0 s m args below meth c Q KC 395 g B 4 0 v 99 [] []) (hf : fX6_read_79 h l2 q0 = some y) : V p l e 15 0 s m args below meth c Q KC 395 g B 4 0 h 79 [(0, .ref (gA g 40)), (2, .int l2)] [.int q0] := by
  unfold fX6_read_79 at hf
  refine v_istore_n (pc := 79) (lv' := [(0, .ref (gA g 40)), (2, .int l2), (3, .int q0)]) F dX6_read_79 rfl (by decide) rfl ?_
  refine v_iload_n (pc := 80) (j := 2) F dX6_read_80 rfl rfl ?_
  refine v_if_eq (pc := 81) (tgt := 86) F dX6_read_81 (by decide) (fun c14 => ?_) (fun c14 => ?_)
  · have hf := ite_t hf c14
    refine v_aload_n (pc := 86) (j := 0) F dX6_read_86 rfl rfl ?_
    refine v_ifl (pc := 87) F fl_X6_32 dX6_read_87 kc_40.1 kc_40.2 fv_5_6 ?_
    obtain ⟨r15, e16, hf⟩ := bnd_some hf
    refine v_callVv (pc := 90) (As := []) F cl_X6_60 dX6_read_90 (kX9_step e16) kc_39.1 kc_39.2 rc_8 rfl rfl (Nat.le_of_ble_eq_true rfl) (by decide) (Nat.zero_le _) ?_
    refine v_iinc (pc := 93) (j := 1) (v := l2 + 1) (lv' := [(0, .ref (gA g 40)), (2, .int (l2 + 1)), (3, .int q0)]) F dX6_read_93 rfl (congrArg (fun z => l2 + z) ic_1) (by decide) rfl ?_
    refine v_goto (pc := 96) (tgt := 21) F dX6_read_96 (by decide) ?_
    refine V.sub (lv' := [(0, .ref (gA g 40)), (2, .int (l2 + 1))]) [0, 1] rfl ?_
    exact hk (r15, l2 + 1) (Option.some.inj hf).symm
  · have hf := ite_f hf c14
    refine V.sub (lv' := [(3, .int q0)]) [2] rfl ?_
    exact hx1 (h, q0) (Option.some.inj hf).symm
set_option maxRecDepth 100000 in
set_option maxHeartbeats 4000000 in
theorem tX6_read_61 {p : Program} {l : Launch} {e : Env} {s : State} {m : MethodId} {args : Array Value} {below : List Frame} {meth : Method} {c : Code} {g : GE} {B : Nat} {h : ST}  {l2 : Int32} (F : Fx p s m args meth c cX6_read 4 "DustParish$RuleReader" 395 g B)
    {Q : State → Prop} {y : (ST × Int32) ⊕ (ST ⊕ ((ST × Int32) ⊕ ST))} (hk : ∀ v : (ST × Int32), y = Sum.inl v → V p l e 15 0 s m args below meth c Q KC 395 g B 4 0 v.1 21 [(0, .ref (gA g 40)), (2, .int v.2)] []) (hx0 : ∀ v : ST, y = Sum.inr (.inl v) → V p l e 15 0 s m args below meth c Q KC 395 g B 4 0 v 54 [(0, .ref (gA g 40))] []) (hx1 : ∀ v : (ST × Int32), y = Sum.inr (.inr (.inl v)) → V p l e 15 0 s m args below meth c Q KC 395 g B 4 0 v.1 84 [(3, .int v.2)] []) (hx2 : ∀ v : ST, y = Sum.inr (.inr (.inr v)) → V p l e 15 0 s m args below meth c Q KC 395 g B 4 0 v 99 [] []) (hf : fX6_read_61 h l2 = some y) : V p l e 15 0 s m args below meth c Q KC 395 g B 4 0 h 61 [(0, .ref (gA g 40)), (2, .int l2)] [] := by
  unfold fX6_read_61 at hf
  refine v_aload_n (pc := 61) (j := 0) F dX6_read_61 rfl rfl ?_
  refine v_ifl (pc := 62) F fl_X6_25 dX6_read_62 kc_40.1 kc_40.2 fv_5_4 ?_
  refine v_if_eq (pc := 65) (tgt := 75) F dX6_read_65 (by decide) (fun c11 => ?_) (fun c11 => ?_)
  · have hf := ite_t hf c11
    refine v_aload_n (pc := 75) (j := 0) F dX6_read_75 rfl rfl ?_
    obtain ⟨r12, e13, hf⟩ := bnd_some hf
    refine v_callVi (pc := 76) (As := []) F cl_X6_57 dX6_read_76 (kX6_readSign e13) kc_40.1 kc_40.2 rc_5 rfl rfl (Nat.le_of_ble_eq_true rfl) (by decide) (Nat.zero_le _) ?_
    exact tX6_read_79 F hk hx0 hx1 hx2 hf
  · have hf := ite_f hf c11
    refine v_aload_n (pc := 68) (j := 0) F dX6_read_68 rfl rfl ?_
    obtain ⟨r17, e18, hf⟩ := bnd_some hf
    refine v_callVi (pc := 69) (As := []) F cl_X6_53 dX6_read_69 (kX6_readPart e18) kc_40.1 kc_40.2 rc_5 rfl rfl (Nat.le_of_ble_eq_true rfl) (by decide) (Nat.zero_le _) ?_
    refine v_goto (pc := 72) (tgt := 79) F dX6_read_72 (by decide) ?_
    exact tX6_read_79 F hk hx0 hx1 hx2 hf
set_option maxRecDepth 100000 in
set_option maxHeartbeats 4000000 in
theorem tX6_read_21 {p : Program} {l : Launch} {e : Env} {s : State} {m : MethodId} {args : Array Value} {below : List Frame} {meth : Method} {c : Code} {g : GE} {B : Nat}   {Q : State → Prop} {x : (ST ⊕ ((ST × Int32) ⊕ ST))} {nf : Nat} {s0 : (ST × Int32)} (F : Fx p s m args meth c cX6_read 4 "DustParish$RuleReader" 395 g B) (hX0 : ∀ v : ST, x = (.inl v) → V p l e 15 0 s m args below meth c Q KC 395 g B 4 0 v 54 [(0, .ref (gA g 40))] []) (hX1 : ∀ v : (ST × Int32), x = (.inr (.inl v)) → V p l e 15 0 s m args below meth c Q KC 395 g B 4 0 v.1 84 [(3, .int v.2)] []) (hX2 : ∀ v : ST, x = (.inr (.inr v)) → V p l e 15 0 s m args below meth c Q KC 395 g B 4 0 v 99 [] []) (hl : lp nf (fX6_read_21) s0 = some x) : V p l e 15 0 s m args below meth c Q KC 395 g B 4 0 s0.1 21 [(0, .ref (gA g 40)), (2, .int s0.2)] [] := by
  refine lp_ind (P := fun s0 => V p l e 15 0 s m args below meth c Q KC 395 g B 4 0 s0.1 21 [(0, .ref (gA g 40)), (2, .int s0.2)] []) ?_ nf s0 hl
  intro s1 y hf hk hx
  have hx0 : ∀ v : ST, y = Sum.inr (.inl v) → V p l e 15 0 s m args below meth c Q KC 395 g B 4 0 v 54 [(0, .ref (gA g 40))] [] := fun v e9 => hX0 v (hx _ e9).symm
  have hx1 : ∀ v : (ST × Int32), y = Sum.inr (.inr (.inl v)) → V p l e 15 0 s m args below meth c Q KC 395 g B 4 0 v.1 84 [(3, .int v.2)] [] := fun v e9 => hX1 v (hx _ e9).symm
  have hx2 : ∀ v : ST, y = Sum.inr (.inr (.inr v)) → V p l e 15 0 s m args below meth c Q KC 395 g B 4 0 v 99 [] [] := fun v e9 => hX2 v (hx _ e9).symm
  unfold fX6_read_21 at hf
  refine v_iload_n (pc := 21) (j := 1) F dX6_read_21 rfl rfl ?_
  refine v_sipush (pc := 22) (v := 700) F dX6_read_22 sp_700 ?_
  refine v_icmp_gt (pc := 25) (tgt := 99) F dX6_read_25 (by decide) (fun c9 => ?_) (fun c9 => ?_)
  · have hf := ite_t hf c9
    refine V.sub (lv' := []) [] rfl ?_
    exact hx2 s1.1 (Option.some.inj hf).symm
  · have hf := ite_f hf c9
    refine v_aload_n (pc := 28) (j := 0) F dX6_read_28 rfl rfl ?_
    refine v_ifl (pc := 29) F fl_X6_25 dX6_read_29 kc_40.1 kc_40.2 fv_5_4 ?_
    refine v_if_ne (pc := 32) (tgt := 61) F dX6_read_32 (by decide) (fun c10 => ?_) (fun c10 => ?_)
    · have hf := ite_f hf c10
      exact tX6_read_61 F hk hx0 hx1 hx2 hf
    · have hf := ite_t hf c10
      refine v_aload_n (pc := 35) (j := 0) F dX6_read_35 rfl rfl ?_
      refine v_ifl (pc := 36) F fl_X6_19 dX6_read_36 kc_40.1 kc_40.2 fv_5_2 ?_
      refine v_if_ne (pc := 39) (tgt := 61) F dX6_read_39 (by decide) (fun c19 => ?_) (fun c19 => ?_)
      · have hf := ite_f hf c19
        exact tX6_read_61 F hk hx0 hx1 hx2 hf
      · have hf := ite_t hf c19
        refine v_aload_n (pc := 42) (j := 0) F dX6_read_42 rfl rfl ?_
        refine v_ifl (pc := 43) F fl_X6_32 dX6_read_43 kc_40.1 kc_40.2 fv_5_6 ?_
        refine v_bipush (pc := 46) (v := 59) F dX6_read_46 bp_59 ?_
        obtain ⟨r20, e21, hf⟩ := bnd_some hf
        refine v_callVi (pc := 48) (As := [.int 59]) F cl_X6_43 dX6_read_48 (kX9_isSign e21) kc_39.1 kc_39.2 rc_8 rfl rfl (Nat.le_of_ble_eq_true rfl) (by decide) (Nat.zero_le _) ?_
        refine v_if_eq (pc := 51) (tgt := 61) F dX6_read_51 (by decide) (fun c22 => ?_) (fun c22 => ?_)
        · have hf := ite_t hf c22
          exact tX6_read_61 F hk hx0 hx1 hx2 hf
        · have hf := ite_f hf c22
          refine V.sub (lv' := [(0, .ref (gA g 40))]) [0] rfl ?_
          exact hx0 s1.1 (Option.some.inj hf).symm
set_option maxRecDepth 100000 in
set_option maxHeartbeats 4000000 in
theorem kX6_read {l : Launch} {g : GE} {B : Nat} {h : ST} {o1 : Nat} (ho_o1 : o1 < 395) (hk_o1 : KC o1 = (4, 0)) {y : Int32 × ST} (hf : fX6_read h o1 = some y) : CT l yX6_read cX6_read 4 (some .int) 15 KC 395 g B [.ref (gA g 40), .ref (gA g o1)] h (some (.int y.1)) y.2 := by
  refine CT.of pn_X6 (Nat.le_of_ble_eq_true rfl) ?_
  intro p e s m below meth c hr F
  have F : Fx p s m _ meth c cX6_read 4 "DustParish$RuleReader" 395 g B := F
  refine V_lv (lv' := [(0, .ref (gA g 40)), (1, .ref (gA g o1))]) rfl ?_
  unfold fX6_read at hf
  refine v_aload_n (pc := 0) (j := 0) F dX6_read_0 rfl rfl ?_
  refine v_aload_n (pc := 1) (j := 1) F dX6_read_1 rfl rfl ?_
  obtain ⟨h1, e2, hf⟩ := bnd_some hf
  refine v_pfl (pc := 2) F fl_X6_36 pl_5_7 dX6_read_2 kc_40.1 kc_40.2 (fv_5_7 (ofNat_back (Nat.lt_trans ho_o1 (by decide)))) rfl rfl e2 ?_
  refine v_aload_n (pc := 5) (j := 0) F dX6_read_5 rfl rfl ?_
  refine v_iconst (pc := 6) (v := 0) F dX6_read_6 ic_0 ?_
  obtain ⟨h3, e4, hf⟩ := bnd_some hf
  refine v_pfl (pc := 7) F fl_X6_15 pl_5_1 dX6_read_7 kc_40.1 kc_40.2 fv_5_1 rfl rfl e4 ?_
  refine v_aload_n (pc := 10) (j := 0) F dX6_read_10 rfl rfl ?_
  refine v_iconst (pc := 11) (v := 0) F dX6_read_11 ic_0 ?_
  obtain ⟨h5, e6, hf⟩ := bnd_some hf
  refine v_pfl (pc := 12) F fl_X6_19 pl_5_2 dX6_read_12 kc_40.1 kc_40.2 fv_5_2 rfl rfl e6 ?_
  refine v_aload_n (pc := 15) (j := 0) F dX6_read_15 rfl rfl ?_
  obtain ⟨r7, e8, hf⟩ := bnd_some hf
  refine v_callVv (pc := 16) (As := []) F cl_X6_40 dX6_read_16 (kX6_wantNot e8) kc_40.1 kc_40.2 rc_5 rfl rfl (Nat.le_of_ble_eq_true rfl) (by decide) (Nat.zero_le _) ?_
  refine v_iconst (pc := 19) (v := 0) F dX6_read_19 ic_0 ?_
  refine v_istore_n (pc := 20) (lv' := [(0, .ref (gA g 40)), (1, .ref (gA g o1)), (2, .int 0)]) F dX6_read_20 rfl (by decide) rfl ?_
  obtain ⟨x23, e24, hf⟩ := bnd_some hf
  refine V.sub (lv' := [(0, .ref (gA g 40)), (2, .int 0)]) [0, 2] rfl ?_
  refine tX6_read_21 (s0 := (r7, 0)) F (fun v e9 => ?_) (fun v e9 => ?_) (fun v e9 => ?_) e24
  · subst e9
    have hf := sm_l hf
    refine v_aload_n (pc := 54) (j := 0) F dX6_read_54 rfl rfl ?_
    refine v_iconst (pc := 55) (v := 1) F dX6_read_55 ic_1 ?_
    obtain ⟨r25, e26, hf⟩ := bnd_some hf
    refine v_callVv (pc := 56) (As := [.int 1]) F cl_X6_49 dX6_read_56 (kX6_release e26) kc_40.1 kc_40.2 rc_5 rfl rfl (Nat.le_of_ble_eq_true rfl) (by decide) (Nat.zero_le _) ?_
    refine v_iconst (pc := 59) (v := 0) F dX6_read_59 ic_0 ?_
    exact v_iret (pc := 60) F hr dX6_read_60 (some_fst hf) (some_snd hf) (Nat.zero_le _)
  · subst e9
    have hf := sm_r hf
    have hf := sm_l hf
    refine v_iload_n (pc := 84) (j := 0) F dX6_read_84 rfl rfl ?_
    exact v_iret (pc := 85) F hr dX6_read_85 (some_fst hf) (some_snd hf) (Nat.zero_le _)
  · subst e9
    have hf := sm_r hf
    have hf := sm_r hf
    refine v_iconst (pc := 99) (v := 1) F dX6_read_99 ic_1 ?_
    exact v_iret (pc := 100) F hr dX6_read_100 (some_fst hf) (some_snd hf) (Nat.zero_le _)
def fX4_readLine (h : ST) : Option (Int32 × ST) :=
  bnd (fX9_isWord h 1) fun r1 =>
  if r1 = 0 then
  bnd (fX9_isWord h 2) fun r4 =>
    if r4 = 0 then
    bnd (fX9_isWord h 3) fun r7 =>
      if r7 = 0 then
      bnd (fX9_isWord h 4) fun r10 =>
        if r10 = 0 then
        bnd (fX9_isWord h 5) fun r13 =>
          if r13 = 0 then
          bnd (fX9_isWord h 6) fun r16 =>
            if r16 = 0 then
            bnd (fX9_isWord h 7) fun r19 =>
              if r19 = 0 then
              bnd (fX9_isWord h 8) fun r22 =>
                if r22 = 0 then
                bnd (fX9_isWord h 9) fun r25 =>
                  if r25 = 0 then
                  bnd (fX9_isWord h 10) fun r28 =>
                    if r28 = 0 then
                    some (1, h)
                    else
                    if (h 38 7) = 0 then
                      bnd (pw h 38 7 1) fun h32 =>
                        bnd (fX9_step h32) fun r34 =>
                        bnd (rf KC 395 1 (r34 38 2)) fun f36 =>
                        bnd (fX6_read r34 (f36 + 12)) fun r38 =>
                        some (r38.1, r38.2)
                      else
                      some (5, h)
                  else
                  bnd (fX4_readClean h) fun r40 =>
                    some (r40.1, r40.2)
                else
                bnd (fX4_readEvery h) fun r42 =>
                  some (r42.1, r42.2)
              else
              bnd (fX4_readCalendar h) fun r44 =>
                some (r44.1, r44.2)
            else
            bnd (fX4_readBlow h) fun r46 =>
              some (r46.1, r46.2)
          else
          bnd (fX4_readWind h) fun r48 =>
            some (r48.1, r48.2)
        else
        bnd (fX4_readDoor h) fun r50 =>
          some (r50.1, r50.2)
      else
      bnd (fX4_readRoom h 2) fun r52 =>
        some (r52.1, r52.2)
    else
    bnd (fX4_readRoom h 1) fun r54 =>
      some (r54.1, r54.2)
  else
  bnd (fX4_readRoom h 0) fun r56 =>
    some (r56.1, r56.2)
set_option maxRecDepth 100000 in
set_option maxHeartbeats 4000000 in
theorem kX4_readLine {l : Launch} {g : GE} {B : Nat} {h : ST} {y : Int32 × ST} (hf : fX4_readLine h = some y) : CT l yX4_readLine cX4_readLine 1 (some .int) 16 KC 395 g B [.ref (gA g 38)] h (some (.int y.1)) y.2 := by
  refine CT.of pn_X4 (Nat.le_of_ble_eq_true rfl) ?_
  intro p e s m below meth c hr F
  have F : Fx p s m _ meth c cX4_readLine 1 "DustParish$Reader" 395 g B := F
  refine V_lv (lv' := [(0, .ref (gA g 38))]) rfl ?_
  unfold fX4_readLine at hf
  refine v_aload_n (pc := 0) (j := 0) F dX4_readLine_0 rfl rfl ?_
  refine v_ifl (pc := 1) F fl_X4_33 dX4_readLine_1 kc_38.1 kc_38.2 fv_3_0 ?_
  refine v_ldcS (pc := 4) (j := 1) (tx := "pew") F (by decide) dX4_readLine_4 ?_
  obtain ⟨r1, e2, hf⟩ := bnd_some hf
  refine v_callVi (pc := 6) (As := [.ref (gK g 1)]) F cl_X4_82 dX4_readLine_6 (kX9_isWord (by decide) e2) kc_39.1 kc_39.2 rc_8 rfl rfl (Nat.le_of_ble_eq_true rfl) (by decide) (Nat.zero_le _) ?_
  refine v_if_eq (pc := 9) (tgt := 18) F dX4_readLine_9 (by decide) (fun c3 => ?_) (fun c3 => ?_)
  · have hf := ite_t hf c3
    refine v_aload_n (pc := 18) (j := 0) F dX4_readLine_18 rfl rfl ?_
    refine v_ifl (pc := 19) F fl_X4_33 dX4_readLine_19 kc_38.1 kc_38.2 fv_3_0 ?_
    refine v_ldcS (pc := 22) (j := 2) (tx := "chapel") F (by decide) dX4_readLine_22 ?_
    obtain ⟨r4, e5, hf⟩ := bnd_some hf
    refine v_callVi (pc := 24) (As := [.ref (gK g 2)]) F cl_X4_82 dX4_readLine_24 (kX9_isWord (by decide) e5) kc_39.1 kc_39.2 rc_8 rfl rfl (Nat.le_of_ble_eq_true rfl) (by decide) (Nat.zero_le _) ?_
    refine v_if_eq (pc := 27) (tgt := 36) F dX4_readLine_27 (by decide) (fun c6 => ?_) (fun c6 => ?_)
    · have hf := ite_t hf c6
      refine v_aload_n (pc := 36) (j := 0) F dX4_readLine_36 rfl rfl ?_
      refine v_ifl (pc := 37) F fl_X4_33 dX4_readLine_37 kc_38.1 kc_38.2 fv_3_0 ?_
      refine v_ldcS (pc := 40) (j := 3) (tx := "attic") F (by decide) dX4_readLine_40 ?_
      obtain ⟨r7, e8, hf⟩ := bnd_some hf
      refine v_callVi (pc := 42) (As := [.ref (gK g 3)]) F cl_X4_82 dX4_readLine_42 (kX9_isWord (by decide) e8) kc_39.1 kc_39.2 rc_8 rfl rfl (Nat.le_of_ble_eq_true rfl) (by decide) (Nat.zero_le _) ?_
      refine v_if_eq (pc := 45) (tgt := 54) F dX4_readLine_45 (by decide) (fun c9 => ?_) (fun c9 => ?_)
      · have hf := ite_t hf c9
        refine v_aload_n (pc := 54) (j := 0) F dX4_readLine_54 rfl rfl ?_
        refine v_ifl (pc := 55) F fl_X4_33 dX4_readLine_55 kc_38.1 kc_38.2 fv_3_0 ?_
        refine v_ldcS (pc := 58) (j := 4) (tx := "door") F (by decide) dX4_readLine_58 ?_
        obtain ⟨r10, e11, hf⟩ := bnd_some hf
        refine v_callVi (pc := 60) (As := [.ref (gK g 4)]) F cl_X4_82 dX4_readLine_60 (kX9_isWord (by decide) e11) kc_39.1 kc_39.2 rc_8 rfl rfl (Nat.le_of_ble_eq_true rfl) (by decide) (Nat.zero_le _) ?_
        refine v_if_eq (pc := 63) (tgt := 71) F dX4_readLine_63 (by decide) (fun c12 => ?_) (fun c12 => ?_)
        · have hf := ite_t hf c12
          refine v_aload_n (pc := 71) (j := 0) F dX4_readLine_71 rfl rfl ?_
          refine v_ifl (pc := 72) F fl_X4_33 dX4_readLine_72 kc_38.1 kc_38.2 fv_3_0 ?_
          refine v_ldcS (pc := 75) (j := 5) (tx := "wind") F (by decide) dX4_readLine_75 ?_
          obtain ⟨r13, e14, hf⟩ := bnd_some hf
          refine v_callVi (pc := 77) (As := [.ref (gK g 5)]) F cl_X4_82 dX4_readLine_77 (kX9_isWord (by decide) e14) kc_39.1 kc_39.2 rc_8 rfl rfl (Nat.le_of_ble_eq_true rfl) (by decide) (Nat.zero_le _) ?_
          refine v_if_eq (pc := 80) (tgt := 88) F dX4_readLine_80 (by decide) (fun c15 => ?_) (fun c15 => ?_)
          · have hf := ite_t hf c15
            refine v_aload_n (pc := 88) (j := 0) F dX4_readLine_88 rfl rfl ?_
            refine v_ifl (pc := 89) F fl_X4_33 dX4_readLine_89 kc_38.1 kc_38.2 fv_3_0 ?_
            refine v_ldcS (pc := 92) (j := 6) (tx := "blow") F (by decide) dX4_readLine_92 ?_
            obtain ⟨r16, e17, hf⟩ := bnd_some hf
            refine v_callVi (pc := 94) (As := [.ref (gK g 6)]) F cl_X4_82 dX4_readLine_94 (kX9_isWord (by decide) e17) kc_39.1 kc_39.2 rc_8 rfl rfl (Nat.le_of_ble_eq_true rfl) (by decide) (Nat.zero_le _) ?_
            refine v_if_eq (pc := 97) (tgt := 105) F dX4_readLine_97 (by decide) (fun c18 => ?_) (fun c18 => ?_)
            · have hf := ite_t hf c18
              refine v_aload_n (pc := 105) (j := 0) F dX4_readLine_105 rfl rfl ?_
              refine v_ifl (pc := 106) F fl_X4_33 dX4_readLine_106 kc_38.1 kc_38.2 fv_3_0 ?_
              refine v_ldcS (pc := 109) (j := 7) (tx := "calendar") F (by decide) dX4_readLine_109 ?_
              obtain ⟨r19, e20, hf⟩ := bnd_some hf
              refine v_callVi (pc := 111) (As := [.ref (gK g 7)]) F cl_X4_82 dX4_readLine_111 (kX9_isWord (by decide) e20) kc_39.1 kc_39.2 rc_8 rfl rfl (Nat.le_of_ble_eq_true rfl) (by decide) (Nat.zero_le _) ?_
              refine v_if_eq (pc := 114) (tgt := 122) F dX4_readLine_114 (by decide) (fun c21 => ?_) (fun c21 => ?_)
              · have hf := ite_t hf c21
                refine v_aload_n (pc := 122) (j := 0) F dX4_readLine_122 rfl rfl ?_
                refine v_ifl (pc := 123) F fl_X4_33 dX4_readLine_123 kc_38.1 kc_38.2 fv_3_0 ?_
                refine v_ldcS (pc := 126) (j := 8) (tx := "every") F (by decide) dX4_readLine_126 ?_
                obtain ⟨r22, e23, hf⟩ := bnd_some hf
                refine v_callVi (pc := 128) (As := [.ref (gK g 8)]) F cl_X4_82 dX4_readLine_128 (kX9_isWord (by decide) e23) kc_39.1 kc_39.2 rc_8 rfl rfl (Nat.le_of_ble_eq_true rfl) (by decide) (Nat.zero_le _) ?_
                refine v_if_eq (pc := 131) (tgt := 139) F dX4_readLine_131 (by decide) (fun c24 => ?_) (fun c24 => ?_)
                · have hf := ite_t hf c24
                  refine v_aload_n (pc := 139) (j := 0) F dX4_readLine_139 rfl rfl ?_
                  refine v_ifl (pc := 140) F fl_X4_33 dX4_readLine_140 kc_38.1 kc_38.2 fv_3_0 ?_
                  refine v_ldcS (pc := 143) (j := 9) (tx := "clean") F (by decide) dX4_readLine_143 ?_
                  obtain ⟨r25, e26, hf⟩ := bnd_some hf
                  refine v_callVi (pc := 145) (As := [.ref (gK g 9)]) F cl_X4_82 dX4_readLine_145 (kX9_isWord (by decide) e26) kc_39.1 kc_39.2 rc_8 rfl rfl (Nat.le_of_ble_eq_true rfl) (by decide) (Nat.zero_le _) ?_
                  refine v_if_eq (pc := 148) (tgt := 156) F dX4_readLine_148 (by decide) (fun c27 => ?_) (fun c27 => ?_)
                  · have hf := ite_t hf c27
                    refine v_aload_n (pc := 156) (j := 0) F dX4_readLine_156 rfl rfl ?_
                    refine v_ifl (pc := 157) F fl_X4_33 dX4_readLine_157 kc_38.1 kc_38.2 fv_3_0 ?_
                    refine v_ldcS (pc := 160) (j := 10) (tx := "tithe") F (by decide) dX4_readLine_160 ?_
                    obtain ⟨r28, e29, hf⟩ := bnd_some hf
                    refine v_callVi (pc := 162) (As := [.ref (gK g 10)]) F cl_X4_82 dX4_readLine_162 (kX9_isWord (by decide) e29) kc_39.1 kc_39.2 rc_8 rfl rfl (Nat.le_of_ble_eq_true rfl) (by decide) (Nat.zero_le _) ?_
                    refine v_if_ne (pc := 165) (tgt := 170) F dX4_readLine_165 (by decide) (fun c30 => ?_) (fun c30 => ?_)
                    · have hf := ite_f hf c30
                      refine v_aload_n (pc := 170) (j := 0) F dX4_readLine_170 rfl rfl ?_
                      refine v_ifl (pc := 171) F fl_X4_25 dX4_readLine_171 kc_38.1 kc_38.2 fv_3_7 ?_
                      refine v_if_eq (pc := 174) (tgt := 179) F dX4_readLine_174 (by decide) (fun c31 => ?_) (fun c31 => ?_)
                      · have hf := ite_t hf c31
                        refine v_aload_n (pc := 179) (j := 0) F dX4_readLine_179 rfl rfl ?_
                        refine v_iconst (pc := 180) (v := 1) F dX4_readLine_180 ic_1 ?_
                        obtain ⟨h32, e33, hf⟩ := bnd_some hf
                        refine v_pfl (pc := 181) F fl_X4_25 pl_3_7 dX4_readLine_181 kc_38.1 kc_38.2 fv_3_7 rfl rfl e33 ?_
                        refine v_aload_n (pc := 184) (j := 0) F dX4_readLine_184 rfl rfl ?_
                        refine v_ifl (pc := 185) F fl_X4_33 dX4_readLine_185 kc_38.1 kc_38.2 fv_3_0 ?_
                        obtain ⟨r34, e35, hf⟩ := bnd_some hf
                        refine v_callVv (pc := 188) (As := []) F cl_X4_77 dX4_readLine_188 (kX9_step e35) kc_39.1 kc_39.2 rc_8 rfl rfl (Nat.le_of_ble_eq_true rfl) (by decide) (Nat.zero_le _) ?_
                        refine v_aload_n (pc := 191) (j := 0) F dX4_readLine_191 rfl rfl ?_
                        refine v_ifl (pc := 192) F fl_X4_48 dX4_readLine_192 kc_38.1 kc_38.2 fv_3_1 ?_
                        refine v_aload_n (pc := 195) (j := 0) F dX4_readLine_195 rfl rfl ?_
                        obtain ⟨f36, e37, hf⟩ := bnd_some hf
                        obtain ⟨ho_f36, hk_f36, e37⟩ := rf_in e37
                        refine v_ifl (pc := 196) F fl_X4_52 dX4_readLine_196 kc_38.1 kc_38.2 (fv_3_2 e37) ?_
                        refine v_ifl (pc := 199) F fl_X4_39 dX4_readLine_199 ho_f36 hk_f36 fv_1_17 ?_
                        obtain ⟨r38, e39, hf⟩ := bnd_some hf
                        refine v_callVi (pc := 202) (As := [.ref (gA g (f36 + 12))]) F cl_X4_126 dX4_readLine_202 (kX6_read (ly_1_17 ho_f36 hk_f36).1 (ly_1_17 ho_f36 hk_f36).2 e39) kc_40.1 kc_40.2 rc_5 rfl rfl (Nat.le_of_ble_eq_true rfl) (by decide) (Nat.zero_le _) ?_
                        exact v_iret (pc := 205) F hr dX4_readLine_205 (some_fst hf) (some_snd hf) (Nat.zero_le _)
                      · have hf := ite_f hf c31
                        refine v_iconst (pc := 177) (v := 5) F dX4_readLine_177 ic_5 ?_
                        exact v_iret (pc := 178) F hr dX4_readLine_178 (some_fst hf) (some_snd hf) (Nat.zero_le _)
                    · have hf := ite_t hf c30
                      refine v_iconst (pc := 168) (v := 1) F dX4_readLine_168 ic_1 ?_
                      exact v_iret (pc := 169) F hr dX4_readLine_169 (some_fst hf) (some_snd hf) (Nat.zero_le _)
                  · have hf := ite_f hf c27
                    refine v_aload_n (pc := 151) (j := 0) F dX4_readLine_151 rfl rfl ?_
                    obtain ⟨r40, e41, hf⟩ := bnd_some hf
                    refine v_callVi (pc := 152) (As := []) F cl_X4_121 dX4_readLine_152 (kX4_readClean e41) kc_38.1 kc_38.2 rc_3 rfl rfl (Nat.le_of_ble_eq_true rfl) (by decide) (Nat.zero_le _) ?_
                    exact v_iret (pc := 155) F hr dX4_readLine_155 (some_fst hf) (some_snd hf) (Nat.zero_le _)
                · have hf := ite_f hf c24
                  refine v_aload_n (pc := 134) (j := 0) F dX4_readLine_134 rfl rfl ?_
                  obtain ⟨r42, e43, hf⟩ := bnd_some hf
                  refine v_callVi (pc := 135) (As := []) F cl_X4_116 dX4_readLine_135 (kX4_readEvery e43) kc_38.1 kc_38.2 rc_3 rfl rfl (Nat.le_of_ble_eq_true rfl) (by decide) (Nat.zero_le _) ?_
                  exact v_iret (pc := 138) F hr dX4_readLine_138 (some_fst hf) (some_snd hf) (Nat.zero_le _)
              · have hf := ite_f hf c21
                refine v_aload_n (pc := 117) (j := 0) F dX4_readLine_117 rfl rfl ?_
                obtain ⟨r44, e45, hf⟩ := bnd_some hf
                refine v_callVi (pc := 118) (As := []) F cl_X4_111 dX4_readLine_118 (kX4_readCalendar e45) kc_38.1 kc_38.2 rc_3 rfl rfl (Nat.le_of_ble_eq_true rfl) (by decide) (Nat.zero_le _) ?_
                exact v_iret (pc := 121) F hr dX4_readLine_121 (some_fst hf) (some_snd hf) (Nat.zero_le _)
            · have hf := ite_f hf c18
              refine v_aload_n (pc := 100) (j := 0) F dX4_readLine_100 rfl rfl ?_
              obtain ⟨r46, e47, hf⟩ := bnd_some hf
              refine v_callVi (pc := 101) (As := []) F cl_X4_106 dX4_readLine_101 (kX4_readBlow e47) kc_38.1 kc_38.2 rc_3 rfl rfl (Nat.le_of_ble_eq_true rfl) (by decide) (Nat.zero_le _) ?_
              exact v_iret (pc := 104) F hr dX4_readLine_104 (some_fst hf) (some_snd hf) (Nat.zero_le _)
          · have hf := ite_f hf c15
            refine v_aload_n (pc := 83) (j := 0) F dX4_readLine_83 rfl rfl ?_
            obtain ⟨r48, e49, hf⟩ := bnd_some hf
            refine v_callVi (pc := 84) (As := []) F cl_X4_101 dX4_readLine_84 (kX4_readWind e49) kc_38.1 kc_38.2 rc_3 rfl rfl (Nat.le_of_ble_eq_true rfl) (by decide) (Nat.zero_le _) ?_
            exact v_iret (pc := 87) F hr dX4_readLine_87 (some_fst hf) (some_snd hf) (Nat.zero_le _)
        · have hf := ite_f hf c12
          refine v_aload_n (pc := 66) (j := 0) F dX4_readLine_66 rfl rfl ?_
          obtain ⟨r50, e51, hf⟩ := bnd_some hf
          refine v_callVi (pc := 67) (As := []) F cl_X4_96 dX4_readLine_67 (kX4_readDoor e51) kc_38.1 kc_38.2 rc_3 rfl rfl (Nat.le_of_ble_eq_true rfl) (by decide) (Nat.zero_le _) ?_
          exact v_iret (pc := 70) F hr dX4_readLine_70 (some_fst hf) (some_snd hf) (Nat.zero_le _)
      · have hf := ite_f hf c9
        refine v_aload_n (pc := 48) (j := 0) F dX4_readLine_48 rfl rfl ?_
        refine v_iconst (pc := 49) (v := 2) F dX4_readLine_49 ic_2 ?_
        obtain ⟨r52, e53, hf⟩ := bnd_some hf
        refine v_callVi (pc := 50) (As := [.int 2]) F cl_X4_86 dX4_readLine_50 (kX4_readRoom e53) kc_38.1 kc_38.2 rc_3 rfl rfl (Nat.le_of_ble_eq_true rfl) (by decide) (Nat.zero_le _) ?_
        exact v_iret (pc := 53) F hr dX4_readLine_53 (some_fst hf) (some_snd hf) (Nat.zero_le _)
    · have hf := ite_f hf c6
      refine v_aload_n (pc := 30) (j := 0) F dX4_readLine_30 rfl rfl ?_
      refine v_iconst (pc := 31) (v := 1) F dX4_readLine_31 ic_1 ?_
      obtain ⟨r54, e55, hf⟩ := bnd_some hf
      refine v_callVi (pc := 32) (As := [.int 1]) F cl_X4_86 dX4_readLine_32 (kX4_readRoom e55) kc_38.1 kc_38.2 rc_3 rfl rfl (Nat.le_of_ble_eq_true rfl) (by decide) (Nat.zero_le _) ?_
      exact v_iret (pc := 35) F hr dX4_readLine_35 (some_fst hf) (some_snd hf) (Nat.zero_le _)
  · have hf := ite_f hf c3
    refine v_aload_n (pc := 12) (j := 0) F dX4_readLine_12 rfl rfl ?_
    refine v_iconst (pc := 13) (v := 0) F dX4_readLine_13 ic_0 ?_
    obtain ⟨r56, e57, hf⟩ := bnd_some hf
    refine v_callVi (pc := 14) (As := [.int 0]) F cl_X4_86 dX4_readLine_14 (kX4_readRoom e57) kc_38.1 kc_38.2 rc_3 rfl rfl (Nat.le_of_ble_eq_true rfl) (by decide) (Nat.zero_le _) ?_
    exact v_iret (pc := 17) F hr dX4_readLine_17 (some_fst hf) (some_snd hf) (Nat.zero_le _)
def fX4_read_85 (h : ST) (l3 : Int32) (l4 : Int32) : Option ((ST × Int32) ⊕ ((ST × Int32) ⊕ ST)) :=
  if l4 = 0 then
  bnd (fX9_step h) fun r23 =>
    some (.inl (r23, l3 + 1))
  else
  some (.inr (.inl (h, l4)))
def fX4_read_42 (s1 : (ST × Int32)) : Option ((ST × Int32) ⊕ ((ST × Int32) ⊕ ST)) :=
  if 700 < s1.2 then
  some (.inr (.inr s1.1))
  else
  if (s1.1 39 0) = 0 then
    some (.inr (.inr s1.1))
    else
    bnd (fX4_readLine s1.1) fun r19 =>
      if r19.1 = 0 then
      bnd (fX9_isSign r19.2 59) fun r25 =>
        if r25 = 0 then
        fX4_read_85 r19.2 s1.2 1
        else
        fX4_read_85 r19.2 s1.2 r19.1
      else
      fX4_read_85 r19.2 s1.2 r19.1
def fX4_read_106 (h : ST)  : Option (Int32 × ST) :=
  some (0, h)
def fX4_read (h : ST) (a1 : Int32) (o2 : Nat) : Option (Int32 × ST) :=
  bnd (pw h 38 2 (Int32.ofNat o2)) fun h1 =>
  bnd (rf KC 395 1 (h1 38 2)) fun f3 =>
  bnd (fX2_clear h1 f3) fun r5 =>
  bnd (pw r5 38 4 0) fun h7 =>
  bnd (pw h7 38 5 0) fun h9 =>
  bnd (pw h9 38 6 0) fun h11 =>
  bnd (pw h11 38 7 0) fun h13 =>
  bnd (fX9_begin h13 a1) fun r15 =>
  bnd (lp FU (fX4_read_42) (r15, 0)) fun x28 =>
  sm x28 (fun v => some (v.2, v.1)) (fun v => fX4_read_106 v )
set_option maxRecDepth 100000 in
set_option maxHeartbeats 4000000 in
theorem tX4_read_85 {p : Program} {l : Launch} {e : Env} {s : State} {m : MethodId} {args : Array Value} {below : List Frame} {meth : Method} {c : Code} {g : GE} {B : Nat} {h : ST}  {l3 : Int32} {l4 : Int32} (F : Fx p s m args meth c cX4_read 5 "DustParish$Reader" 395 g B)
    {Q : State → Prop} {y : (ST × Int32) ⊕ ((ST × Int32) ⊕ ST)} (hk : ∀ v : (ST × Int32), y = Sum.inl v → V p l e 17 0 s m args below meth c Q KC 395 g B 5 0 v.1 42 [(0, .ref (gA g 38)), (3, .int v.2)] []) (hx0 : ∀ v : (ST × Int32), y = Sum.inr (.inl v) → V p l e 17 0 s m args below meth c Q KC 395 g B 5 0 v.1 90 [(4, .int v.2)] []) (hx1 : ∀ v : ST, y = Sum.inr (.inr v) → V p l e 17 0 s m args below meth c Q KC 395 g B 5 0 v 106 [] []) (hf : fX4_read_85 h l3 l4 = some y) : V p l e 17 0 s m args below meth c Q KC 395 g B 5 0 h 85 [(0, .ref (gA g 38)), (3, .int l3), (4, .int l4)] [] := by
  unfold fX4_read_85 at hf
  refine v_iload (pc := 85) (j := 2) F dX4_read_85 rfl ?_
  refine v_if_eq (pc := 87) (tgt := 93) F dX4_read_87 (by decide) (fun c22 => ?_) (fun c22 => ?_)
  · have hf := ite_t hf c22
    refine v_aload_n (pc := 93) (j := 0) F dX4_read_93 rfl rfl ?_
    refine v_ifl (pc := 94) F fl_X4_33 dX4_read_94 kc_38.1 kc_38.2 fv_3_0 ?_
    obtain ⟨r23, e24, hf⟩ := bnd_some hf
    refine v_callVv (pc := 97) (As := []) F cl_X4_77 dX4_read_97 (kX9_step e24) kc_39.1 kc_39.2 rc_8 rfl rfl (Nat.le_of_ble_eq_true rfl) (by decide) (Nat.zero_le _) ?_
    refine v_iinc (pc := 100) (j := 1) (v := l3 + 1) (lv' := [(0, .ref (gA g 38)), (3, .int (l3 + 1)), (4, .int l4)]) F dX4_read_100 rfl (congrArg (fun z => l3 + z) ic_1) (by decide) rfl ?_
    refine v_goto (pc := 103) (tgt := 42) F dX4_read_103 (by decide) ?_
    refine V.sub (lv' := [(0, .ref (gA g 38)), (3, .int (l3 + 1))]) [0, 1] rfl ?_
    exact hk (r23, l3 + 1) (Option.some.inj hf).symm
  · have hf := ite_f hf c22
    refine V.sub (lv' := [(4, .int l4)]) [2] rfl ?_
    exact hx0 (h, l4) (Option.some.inj hf).symm
set_option maxRecDepth 100000 in
set_option maxHeartbeats 4000000 in
theorem tX4_read_42 {p : Program} {l : Launch} {e : Env} {s : State} {m : MethodId} {args : Array Value} {below : List Frame} {meth : Method} {c : Code} {g : GE} {B : Nat}   {Q : State → Prop} {x : ((ST × Int32) ⊕ ST)} {nf : Nat} {s0 : (ST × Int32)} (F : Fx p s m args meth c cX4_read 5 "DustParish$Reader" 395 g B) (hX0 : ∀ v : (ST × Int32), x = (.inl v) → V p l e 17 0 s m args below meth c Q KC 395 g B 5 0 v.1 90 [(4, .int v.2)] []) (hX1 : ∀ v : ST, x = (.inr v) → V p l e 17 0 s m args below meth c Q KC 395 g B 5 0 v 106 [] []) (hl : lp nf (fX4_read_42) s0 = some x) : V p l e 17 0 s m args below meth c Q KC 395 g B 5 0 s0.1 42 [(0, .ref (gA g 38)), (3, .int s0.2)] [] := by
  refine lp_ind (P := fun s0 => V p l e 17 0 s m args below meth c Q KC 395 g B 5 0 s0.1 42 [(0, .ref (gA g 38)), (3, .int s0.2)] []) ?_ nf s0 hl
  intro s1 y hf hk hx
  have hx0 : ∀ v : (ST × Int32), y = Sum.inr (.inl v) → V p l e 17 0 s m args below meth c Q KC 395 g B 5 0 v.1 90 [(4, .int v.2)] [] := fun v e9 => hX0 v (hx _ e9).symm
  have hx1 : ∀ v : ST, y = Sum.inr (.inr v) → V p l e 17 0 s m args below meth c Q KC 395 g B 5 0 v 106 [] [] := fun v e9 => hX1 v (hx _ e9).symm
  unfold fX4_read_42 at hf
  refine v_iload_n (pc := 42) (j := 1) F dX4_read_42 rfl rfl ?_
  refine v_sipush (pc := 43) (v := 700) F dX4_read_43 sp_700 ?_
  refine v_icmp_gt (pc := 46) (tgt := 106) F dX4_read_46 (by decide) (fun c17 => ?_) (fun c17 => ?_)
  · have hf := ite_t hf c17
    refine V.sub (lv' := []) [] rfl ?_
    exact hx1 s1.1 (Option.some.inj hf).symm
  · have hf := ite_f hf c17
    refine v_aload_n (pc := 49) (j := 0) F dX4_read_49 rfl rfl ?_
    refine v_ifl (pc := 50) F fl_X4_33 dX4_read_50 kc_38.1 kc_38.2 fv_3_0 ?_
    refine v_ifl (pc := 53) F fl_X4_66 dX4_read_53 kc_39.1 kc_39.2 fv_8_0 ?_
    refine v_if_eq (pc := 56) (tgt := 106) F dX4_read_56 (by decide) (fun c18 => ?_) (fun c18 => ?_)
    · have hf := ite_t hf c18
      refine V.sub (lv' := []) [] rfl ?_
      exact hx1 s1.1 (Option.some.inj hf).symm
    · have hf := ite_f hf c18
      refine v_aload_n (pc := 59) (j := 0) F dX4_read_59 rfl rfl ?_
      obtain ⟨r19, e20, hf⟩ := bnd_some hf
      refine v_callVi (pc := 60) (As := []) F cl_X4_69 dX4_read_60 (kX4_readLine e20) kc_38.1 kc_38.2 rc_3 rfl rfl (Nat.le_of_ble_eq_true rfl) (by decide) (Nat.zero_le _) ?_
      refine v_istore (pc := 63) (lv' := [(0, .ref (gA g 38)), (3, .int s1.2), (4, .int r19.1)]) F dX4_read_63 (by decide) rfl ?_
      refine v_iload (pc := 65) (j := 2) F dX4_read_65 rfl ?_
      refine v_if_ne (pc := 67) (tgt := 85) F dX4_read_67 (by decide) (fun c21 => ?_) (fun c21 => ?_)
      · have hf := ite_f hf c21
        exact tX4_read_85 F hk hx0 hx1 hf
      · have hf := ite_t hf c21
        refine v_aload_n (pc := 70) (j := 0) F dX4_read_70 rfl rfl ?_
        refine v_ifl (pc := 71) F fl_X4_33 dX4_read_71 kc_38.1 kc_38.2 fv_3_0 ?_
        refine v_bipush (pc := 74) (v := 59) F dX4_read_74 bp_59 ?_
        obtain ⟨r25, e26, hf⟩ := bnd_some hf
        refine v_callVi (pc := 76) (As := [.int 59]) F cl_X4_73 dX4_read_76 (kX9_isSign e26) kc_39.1 kc_39.2 rc_8 rfl rfl (Nat.le_of_ble_eq_true rfl) (by decide) (Nat.zero_le _) ?_
        refine v_if_ne (pc := 79) (tgt := 85) F dX4_read_79 (by decide) (fun c27 => ?_) (fun c27 => ?_)
        · have hf := ite_f hf c27
          exact tX4_read_85 F hk hx0 hx1 hf
        · have hf := ite_t hf c27
          refine v_iconst (pc := 82) (v := 1) F dX4_read_82 ic_1 ?_
          refine v_istore (pc := 83) (lv' := [(0, .ref (gA g 38)), (3, .int s1.2), (4, .int 1)]) F dX4_read_83 (by decide) rfl ?_
          exact tX4_read_85 F hk hx0 hx1 hf
set_option maxRecDepth 100000 in
set_option maxHeartbeats 4000000 in
theorem tX4_read_106 {p : Program} {l : Launch} {e : Env} {s : State} {m : MethodId} {args : Array Value} {below : List Frame} {meth : Method} {c : Code} {g : GE} {B : Nat} {h : ST}  (F : Fx p s m args meth c cX4_read 5 "DustParish$Reader" 395 g B)
    {y : Int32 × ST} (hr : meth.sig.returnType = (some .int)) (hf : fX4_read_106 h  = some y) : V p l e 17 0 s m args below meth c (MQ below (QO KC 395 g (some (.int y.1)) y.2) args s 0 (6 * 0) (WA 395 g)) KC 395 g B 5 0 h 106 [] [] := by
  unfold fX4_read_106 at hf
  refine v_iconst (pc := 106) (v := 0) F dX4_read_106 ic_0 ?_
  exact v_iret (pc := 107) F hr dX4_read_107 (some_fst hf) (some_snd hf) (Nat.zero_le _)
set_option maxRecDepth 100000 in
set_option maxHeartbeats 4000000 in
theorem kX4_read {l : Launch} {g : GE} {B : Nat} {h : ST} {a1 : Int32} {o2 : Nat} (ho_o2 : o2 < 395) (hk_o2 : KC o2 = (1, 0)) {y : Int32 × ST} (hf : fX4_read h a1 o2 = some y) : CT l yX4_read cX4_read 5 (some .int) 17 KC 395 g B [.ref (gA g 38), .int a1, .ref (gA g o2)] h (some (.int y.1)) y.2 := by
  refine CT.of pn_X4 (Nat.le_of_ble_eq_true rfl) ?_
  intro p e s m below meth c hr F
  have F : Fx p s m _ meth c cX4_read 5 "DustParish$Reader" 395 g B := F
  refine V_lv (lv' := [(0, .ref (gA g 38)), (1, .int a1), (2, .ref (gA g o2))]) rfl ?_
  unfold fX4_read at hf
  refine v_aload_n (pc := 0) (j := 0) F dX4_read_0 rfl rfl ?_
  refine v_aload_n (pc := 1) (j := 2) F dX4_read_1 rfl rfl ?_
  obtain ⟨h1, e2, hf⟩ := bnd_some hf
  refine v_pfl (pc := 2) F fl_X4_52 pl_3_2 dX4_read_2 kc_38.1 kc_38.2 (fv_3_2 (ofNat_back (Nat.lt_trans ho_o2 (by decide)))) rfl rfl e2 ?_
  refine v_aload_n (pc := 5) (j := 0) F dX4_read_5 rfl rfl ?_
  obtain ⟨f3, e4, hf⟩ := bnd_some hf
  obtain ⟨ho_f3, hk_f3, e4⟩ := rf_in e4
  refine v_ifl (pc := 6) F fl_X4_52 dX4_read_6 kc_38.1 kc_38.2 (fv_3_2 e4) ?_
  obtain ⟨r5, e6, hf⟩ := bnd_some hf
  refine v_callVv (pc := 9) (As := []) F cl_X4_59 dX4_read_9 (kX2_clear ho_f3 hk_f3 e6) ho_f3 hk_f3 rc_1 rfl rfl (Nat.le_of_ble_eq_true rfl) (by decide) (Nat.zero_le _) ?_
  refine v_aload_n (pc := 12) (j := 0) F dX4_read_12 rfl rfl ?_
  refine v_iconst (pc := 13) (v := 0) F dX4_read_13 ic_0 ?_
  obtain ⟨h7, e8, hf⟩ := bnd_some hf
  refine v_pfl (pc := 14) F fl_X4_15 pl_3_4 dX4_read_14 kc_38.1 kc_38.2 fv_3_4 rfl rfl e8 ?_
  refine v_aload_n (pc := 17) (j := 0) F dX4_read_17 rfl rfl ?_
  refine v_iconst (pc := 18) (v := 0) F dX4_read_18 ic_0 ?_
  obtain ⟨h9, e10, hf⟩ := bnd_some hf
  refine v_pfl (pc := 19) F fl_X4_19 pl_3_5 dX4_read_19 kc_38.1 kc_38.2 fv_3_5 rfl rfl e10 ?_
  refine v_aload_n (pc := 22) (j := 0) F dX4_read_22 rfl rfl ?_
  refine v_iconst (pc := 23) (v := 0) F dX4_read_23 ic_0 ?_
  obtain ⟨h11, e12, hf⟩ := bnd_some hf
  refine v_pfl (pc := 24) F fl_X4_22 pl_3_6 dX4_read_24 kc_38.1 kc_38.2 fv_3_6 rfl rfl e12 ?_
  refine v_aload_n (pc := 27) (j := 0) F dX4_read_27 rfl rfl ?_
  refine v_iconst (pc := 28) (v := 0) F dX4_read_28 ic_0 ?_
  obtain ⟨h13, e14, hf⟩ := bnd_some hf
  refine v_pfl (pc := 29) F fl_X4_25 pl_3_7 dX4_read_29 kc_38.1 kc_38.2 fv_3_7 rfl rfl e14 ?_
  refine v_aload_n (pc := 32) (j := 0) F dX4_read_32 rfl rfl ?_
  refine v_ifl (pc := 33) F fl_X4_33 dX4_read_33 kc_38.1 kc_38.2 fv_3_0 ?_
  refine v_iload_n (pc := 36) (j := 1) F dX4_read_36 rfl rfl ?_
  obtain ⟨r15, e16, hf⟩ := bnd_some hf
  refine v_callVv (pc := 37) (As := [.int a1]) F cl_X4_62 dX4_read_37 (kX9_begin e16) kc_39.1 kc_39.2 rc_8 rfl rfl (Nat.le_of_ble_eq_true rfl) (by decide) (Nat.zero_le _) ?_
  refine v_iconst (pc := 40) (v := 0) F dX4_read_40 ic_0 ?_
  refine v_istore_n (pc := 41) (lv' := [(0, .ref (gA g 38)), (1, .int a1), (2, .ref (gA g o2)), (3, .int 0)]) F dX4_read_41 rfl (by decide) rfl ?_
  obtain ⟨x28, e29, hf⟩ := bnd_some hf
  refine V.sub (lv' := [(0, .ref (gA g 38)), (3, .int 0)]) [0, 3] rfl ?_
  refine tX4_read_42 (s0 := (r15, 0)) F (fun v e9 => ?_) (fun v e9 => ?_) e29
  · subst e9
    have hf := sm_l hf
    refine v_iload (pc := 90) (j := 0) F dX4_read_90 rfl ?_
    exact v_iret (pc := 92) F hr dX4_read_92 (some_fst hf) (some_snd hf) (Nat.zero_le _)
  · subst e9
    have hf := sm_r hf
    exact tX4_read_106 F hr hf
def fX4_place (h : ST) : Option (Int32) :=
  some (h 39 1)
set_option maxRecDepth 100000 in
set_option maxHeartbeats 4000000 in
theorem kX4_place {l : Launch} {g : GE} {B : Nat} {h : ST} {y : Int32} (hf : fX4_place h = some y) : CT l yX4_place cX4_place 1 (some .int) 1 KC 395 g B [.ref (gA g 38)] h (some (.int y)) h := by
  refine CT.of pn_X4 (Nat.le_of_ble_eq_true rfl) ?_
  intro p e s m below meth c hr F
  have F : Fx p s m _ meth c cX4_place 1 "DustParish$Reader" 395 g B := F
  refine V_lv (lv' := [(0, .ref (gA g 38))]) rfl ?_
  unfold fX4_place at hf
  refine v_aload_n (pc := 0) (j := 0) F dX4_place_0 rfl rfl ?_
  refine v_ifl (pc := 1) F fl_X4_33 dX4_place_1 kc_38.1 kc_38.2 fv_3_0 ?_
  refine v_ifl (pc := 4) F fl_X4_56 dX4_place_4 kc_39.1 kc_39.2 fv_8_1 ?_
  exact v_iret (pc := 7) F hr dX4_place_7 (Option.some.inj hf) rfl (Nat.zero_le _)
def fX10_shorter_20 (h : ST) (q0 : Int32) : Option (Int32) :=
  some q0
def fX10_shorter_10 (h : ST) (l0 : Int32) (l1 : Int32) : Option (Int32) :=
  if l0 = (-1) then
  fX10_shorter_20 h l1
  else
  fX10_shorter_20 h l0
def fX10_shorter (h : ST) (a1 : Int32) (a2 : Int32) : Option (Int32) :=
  if a1 = (-1) then
  fX10_shorter_10 h a1 a2
  else
  if a2 = (-1) then
    fX10_shorter_10 h a1 a2
    else
    some (if a2 < a1 then a2 else a1)
set_option maxRecDepth 100000 in
set_option maxHeartbeats 4000000 in
theorem tX10_shorter_20 {p : Program} {l : Launch} {e : Env} {s : State} {m : MethodId} {args : Array Value} {below : List Frame} {meth : Method} {c : Code} {g : GE} {B : Nat} {h : ST}  {q0 : Int32} (F : Fx p s m args meth c cX10_shorter 2 "DustParish" 395 g B)
    {y : Int32} (hr : meth.sig.returnType = (some .int)) (hf : fX10_shorter_20 h q0 = some y) : V p l e 1 0 s m args below meth c (MQ below (QO KC 395 g (some (.int y)) h) args s 0 (6 * 0) (WA 395 g)) KC 395 g B 2 0 h 20 [] [.int q0] := by
  unfold fX10_shorter_20 at hf
  exact v_iret (pc := 20) F hr dX10_shorter_20 (Option.some.inj hf) rfl (Nat.zero_le _)
set_option maxRecDepth 100000 in
set_option maxHeartbeats 4000000 in
theorem tX10_shorter_10 {p : Program} {l : Launch} {e : Env} {s : State} {m : MethodId} {args : Array Value} {below : List Frame} {meth : Method} {c : Code} {g : GE} {B : Nat} {h : ST}  {l0 : Int32} {l1 : Int32} (F : Fx p s m args meth c cX10_shorter 2 "DustParish" 395 g B)
    {y : Int32} (hr : meth.sig.returnType = (some .int)) (hf : fX10_shorter_10 h l0 l1 = some y) : V p l e 1 0 s m args below meth c (MQ below (QO KC 395 g (some (.int y)) h) args s 0 (6 * 0) (WA 395 g)) KC 395 g B 2 0 h 10 [(0, .int l0), (1, .int l1)] [] := by
  unfold fX10_shorter_10 at hf
  refine v_iload_n (pc := 10) (j := 0) F dX10_shorter_10 rfl rfl ?_
  refine v_iconst (pc := 11) (v := (-1)) F dX10_shorter_11 ic_m1 ?_
  refine v_icmp_ne (pc := 12) (tgt := 19) F dX10_shorter_12 (by decide) (fun c2 => ?_) (fun c2 => ?_)
  · have hf := ite_f hf c2
    refine v_iload_n (pc := 19) (j := 0) F dX10_shorter_19 rfl rfl ?_
    refine V.sub (lv' := []) [] rfl ?_
    exact tX10_shorter_20 F hr hf
  · have hf := ite_t hf c2
    refine v_iload_n (pc := 15) (j := 1) F dX10_shorter_15 rfl rfl ?_
    refine v_goto (pc := 16) (tgt := 20) F dX10_shorter_16 (by decide) ?_
    refine V.sub (lv' := []) [] rfl ?_
    exact tX10_shorter_20 F hr hf
set_option maxRecDepth 100000 in
set_option maxHeartbeats 4000000 in
theorem kX10_shorter {l : Launch} {g : GE} {B : Nat} {h : ST} {a1 : Int32} {a2 : Int32} {y : Int32} (hf : fX10_shorter h a1 a2 = some y) : CT l yX10_shorter cX10_shorter 2 (some .int) 1 KC 395 g B [.int a1, .int a2] h (some (.int y)) h := by
  refine CT.of pn_X10 (Nat.le_of_ble_eq_true rfl) ?_
  intro p e s m below meth c hr F
  have F : Fx p s m _ meth c cX10_shorter 2 "DustParish" 395 g B := F
  refine V_lv (lv' := [(0, .int a1), (1, .int a2)]) rfl ?_
  unfold fX10_shorter at hf
  refine v_iload_n (pc := 0) (j := 0) F dX10_shorter_0 rfl rfl ?_
  refine v_iconst (pc := 1) (v := (-1)) F dX10_shorter_1 ic_m1 ?_
  refine v_icmp_eq (pc := 2) (tgt := 10) F dX10_shorter_2 (by decide) (fun c1 => ?_) (fun c1 => ?_)
  · have hf := ite_t hf c1
    exact tX10_shorter_10 F hr hf
  · have hf := ite_f hf c1
    refine v_iload_n (pc := 5) (j := 1) F dX10_shorter_5 rfl rfl ?_
    refine v_iconst (pc := 6) (v := (-1)) F dX10_shorter_6 ic_m1 ?_
    refine v_icmp_ne (pc := 7) (tgt := 21) F dX10_shorter_7 (by decide) (fun c3 => ?_) (fun c3 => ?_)
    · have hf := ite_f hf c3
      refine v_iload_n (pc := 21) (j := 0) F dX10_shorter_21 rfl rfl ?_
      refine v_iload_n (pc := 22) (j := 1) F dX10_shorter_22 rfl rfl ?_
      refine v_mmin (pc := 23) F tw_918 mminW dX10_shorter_23 (by decide) (Nat.le_of_ble_eq_true rfl) (Nat.zero_le _) ?_
      exact v_iret (pc := 26) F hr dX10_shorter_26 (Option.some.inj hf) rfl (Nat.zero_le _)
    · have hf := ite_t hf c3
      exact tX10_shorter_10 F hr hf
def fX2_shortenBy_88 (h : ST) (o : Nat) (l1 : Int32) (l2 : Int32) (l3 : Int32) : Option ((ST × Int32) ⊕ ST) :=
  some (.inl (h, l3 + 1))
def fX2_shortenBy_12 (o : Nat) (l1 : Int32) (l2 : Int32) (s1 : (ST × Int32)) : Option ((ST × Int32) ⊕ ST) :=
  if (s1.1 o 0) ≤ s1.2 then
  some (.inr s1.1)
  else
  bnd (rd 81 (s1.1 (o + 16)) ((l2 * 9) + l1)) fun v3 =>
    bnd (rd 81 (s1.1 (o + 16)) ((l1 * 9) + s1.2)) fun v5 =>
    if v3 = (-1) then
    fX2_shortenBy_88 s1.1 o l1 l2 s1.2
    else
    if v5 = (-1) then
      fX2_shortenBy_88 s1.1 o l1 l2 s1.2
      else
      bnd (rd 81 (s1.1 (o + 16)) ((l2 * 9) + s1.2)) fun v9 =>
        bnd (fX10_shorter s1.1 v9 (v3 + v5)) fun r11 =>
        bnd (wr 81 s1.1 (o + 16) ((l2 * 9) + s1.2) r11) fun h13 =>
        fX2_shortenBy_88 h13 o l1 l2 s1.2
def fX2_shortenBy_2 (o : Nat) (l1 : Int32) (s1 : (ST × Int32)) : Option ((ST × Int32) ⊕ ST) :=
  if (s1.1 o 0) ≤ s1.2 then
  some (.inr s1.1)
  else
  bnd (lp FU (fX2_shortenBy_12 o l1 s1.2) (s1.1, 0)) fun x15 =>
    some (.inl (x15, s1.2 + 1))
def fX2_shortenBy (h : ST) (o : Nat) (a1 : Int32) : Option (ST) :=
  bnd (lp FU (fX2_shortenBy_2 o a1) (h, 0)) fun x17 =>
  some x17
set_option maxRecDepth 100000 in
set_option maxHeartbeats 4000000 in
theorem tX2_shortenBy_88 {p : Program} {l : Launch} {e : Env} {s : State} {m : MethodId} {args : Array Value} {below : List Frame} {meth : Method} {c : Code} {g : GE} {B : Nat} {h : ST} {o : Nat} (ho_o : o < 395) (hk_o : KC o = (1, 0)) {l1 : Int32} {l2 : Int32} {l3 : Int32} (F : Fx p s m args meth c cX2_shortenBy 7 "DustParish$Facts" 395 g B)
    {Q : State → Prop} {y : (ST × Int32) ⊕ ST} (hk : ∀ v : (ST × Int32), y = Sum.inl v → V p l e 2 0 s m args below meth c Q KC 395 g B 7 0 v.1 12 [(0, .ref (gA g o)), (1, .int l1), (2, .int l2), (3, .int v.2)] []) (hx0 : ∀ v : ST, y = Sum.inr v → V p l e 2 0 s m args below meth c Q KC 395 g B 7 0 v 94 [(0, .ref (gA g o)), (1, .int l1), (2, .int l2)] []) (hf : fX2_shortenBy_88 h o l1 l2 l3 = some y) : V p l e 2 0 s m args below meth c Q KC 395 g B 7 0 h 88 [(0, .ref (gA g o)), (1, .int l1), (2, .int l2), (3, .int l3)] [] := by
  unfold fX2_shortenBy_88 at hf
  refine v_iinc (pc := 88) (j := 3) (v := l3 + 1) (lv' := [(0, .ref (gA g o)), (1, .int l1), (2, .int l2), (3, .int (l3 + 1))]) F dX2_shortenBy_88 rfl (congrArg (fun z => l3 + z) ic_1) (by decide) rfl ?_
  refine v_goto (pc := 91) (tgt := 12) F dX2_shortenBy_91 (by decide) ?_
  exact hk (h, l3 + 1) (Option.some.inj hf).symm
set_option maxRecDepth 100000 in
set_option maxHeartbeats 4000000 in
theorem tX2_shortenBy_12 {p : Program} {l : Launch} {e : Env} {s : State} {m : MethodId} {args : Array Value} {below : List Frame} {meth : Method} {c : Code} {g : GE} {B : Nat}  {o : Nat} (ho_o : o < 395) (hk_o : KC o = (1, 0)) {l1 : Int32} {l2 : Int32} {Q : State → Prop} {x : ST} {nf : Nat} {s0 : (ST × Int32)} (F : Fx p s m args meth c cX2_shortenBy 7 "DustParish$Facts" 395 g B) (hX0 : V p l e 2 0 s m args below meth c Q KC 395 g B 7 0 x 94 [(0, .ref (gA g o)), (1, .int l1), (2, .int l2)] []) (hl : lp nf (fX2_shortenBy_12 o l1 l2) s0 = some x) : V p l e 2 0 s m args below meth c Q KC 395 g B 7 0 s0.1 12 [(0, .ref (gA g o)), (1, .int l1), (2, .int l2), (3, .int s0.2)] [] := by
  refine lp_ind (P := fun s0 => V p l e 2 0 s m args below meth c Q KC 395 g B 7 0 s0.1 12 [(0, .ref (gA g o)), (1, .int l1), (2, .int l2), (3, .int s0.2)] []) ?_ nf s0 hl
  intro s1 y hf hk hx
  have hx0 : ∀ v : ST, y = Sum.inr v → V p l e 2 0 s m args below meth c Q KC 395 g B 7 0 v 94 [(0, .ref (gA g o)), (1, .int l1), (2, .int l2)] [] := fun v e9 => by rw [hx v e9]; exact hX0
  unfold fX2_shortenBy_12 at hf
  refine v_iload_n (pc := 12) (j := 3) F dX2_shortenBy_12 rfl rfl ?_
  refine v_aload_n (pc := 13) (j := 0) F dX2_shortenBy_13 rfl rfl ?_
  refine v_ifl (pc := 14) F fl_X2_58 dX2_shortenBy_14 ho_o hk_o fv_1_0 ?_
  refine v_icmp_ge (pc := 17) (tgt := 94) F dX2_shortenBy_17 (by decide) (fun c2 => ?_) (fun c2 => ?_)
  · have hf := ite_t hf c2
    refine V.sub (lv' := [(0, .ref (gA g o)), (1, .int l1), (2, .int l2)]) [0, 1, 2] rfl ?_
    exact hx0 s1.1 (Option.some.inj hf).symm
  · have hf := ite_f hf c2
    refine v_aload_n (pc := 20) (j := 0) F dX2_shortenBy_20 rfl rfl ?_
    refine v_ifl (pc := 21) F fl_X2_52 dX2_shortenBy_21 ho_o hk_o fv_1_18 ?_
    refine v_iload_n (pc := 24) (j := 2) F dX2_shortenBy_24 rfl rfl ?_
    refine v_bipush (pc := 25) (v := 9) F dX2_shortenBy_25 bp_9 ?_
    refine v_imul (pc := 27) F dX2_shortenBy_27 ?_
    refine v_iload_n (pc := 28) (j := 1) F dX2_shortenBy_28 rfl rfl ?_
    refine v_iadd (pc := 29) F dX2_shortenBy_29 ?_
    obtain ⟨v3, e4, hf⟩ := bnd_some hf
    refine v_iald (pc := 30) F dX2_shortenBy_30 (ly_1_18 ho_o hk_o).1 (ly_1_18 ho_o hk_o).2 e4 ?_
    refine v_istore (pc := 31) (lv' := [(0, .ref (gA g o)), (1, .int l1), (2, .int l2), (3, .int s1.2), (4, .int v3)]) F dX2_shortenBy_31 (by decide) rfl ?_
    refine v_aload_n (pc := 33) (j := 0) F dX2_shortenBy_33 rfl rfl ?_
    refine v_ifl (pc := 34) F fl_X2_52 dX2_shortenBy_34 ho_o hk_o fv_1_18 ?_
    refine v_iload_n (pc := 37) (j := 1) F dX2_shortenBy_37 rfl rfl ?_
    refine v_bipush (pc := 38) (v := 9) F dX2_shortenBy_38 bp_9 ?_
    refine v_imul (pc := 40) F dX2_shortenBy_40 ?_
    refine v_iload_n (pc := 41) (j := 3) F dX2_shortenBy_41 rfl rfl ?_
    refine v_iadd (pc := 42) F dX2_shortenBy_42 ?_
    obtain ⟨v5, e6, hf⟩ := bnd_some hf
    refine v_iald (pc := 43) F dX2_shortenBy_43 (ly_1_18 ho_o hk_o).1 (ly_1_18 ho_o hk_o).2 e6 ?_
    refine v_istore (pc := 44) (lv' := [(0, .ref (gA g o)), (1, .int l1), (2, .int l2), (3, .int s1.2), (4, .int v3), (5, .int v5)]) F dX2_shortenBy_44 (by decide) rfl ?_
    refine v_iload (pc := 46) (j := 4) F dX2_shortenBy_46 rfl ?_
    refine v_iconst (pc := 48) (v := (-1)) F dX2_shortenBy_48 ic_m1 ?_
    refine v_icmp_eq (pc := 49) (tgt := 88) F dX2_shortenBy_49 (by decide) (fun c7 => ?_) (fun c7 => ?_)
    · have hf := ite_t hf c7
      refine V.sub (lv' := [(0, .ref (gA g o)), (1, .int l1), (2, .int l2), (3, .int s1.2)]) [0, 1, 2, 3] rfl ?_
      exact tX2_shortenBy_88 ho_o hk_o F hk hx0 hf
    · have hf := ite_f hf c7
      refine v_iload (pc := 52) (j := 5) F dX2_shortenBy_52 rfl ?_
      refine v_iconst (pc := 54) (v := (-1)) F dX2_shortenBy_54 ic_m1 ?_
      refine v_icmp_eq (pc := 55) (tgt := 88) F dX2_shortenBy_55 (by decide) (fun c8 => ?_) (fun c8 => ?_)
      · have hf := ite_t hf c8
        refine V.sub (lv' := [(0, .ref (gA g o)), (1, .int l1), (2, .int l2), (3, .int s1.2)]) [0, 1, 2, 3] rfl ?_
        exact tX2_shortenBy_88 ho_o hk_o F hk hx0 hf
      · have hf := ite_f hf c8
        refine v_iload_n (pc := 58) (j := 2) F dX2_shortenBy_58 rfl rfl ?_
        refine v_bipush (pc := 59) (v := 9) F dX2_shortenBy_59 bp_9 ?_
        refine v_imul (pc := 61) F dX2_shortenBy_61 ?_
        refine v_iload_n (pc := 62) (j := 3) F dX2_shortenBy_62 rfl rfl ?_
        refine v_iadd (pc := 63) F dX2_shortenBy_63 ?_
        refine v_istore (pc := 64) (lv' := [(0, .ref (gA g o)), (1, .int l1), (2, .int l2), (3, .int s1.2), (4, .int v3), (5, .int v5), (6, .int ((l2 * 9) + s1.2))]) F dX2_shortenBy_64 (by decide) rfl ?_
        refine v_aload_n (pc := 66) (j := 0) F dX2_shortenBy_66 rfl rfl ?_
        refine v_ifl (pc := 67) F fl_X2_52 dX2_shortenBy_67 ho_o hk_o fv_1_18 ?_
        refine v_iload (pc := 70) (j := 6) F dX2_shortenBy_70 rfl ?_
        refine v_aload_n (pc := 72) (j := 0) F dX2_shortenBy_72 rfl rfl ?_
        refine v_ifl (pc := 73) F fl_X2_52 dX2_shortenBy_73 ho_o hk_o fv_1_18 ?_
        refine v_iload (pc := 76) (j := 6) F dX2_shortenBy_76 rfl ?_
        obtain ⟨v9, e10, hf⟩ := bnd_some hf
        refine v_iald (pc := 78) F dX2_shortenBy_78 (ly_1_18 ho_o hk_o).1 (ly_1_18 ho_o hk_o).2 e10 ?_
        refine v_iload (pc := 79) (j := 4) F dX2_shortenBy_79 rfl ?_
        refine v_iload (pc := 81) (j := 5) F dX2_shortenBy_81 rfl ?_
        refine v_iadd (pc := 83) F dX2_shortenBy_83 ?_
        obtain ⟨r11, e12, hf⟩ := bnd_some hf
        refine v_callSN (pc := 84) (As := [.int v9, .int (v3 + v5)]) (host := "DustParish") F (by decide +kernel) shorterW cy_yX10_shorter dX2_shortenBy_84 (kX10_shorter e12) rfl rfl (Nat.le_of_ble_eq_true rfl) (by decide) (Nat.zero_le _) ?_
        obtain ⟨h13, e14, hf⟩ := bnd_some hf
        refine v_iast (pc := 87) F dX2_shortenBy_87 (ly_1_18 ho_o hk_o).1 (ly_1_18 ho_o hk_o).2 e14 ?_
        refine V.sub (lv' := [(0, .ref (gA g o)), (1, .int l1), (2, .int l2), (3, .int s1.2)]) [0, 1, 2, 3] rfl ?_
        exact tX2_shortenBy_88 ho_o hk_o F hk hx0 hf
set_option maxRecDepth 100000 in
set_option maxHeartbeats 4000000 in
theorem tX2_shortenBy_2 {p : Program} {l : Launch} {e : Env} {s : State} {m : MethodId} {args : Array Value} {below : List Frame} {meth : Method} {c : Code} {g : GE} {B : Nat}  {o : Nat} (ho_o : o < 395) (hk_o : KC o = (1, 0)) {l1 : Int32} {Q : State → Prop} {x : ST} {nf : Nat} {s0 : (ST × Int32)} (F : Fx p s m args meth c cX2_shortenBy 7 "DustParish$Facts" 395 g B) (hX0 : V p l e 2 0 s m args below meth c Q KC 395 g B 7 0 x 100 [] []) (hl : lp nf (fX2_shortenBy_2 o l1) s0 = some x) : V p l e 2 0 s m args below meth c Q KC 395 g B 7 0 s0.1 2 [(0, .ref (gA g o)), (1, .int l1), (2, .int s0.2)] [] := by
  refine lp_ind (P := fun s0 => V p l e 2 0 s m args below meth c Q KC 395 g B 7 0 s0.1 2 [(0, .ref (gA g o)), (1, .int l1), (2, .int s0.2)] []) ?_ nf s0 hl
  intro s1 y hf hk hx
  have hx0 : ∀ v : ST, y = Sum.inr v → V p l e 2 0 s m args below meth c Q KC 395 g B 7 0 v 100 [] [] := fun v e9 => by rw [hx v e9]; exact hX0
  unfold fX2_shortenBy_2 at hf
  refine v_iload_n (pc := 2) (j := 2) F dX2_shortenBy_2 rfl rfl ?_
  refine v_aload_n (pc := 3) (j := 0) F dX2_shortenBy_3 rfl rfl ?_
  refine v_ifl (pc := 4) F fl_X2_58 dX2_shortenBy_4 ho_o hk_o fv_1_0 ?_
  refine v_icmp_ge (pc := 7) (tgt := 100) F dX2_shortenBy_7 (by decide) (fun c1 => ?_) (fun c1 => ?_)
  · have hf := ite_t hf c1
    refine V.sub (lv' := []) [] rfl ?_
    exact hx0 s1.1 (Option.some.inj hf).symm
  · have hf := ite_f hf c1
    refine v_iconst (pc := 10) (v := 0) F dX2_shortenBy_10 ic_0 ?_
    refine v_istore_n (pc := 11) (lv' := [(0, .ref (gA g o)), (1, .int l1), (2, .int s1.2), (3, .int 0)]) F dX2_shortenBy_11 rfl (by decide) rfl ?_
    obtain ⟨x15, e16, hf⟩ := bnd_some hf
    refine tX2_shortenBy_12 (s0 := (s1.1, 0)) ho_o hk_o F ?_ e16
    refine v_iinc (pc := 94) (j := 2) (v := s1.2 + 1) (lv' := [(0, .ref (gA g o)), (1, .int l1), (2, .int (s1.2 + 1))]) F dX2_shortenBy_94 rfl (congrArg (fun z => s1.2 + z) ic_1) (by decide) rfl ?_
    refine v_goto (pc := 97) (tgt := 2) F dX2_shortenBy_97 (by decide) ?_
    exact hk (x15, s1.2 + 1) (Option.some.inj hf).symm
set_option maxRecDepth 100000 in
set_option maxHeartbeats 4000000 in
theorem kX2_shortenBy {l : Launch} {g : GE} {B : Nat} {h : ST} {o : Nat} (ho_o : o < 395) (hk_o : KC o = (1, 0)) {a1 : Int32} {y : ST} (hf : fX2_shortenBy h o a1 = some y) : CT l yX2_shortenBy cX2_shortenBy 7 none 2 KC 395 g B [.ref (gA g o), .int a1] h none y := by
  refine CT.of pn_X2 (Nat.le_of_ble_eq_true rfl) ?_
  intro p e s m below meth c hr F
  have F : Fx p s m _ meth c cX2_shortenBy 7 "DustParish$Facts" 395 g B := F
  refine V_lv (lv' := [(0, .ref (gA g o)), (1, .int a1)]) rfl ?_
  unfold fX2_shortenBy at hf
  refine v_iconst (pc := 0) (v := 0) F dX2_shortenBy_0 ic_0 ?_
  refine v_istore_n (pc := 1) (lv' := [(0, .ref (gA g o)), (1, .int a1), (2, .int 0)]) F dX2_shortenBy_1 rfl (by decide) rfl ?_
  obtain ⟨x17, e18, hf⟩ := bnd_some hf
  refine tX2_shortenBy_2 (s0 := (h, 0)) ho_o hk_o F ?_ e18
  exact v_vret (pc := 100) F hr dX2_shortenBy_100 (Option.some.inj hf) (Nat.zero_le _)
def fX2_measure_10 (o : Nat) (s1 : (ST × Int32)) : Option ((ST × Int32) ⊕ ST) :=
  if (s1.1 o 0) ≤ s1.2 then
  some (.inr s1.1)
  else
  bnd (rd 9 (s1.1 (o + 2)) s1.2) fun v4 =>
    bnd (rd 6 (s1.1 (o + 17)) v4) fun v6 =>
    bnd (wr 6 s1.1 (o + 17) v4 (v6 + 1)) fun h8 =>
    some (.inl (h8, s1.2 + 1))
def fX2_measure_41 (o : Nat) (s1 : (ST × Int32)) : Option ((ST × Int32) ⊕ ST) :=
  if (s1.1 o 0) ≤ s1.2 then
  some (.inr s1.1)
  else
  bnd (wr 81 s1.1 (o + 16) ((s1.2 * 9) + s1.2) 0) fun h13 =>
    some (.inl (h13, s1.2 + 1))
def fX2_measure_69 (o : Nat) (s1 : (ST × Int32)) : Option ((ST × Int32) ⊕ ST) :=
  if (s1.1 o 0) ≤ s1.2 then
  some (.inr s1.1)
  else
  bnd (fX2_shortenBy s1.1 o s1.2) fun r18 =>
    some (.inl (r18, s1.2 + 1))
def fX2_measure (h : ST) (o : Nat) : Option (ST) :=
  bnd (fJ7_fill_53178 h (o + 17) 6 0) fun r1 =>
  bnd (lp FU (fX2_measure_10 o) (r1, 0)) fun x10 =>
  bnd (lp FU (fX2_measure_41 o) (x10, 0)) fun x15 =>
  bnd (lp FU (fX2_measure_69 o) (x15, 0)) fun x20 =>
  some x20
set_option maxRecDepth 100000 in
set_option maxHeartbeats 4000000 in
theorem tX2_measure_10 {p : Program} {l : Launch} {e : Env} {s : State} {m : MethodId} {args : Array Value} {below : List Frame} {meth : Method} {c : Code} {g : GE} {B : Nat}  {o : Nat} (ho_o : o < 395) (hk_o : KC o = (1, 0)) {Q : State → Prop} {x : ST} {nf : Nat} {s0 : (ST × Int32)} (F : Fx p s m args meth c cX2_measure 2 "DustParish$Facts" 395 g B) (hX0 : V p l e 3 0 s m args below meth c Q KC 395 g B 2 0 x 39 [(0, .ref (gA g o))] []) (hl : lp nf (fX2_measure_10 o) s0 = some x) : V p l e 3 0 s m args below meth c Q KC 395 g B 2 0 s0.1 10 [(0, .ref (gA g o)), (1, .int s0.2)] [] := by
  refine lp_ind (P := fun s0 => V p l e 3 0 s m args below meth c Q KC 395 g B 2 0 s0.1 10 [(0, .ref (gA g o)), (1, .int s0.2)] []) ?_ nf s0 hl
  intro s1 y hf hk hx
  have hx0 : ∀ v : ST, y = Sum.inr v → V p l e 3 0 s m args below meth c Q KC 395 g B 2 0 v 39 [(0, .ref (gA g o))] [] := fun v e9 => by rw [hx v e9]; exact hX0
  unfold fX2_measure_10 at hf
  refine v_iload_n (pc := 10) (j := 1) F dX2_measure_10 rfl rfl ?_
  refine v_aload_n (pc := 11) (j := 0) F dX2_measure_11 rfl rfl ?_
  refine v_ifl (pc := 12) F fl_X2_58 dX2_measure_12 ho_o hk_o fv_1_0 ?_
  refine v_icmp_ge (pc := 15) (tgt := 39) F dX2_measure_15 (by decide) (fun c3 => ?_) (fun c3 => ?_)
  · have hf := ite_t hf c3
    refine V.sub (lv' := [(0, .ref (gA g o))]) [0] rfl ?_
    exact hx0 s1.1 (Option.some.inj hf).symm
  · have hf := ite_f hf c3
    refine v_aload_n (pc := 18) (j := 0) F dX2_measure_18 rfl rfl ?_
    refine v_ifl (pc := 19) F fl_X2_55 dX2_measure_19 ho_o hk_o fv_1_19 ?_
    refine v_aload_n (pc := 22) (j := 0) F dX2_measure_22 rfl rfl ?_
    refine v_ifl (pc := 23) F fl_X2_15 dX2_measure_23 ho_o hk_o fv_1_2 ?_
    refine v_iload_n (pc := 26) (j := 1) F dX2_measure_26 rfl rfl ?_
    obtain ⟨v4, e5, hf⟩ := bnd_some hf
    refine v_iald (pc := 27) F dX2_measure_27 (ly_1_2 ho_o hk_o).1 (ly_1_2 ho_o hk_o).2 e5 ?_
    refine v_dup2_11 (pc := 28) F dX2_measure_28 rfl rfl ?_
    obtain ⟨v6, e7, hf⟩ := bnd_some hf
    refine v_iald (pc := 29) F dX2_measure_29 (ly_1_19 ho_o hk_o).1 (ly_1_19 ho_o hk_o).2 e7 ?_
    refine v_iconst (pc := 30) (v := 1) F dX2_measure_30 ic_1 ?_
    refine v_iadd (pc := 31) F dX2_measure_31 ?_
    obtain ⟨h8, e9, hf⟩ := bnd_some hf
    refine v_iast (pc := 32) F dX2_measure_32 (ly_1_19 ho_o hk_o).1 (ly_1_19 ho_o hk_o).2 e9 ?_
    refine v_iinc (pc := 33) (j := 1) (v := s1.2 + 1) (lv' := [(0, .ref (gA g o)), (1, .int (s1.2 + 1))]) F dX2_measure_33 rfl (congrArg (fun z => s1.2 + z) ic_1) (by decide) rfl ?_
    refine v_goto (pc := 36) (tgt := 10) F dX2_measure_36 (by decide) ?_
    exact hk (h8, s1.2 + 1) (Option.some.inj hf).symm
set_option maxRecDepth 100000 in
set_option maxHeartbeats 4000000 in
theorem tX2_measure_41 {p : Program} {l : Launch} {e : Env} {s : State} {m : MethodId} {args : Array Value} {below : List Frame} {meth : Method} {c : Code} {g : GE} {B : Nat}  {o : Nat} (ho_o : o < 395) (hk_o : KC o = (1, 0)) {Q : State → Prop} {x : ST} {nf : Nat} {s0 : (ST × Int32)} (F : Fx p s m args meth c cX2_measure 2 "DustParish$Facts" 395 g B) (hX0 : V p l e 3 0 s m args below meth c Q KC 395 g B 2 0 x 67 [(0, .ref (gA g o))] []) (hl : lp nf (fX2_measure_41 o) s0 = some x) : V p l e 3 0 s m args below meth c Q KC 395 g B 2 0 s0.1 41 [(0, .ref (gA g o)), (1, .int s0.2)] [] := by
  refine lp_ind (P := fun s0 => V p l e 3 0 s m args below meth c Q KC 395 g B 2 0 s0.1 41 [(0, .ref (gA g o)), (1, .int s0.2)] []) ?_ nf s0 hl
  intro s1 y hf hk hx
  have hx0 : ∀ v : ST, y = Sum.inr v → V p l e 3 0 s m args below meth c Q KC 395 g B 2 0 v 67 [(0, .ref (gA g o))] [] := fun v e9 => by rw [hx v e9]; exact hX0
  unfold fX2_measure_41 at hf
  refine v_iload_n (pc := 41) (j := 1) F dX2_measure_41 rfl rfl ?_
  refine v_aload_n (pc := 42) (j := 0) F dX2_measure_42 rfl rfl ?_
  refine v_ifl (pc := 43) F fl_X2_58 dX2_measure_43 ho_o hk_o fv_1_0 ?_
  refine v_icmp_ge (pc := 46) (tgt := 67) F dX2_measure_46 (by decide) (fun c12 => ?_) (fun c12 => ?_)
  · have hf := ite_t hf c12
    refine V.sub (lv' := [(0, .ref (gA g o))]) [0] rfl ?_
    exact hx0 s1.1 (Option.some.inj hf).symm
  · have hf := ite_f hf c12
    refine v_aload_n (pc := 49) (j := 0) F dX2_measure_49 rfl rfl ?_
    refine v_ifl (pc := 50) F fl_X2_52 dX2_measure_50 ho_o hk_o fv_1_18 ?_
    refine v_iload_n (pc := 53) (j := 1) F dX2_measure_53 rfl rfl ?_
    refine v_bipush (pc := 54) (v := 9) F dX2_measure_54 bp_9 ?_
    refine v_imul (pc := 56) F dX2_measure_56 ?_
    refine v_iload_n (pc := 57) (j := 1) F dX2_measure_57 rfl rfl ?_
    refine v_iadd (pc := 58) F dX2_measure_58 ?_
    refine v_iconst (pc := 59) (v := 0) F dX2_measure_59 ic_0 ?_
    obtain ⟨h13, e14, hf⟩ := bnd_some hf
    refine v_iast (pc := 60) F dX2_measure_60 (ly_1_18 ho_o hk_o).1 (ly_1_18 ho_o hk_o).2 e14 ?_
    refine v_iinc (pc := 61) (j := 1) (v := s1.2 + 1) (lv' := [(0, .ref (gA g o)), (1, .int (s1.2 + 1))]) F dX2_measure_61 rfl (congrArg (fun z => s1.2 + z) ic_1) (by decide) rfl ?_
    refine v_goto (pc := 64) (tgt := 41) F dX2_measure_64 (by decide) ?_
    exact hk (h13, s1.2 + 1) (Option.some.inj hf).symm
set_option maxRecDepth 100000 in
set_option maxHeartbeats 4000000 in
theorem tX2_measure_69 {p : Program} {l : Launch} {e : Env} {s : State} {m : MethodId} {args : Array Value} {below : List Frame} {meth : Method} {c : Code} {g : GE} {B : Nat}  {o : Nat} (ho_o : o < 395) (hk_o : KC o = (1, 0)) {Q : State → Prop} {x : ST} {nf : Nat} {s0 : (ST × Int32)} (F : Fx p s m args meth c cX2_measure 2 "DustParish$Facts" 395 g B) (hX0 : V p l e 3 0 s m args below meth c Q KC 395 g B 2 0 x 88 [] []) (hl : lp nf (fX2_measure_69 o) s0 = some x) : V p l e 3 0 s m args below meth c Q KC 395 g B 2 0 s0.1 69 [(0, .ref (gA g o)), (1, .int s0.2)] [] := by
  refine lp_ind (P := fun s0 => V p l e 3 0 s m args below meth c Q KC 395 g B 2 0 s0.1 69 [(0, .ref (gA g o)), (1, .int s0.2)] []) ?_ nf s0 hl
  intro s1 y hf hk hx
  have hx0 : ∀ v : ST, y = Sum.inr v → V p l e 3 0 s m args below meth c Q KC 395 g B 2 0 v 88 [] [] := fun v e9 => by rw [hx v e9]; exact hX0
  unfold fX2_measure_69 at hf
  refine v_iload_n (pc := 69) (j := 1) F dX2_measure_69 rfl rfl ?_
  refine v_aload_n (pc := 70) (j := 0) F dX2_measure_70 rfl rfl ?_
  refine v_ifl (pc := 71) F fl_X2_58 dX2_measure_71 ho_o hk_o fv_1_0 ?_
  refine v_icmp_ge (pc := 74) (tgt := 88) F dX2_measure_74 (by decide) (fun c17 => ?_) (fun c17 => ?_)
  · have hf := ite_t hf c17
    refine V.sub (lv' := []) [] rfl ?_
    exact hx0 s1.1 (Option.some.inj hf).symm
  · have hf := ite_f hf c17
    refine v_aload_n (pc := 77) (j := 0) F dX2_measure_77 rfl rfl ?_
    refine v_iload_n (pc := 78) (j := 1) F dX2_measure_78 rfl rfl ?_
    obtain ⟨r18, e19, hf⟩ := bnd_some hf
    refine v_callVv (pc := 79) (As := [.int s1.2]) F cl_X2_86 dX2_measure_79 (kX2_shortenBy ho_o hk_o e19) ho_o hk_o rc_1 rfl rfl (Nat.le_of_ble_eq_true rfl) (by decide) (Nat.zero_le _) ?_
    refine v_iinc (pc := 82) (j := 1) (v := s1.2 + 1) (lv' := [(0, .ref (gA g o)), (1, .int (s1.2 + 1))]) F dX2_measure_82 rfl (congrArg (fun z => s1.2 + z) ic_1) (by decide) rfl ?_
    refine v_goto (pc := 85) (tgt := 69) F dX2_measure_85 (by decide) ?_
    exact hk (r18, s1.2 + 1) (Option.some.inj hf).symm
set_option maxRecDepth 100000 in
set_option maxHeartbeats 4000000 in
theorem kX2_measure {l : Launch} {g : GE} {B : Nat} {h : ST} {o : Nat} (ho_o : o < 395) (hk_o : KC o = (1, 0)) {y : ST} (hf : fX2_measure h o = some y) : CT l yX2_measure cX2_measure 2 none 3 KC 395 g B [.ref (gA g o)] h none y := by
  refine CT.of pn_X2 (Nat.le_of_ble_eq_true rfl) ?_
  intro p e s m below meth c hr F
  have F : Fx p s m _ meth c cX2_measure 2 "DustParish$Facts" 395 g B := F
  refine V_lv (lv' := [(0, .ref (gA g o))]) rfl ?_
  unfold fX2_measure at hf
  refine v_aload_n (pc := 0) (j := 0) F dX2_measure_0 rfl rfl ?_
  refine v_ifl (pc := 1) F fl_X2_55 dX2_measure_1 ho_o hk_o fv_1_19 ?_
  refine v_iconst (pc := 4) (v := 0) F dX2_measure_4 ic_0 ?_
  obtain ⟨r1, e2, hf⟩ := bnd_some hf
  refine v_callSv (pc := 5) (As := [.ref (gA g (o + 17)), .int 0]) F cl_X2_80 dX2_measure_5 (kJ7_fill_53178 (ly_1_19 ho_o hk_o).1 (ly_1_19 ho_o hk_o).2 e2) rfl rfl (Nat.le_of_ble_eq_true rfl) (by decide) (Nat.zero_le _) ?_
  refine v_iconst (pc := 8) (v := 0) F dX2_measure_8 ic_0 ?_
  refine v_istore_n (pc := 9) (lv' := [(0, .ref (gA g o)), (1, .int 0)]) F dX2_measure_9 rfl (by decide) rfl ?_
  obtain ⟨x10, e11, hf⟩ := bnd_some hf
  refine tX2_measure_10 (s0 := (r1, 0)) ho_o hk_o F ?_ e11
  refine v_iconst (pc := 39) (v := 0) F dX2_measure_39 ic_0 ?_
  refine v_istore_n (pc := 40) (lv' := [(0, .ref (gA g o)), (1, .int 0)]) F dX2_measure_40 rfl (by decide) rfl ?_
  obtain ⟨x15, e16, hf⟩ := bnd_some hf
  refine tX2_measure_41 (s0 := (x10, 0)) ho_o hk_o F ?_ e16
  refine v_iconst (pc := 67) (v := 0) F dX2_measure_67 ic_0 ?_
  refine v_istore_n (pc := 68) (lv' := [(0, .ref (gA g o)), (1, .int 0)]) F dX2_measure_68 rfl (by decide) rfl ?_
  obtain ⟨x20, e21, hf⟩ := bnd_some hf
  refine tX2_measure_69 (s0 := (x15, 0)) ho_o hk_o F ?_ e21
  exact v_vret (pc := 88) F hr dX2_measure_88 (Option.some.inj hf) (Nat.zero_le _)
