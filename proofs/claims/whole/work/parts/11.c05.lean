def fX4_readBlow_111 (h : ST) (l1 : Int32) (l2 : Int32) (l3 : Int32) : Option (Int32 × ST) :=
  if l3 = 0 then
  bnd (rf KC 395 1 (h 38 2)) fun f26 =>
    bnd (wr 40 h (f26 + 9) l2 (h 39 2)) fun h28 =>
    bnd (fX9_step h28) fun r30 =>
    bnd (fX4_readNumber r30 1 9) fun r32 =>
    if r32.1 = 0 then
    bnd (rf KC 395 1 (r32.2 38 2)) fun f35 =>
      bnd (wr 40 r32.2 (f35 + 10) l2 (r32.2 38 3)) fun h37 =>
      bnd (rf KC 395 1 (h37 38 2)) fun f39 =>
      bnd (rd 5 (h37 (f39 + 7)) l1) fun v41 =>
      bnd (wr 5 h37 (f39 + 7) l1 (v41 + 1)) fun h43 =>
      some (0, h43)
    else
    some (r32.1, r32.2)
  else
  some (l3, h)
def fX4_readBlow (h : ST) : Option (Int32 × ST) :=
  bnd (rf KC 395 1 (h 38 2)) fun f1 =>
  if 0 ≤ ((h f1 8) - 1) then
  bnd (rf KC 395 1 (h 38 2)) fun f4 =>
    bnd (rd 5 (h (f4 + 7)) ((h f1 8) - 1)) fun v6 =>
    if v6 < 8 then
    bnd (rf KC 395 1 (h 38 2)) fun f9 =>
      bnd (rd 5 (h (f9 + 7)) ((h f1 8) - 1)) fun v11 =>
      bnd (fX9_step h) fun r13 =>
      bnd (fX4_readRoomNumber r13) fun r15 =>
      if r15.1 = 0 then
      bnd (rf KC 395 1 (r15.2 38 2)) fun f18 =>
        bnd (wr 40 r15.2 (f18 + 8) ((((h f1 8) - 1) * 8) + v11) (r15.2 38 3)) fun h20 =>
        bnd (fX4_lookAtRoomNumber h20) fun r22 =>
        if r22 = 0 then
        bnd (rf KC 395 1 (h20 38 2)) fun f45 =>
          bnd (fX2_hasDoor h20 f45 (h20 38 3) (h20 39 2)) fun r47 =>
          if r47 = 0 then
          fX4_readBlow_111 h20 ((h f1 8) - 1) ((((h f1 8) - 1) * 8) + v11) 6
          else
          fX4_readBlow_111 h20 ((h f1 8) - 1) ((((h f1 8) - 1) * 8) + v11) r22
        else
        fX4_readBlow_111 h20 ((h f1 8) - 1) ((((h f1 8) - 1) * 8) + v11) r22
      else
      some (r15.1, r15.2)
    else
    some (2, h)
  else
  some (1, h)
set_option maxRecDepth 100000 in
set_option maxHeartbeats 4000000 in
theorem tX4_readBlow_111 {p : Program} {l : Launch} {e : Env} {s : State} {m : MethodId} {args : Array Value} {below : List Frame} {meth : Method} {c : Code} {g : GE} {B : Nat} {h : ST}  {l1 : Int32} {l2 : Int32} {l3 : Int32} (F : Fx p s m args meth c cX4_readBlow 4 "DustParish$Reader" 395 g B)
    {y : Int32 × ST} (hr : meth.sig.returnType = (some .int)) (hf : fX4_readBlow_111 h l1 l2 l3 = some y) : V p l e 7 0 s m args below meth c (MQ below (QO KC 395 g (some (.int y.1)) y.2) args s 0 (6 * 0) (WA 395 g)) KC 395 g B 4 0 h 111 [(0, .ref (gA g 38)), (1, .int l1), (2, .int l2), (3, .int l3)] [] := by
  unfold fX4_readBlow_111 at hf
  refine v_iload_n (pc := 111) (j := 3) F dX4_readBlow_111 rfl rfl ?_
  refine v_if_eq (pc := 112) (tgt := 117) F dX4_readBlow_112 (by decide) (fun c25 => ?_) (fun c25 => ?_)
  · have hf := ite_t hf c25
    refine v_aload_n (pc := 117) (j := 0) F dX4_readBlow_117 rfl rfl ?_
    obtain ⟨f26, e27, hf⟩ := bnd_some hf
    obtain ⟨ho_f26, hk_f26, e27⟩ := rf_in e27
    refine v_ifl (pc := 118) F fl_X4_52 dX4_readBlow_118 kc_38.1 kc_38.2 (fv_3_2 e27) ?_
    refine v_ifl (pc := 121) F fl_X4_185 dX4_readBlow_121 ho_f26 hk_f26 fv_1_11 ?_
    refine v_iload_n (pc := 124) (j := 2) F dX4_readBlow_124 rfl rfl ?_
    refine v_aload_n (pc := 125) (j := 0) F dX4_readBlow_125 rfl rfl ?_
    refine v_ifl (pc := 126) F fl_X4_33 dX4_readBlow_126 kc_38.1 kc_38.2 fv_3_0 ?_
    refine v_ifl (pc := 129) F fl_X4_133 dX4_readBlow_129 kc_39.1 kc_39.2 fv_8_2 ?_
    obtain ⟨h28, e29, hf⟩ := bnd_some hf
    refine v_iast (pc := 132) F dX4_readBlow_132 (ly_1_11 ho_f26 hk_f26).1 (ly_1_11 ho_f26 hk_f26).2 e29 ?_
    refine v_aload_n (pc := 133) (j := 0) F dX4_readBlow_133 rfl rfl ?_
    refine v_ifl (pc := 134) F fl_X4_33 dX4_readBlow_134 kc_38.1 kc_38.2 fv_3_0 ?_
    obtain ⟨r30, e31, hf⟩ := bnd_some hf
    refine v_callVv (pc := 137) (As := []) F cl_X4_77 dX4_readBlow_137 (kX9_step e31) kc_39.1 kc_39.2 rc_8 rfl rfl (Nat.le_of_ble_eq_true rfl) (by decide) (Nat.zero_le _) ?_
    refine v_aload_n (pc := 140) (j := 0) F dX4_readBlow_140 rfl rfl ?_
    refine v_iconst (pc := 141) (v := 1) F dX4_readBlow_141 ic_1 ?_
    refine v_bipush (pc := 142) (v := 9) F dX4_readBlow_142 bp_9 ?_
    obtain ⟨r32, e33, hf⟩ := bnd_some hf
    refine v_callVi (pc := 144) (As := [.int 1, .int 9]) F cl_X4_149 dX4_readBlow_144 (kX4_readNumber e33) kc_38.1 kc_38.2 rc_3 rfl rfl (Nat.le_of_ble_eq_true rfl) (by decide) (Nat.zero_le _) ?_
    refine v_istore_n (pc := 147) (lv' := [(0, .ref (gA g 38)), (1, .int l1), (2, .int l2), (3, .int r32.1)]) F dX4_readBlow_147 rfl (by decide) rfl ?_
    refine v_iload_n (pc := 148) (j := 3) F dX4_readBlow_148 rfl rfl ?_
    refine v_if_eq (pc := 149) (tgt := 154) F dX4_readBlow_149 (by decide) (fun c34 => ?_) (fun c34 => ?_)
    · have hf := ite_t hf c34
      refine v_aload_n (pc := 154) (j := 0) F dX4_readBlow_154 rfl rfl ?_
      obtain ⟨f35, e36, hf⟩ := bnd_some hf
      obtain ⟨ho_f35, hk_f35, e36⟩ := rf_in e36
      refine v_ifl (pc := 155) F fl_X4_52 dX4_readBlow_155 kc_38.1 kc_38.2 (fv_3_2 e36) ?_
      refine v_ifl (pc := 158) F fl_X4_188 dX4_readBlow_158 ho_f35 hk_f35 fv_1_12 ?_
      refine v_iload_n (pc := 161) (j := 2) F dX4_readBlow_161 rfl rfl ?_
      refine v_aload_n (pc := 162) (j := 0) F dX4_readBlow_162 rfl rfl ?_
      refine v_ifl (pc := 163) F fl_X4_9 dX4_readBlow_163 kc_38.1 kc_38.2 fv_3_3 ?_
      obtain ⟨h37, e38, hf⟩ := bnd_some hf
      refine v_iast (pc := 166) F dX4_readBlow_166 (ly_1_12 ho_f35 hk_f35).1 (ly_1_12 ho_f35 hk_f35).2 e38 ?_
      refine v_aload_n (pc := 167) (j := 0) F dX4_readBlow_167 rfl rfl ?_
      obtain ⟨f39, e40, hf⟩ := bnd_some hf
      obtain ⟨ho_f39, hk_f39, e40⟩ := rf_in e40
      refine v_ifl (pc := 168) F fl_X4_52 dX4_readBlow_168 kc_38.1 kc_38.2 (fv_3_2 e40) ?_
      refine v_ifl (pc := 171) F fl_X4_179 dX4_readBlow_171 ho_f39 hk_f39 fv_1_9 ?_
      refine v_iload_n (pc := 174) (j := 1) F dX4_readBlow_174 rfl rfl ?_
      refine v_dup2_11 (pc := 175) F dX4_readBlow_175 rfl rfl ?_
      obtain ⟨v41, e42, hf⟩ := bnd_some hf
      refine v_iald (pc := 176) F dX4_readBlow_176 (ly_1_9 ho_f39 hk_f39).1 (ly_1_9 ho_f39 hk_f39).2 e42 ?_
      refine v_iconst (pc := 177) (v := 1) F dX4_readBlow_177 ic_1 ?_
      refine v_iadd (pc := 178) F dX4_readBlow_178 ?_
      obtain ⟨h43, e44, hf⟩ := bnd_some hf
      refine v_iast (pc := 179) F dX4_readBlow_179 (ly_1_9 ho_f39 hk_f39).1 (ly_1_9 ho_f39 hk_f39).2 e44 ?_
      refine v_iconst (pc := 180) (v := 0) F dX4_readBlow_180 ic_0 ?_
      exact v_iret (pc := 181) F hr dX4_readBlow_181 (some_fst hf) (some_snd hf) (Nat.zero_le _)
    · have hf := ite_f hf c34
      refine v_iload_n (pc := 152) (j := 3) F dX4_readBlow_152 rfl rfl ?_
      exact v_iret (pc := 153) F hr dX4_readBlow_153 (some_fst hf) (some_snd hf) (Nat.zero_le _)
  · have hf := ite_f hf c25
    refine v_iload_n (pc := 115) (j := 3) F dX4_readBlow_115 rfl rfl ?_
    exact v_iret (pc := 116) F hr dX4_readBlow_116 (some_fst hf) (some_snd hf) (Nat.zero_le _)
set_option maxRecDepth 100000 in
set_option maxHeartbeats 4000000 in
theorem kX4_readBlow {l : Launch} {g : GE} {B : Nat} {h : ST} {y : Int32 × ST} (hf : fX4_readBlow h = some y) : CT l yX4_readBlow cX4_readBlow 4 (some .int) 7 KC 395 g B [.ref (gA g 38)] h (some (.int y.1)) y.2 := by
  refine CT.of pn_X4 (Nat.le_of_ble_eq_true rfl) ?_
  intro p e s m below meth c hr F
  have F : Fx p s m _ meth c cX4_readBlow 4 "DustParish$Reader" 395 g B := F
  refine V_lv (lv' := [(0, .ref (gA g 38))]) rfl ?_
  unfold fX4_readBlow at hf
  refine v_aload_n (pc := 0) (j := 0) F dX4_readBlow_0 rfl rfl ?_
  obtain ⟨f1, e2, hf⟩ := bnd_some hf
  obtain ⟨ho_f1, hk_f1, e2⟩ := rf_in e2
  refine v_ifl (pc := 1) F fl_X4_52 dX4_readBlow_1 kc_38.1 kc_38.2 (fv_3_2 e2) ?_
  refine v_ifl (pc := 4) F fl_X4_176 dX4_readBlow_4 ho_f1 hk_f1 fv_1_8 ?_
  refine v_iconst (pc := 7) (v := 1) F dX4_readBlow_7 ic_1 ?_
  refine v_isub (pc := 8) F dX4_readBlow_8 ?_
  refine v_istore_n (pc := 9) (lv' := [(0, .ref (gA g 38)), (1, .int ((h f1 8) - 1))]) F dX4_readBlow_9 rfl (by decide) rfl ?_
  refine v_iload_n (pc := 10) (j := 1) F dX4_readBlow_10 rfl rfl ?_
  refine v_if_ge (pc := 11) (tgt := 16) F dX4_readBlow_11 (by decide) (fun c3 => ?_) (fun c3 => ?_)
  · have hf := ite_t hf c3
    refine v_aload_n (pc := 16) (j := 0) F dX4_readBlow_16 rfl rfl ?_
    obtain ⟨f4, e5, hf⟩ := bnd_some hf
    obtain ⟨ho_f4, hk_f4, e5⟩ := rf_in e5
    refine v_ifl (pc := 17) F fl_X4_52 dX4_readBlow_17 kc_38.1 kc_38.2 (fv_3_2 e5) ?_
    refine v_ifl (pc := 20) F fl_X4_179 dX4_readBlow_20 ho_f4 hk_f4 fv_1_9 ?_
    refine v_iload_n (pc := 23) (j := 1) F dX4_readBlow_23 rfl rfl ?_
    obtain ⟨v6, e7, hf⟩ := bnd_some hf
    refine v_iald (pc := 24) F dX4_readBlow_24 (ly_1_9 ho_f4 hk_f4).1 (ly_1_9 ho_f4 hk_f4).2 e7 ?_
    refine v_bipush (pc := 25) (v := 8) F dX4_readBlow_25 bp_8 ?_
    refine v_icmp_lt (pc := 27) (tgt := 32) F dX4_readBlow_27 (by decide) (fun c8 => ?_) (fun c8 => ?_)
    · have hf := ite_t hf c8
      refine v_iload_n (pc := 32) (j := 1) F dX4_readBlow_32 rfl rfl ?_
      refine v_bipush (pc := 33) (v := 8) F dX4_readBlow_33 bp_8 ?_
      refine v_imul (pc := 35) F dX4_readBlow_35 ?_
      refine v_aload_n (pc := 36) (j := 0) F dX4_readBlow_36 rfl rfl ?_
      obtain ⟨f9, e10, hf⟩ := bnd_some hf
      obtain ⟨ho_f9, hk_f9, e10⟩ := rf_in e10
      refine v_ifl (pc := 37) F fl_X4_52 dX4_readBlow_37 kc_38.1 kc_38.2 (fv_3_2 e10) ?_
      refine v_ifl (pc := 40) F fl_X4_179 dX4_readBlow_40 ho_f9 hk_f9 fv_1_9 ?_
      refine v_iload_n (pc := 43) (j := 1) F dX4_readBlow_43 rfl rfl ?_
      obtain ⟨v11, e12, hf⟩ := bnd_some hf
      refine v_iald (pc := 44) F dX4_readBlow_44 (ly_1_9 ho_f9 hk_f9).1 (ly_1_9 ho_f9 hk_f9).2 e12 ?_
      refine v_iadd (pc := 45) F dX4_readBlow_45 ?_
      refine v_istore_n (pc := 46) (lv' := [(0, .ref (gA g 38)), (1, .int ((h f1 8) - 1)), (2, .int ((((h f1 8) - 1) * 8) + v11))]) F dX4_readBlow_46 rfl (by decide) rfl ?_
      refine v_aload_n (pc := 47) (j := 0) F dX4_readBlow_47 rfl rfl ?_
      refine v_ifl (pc := 48) F fl_X4_33 dX4_readBlow_48 kc_38.1 kc_38.2 fv_3_0 ?_
      obtain ⟨r13, e14, hf⟩ := bnd_some hf
      refine v_callVv (pc := 51) (As := []) F cl_X4_77 dX4_readBlow_51 (kX9_step e14) kc_39.1 kc_39.2 rc_8 rfl rfl (Nat.le_of_ble_eq_true rfl) (by decide) (Nat.zero_le _) ?_
      refine v_aload_n (pc := 54) (j := 0) F dX4_readBlow_54 rfl rfl ?_
      obtain ⟨r15, e16, hf⟩ := bnd_some hf
      refine v_callVi (pc := 55) (As := []) F cl_X4_165 dX4_readBlow_55 (kX4_readRoomNumber e16) kc_38.1 kc_38.2 rc_3 rfl rfl (Nat.le_of_ble_eq_true rfl) (by decide) (Nat.zero_le _) ?_
      refine v_istore_n (pc := 58) (lv' := [(0, .ref (gA g 38)), (1, .int ((h f1 8) - 1)), (2, .int ((((h f1 8) - 1) * 8) + v11)), (3, .int r15.1)]) F dX4_readBlow_58 rfl (by decide) rfl ?_
      refine v_iload_n (pc := 59) (j := 3) F dX4_readBlow_59 rfl rfl ?_
      refine v_if_eq (pc := 60) (tgt := 65) F dX4_readBlow_60 (by decide) (fun c17 => ?_) (fun c17 => ?_)
      · have hf := ite_t hf c17
        refine v_aload_n (pc := 65) (j := 0) F dX4_readBlow_65 rfl rfl ?_
        obtain ⟨f18, e19, hf⟩ := bnd_some hf
        obtain ⟨ho_f18, hk_f18, e19⟩ := rf_in e19
        refine v_ifl (pc := 66) F fl_X4_52 dX4_readBlow_66 kc_38.1 kc_38.2 (fv_3_2 e19) ?_
        refine v_ifl (pc := 69) F fl_X4_182 dX4_readBlow_69 ho_f18 hk_f18 fv_1_10 ?_
        refine v_iload_n (pc := 72) (j := 2) F dX4_readBlow_72 rfl rfl ?_
        refine v_aload_n (pc := 73) (j := 0) F dX4_readBlow_73 rfl rfl ?_
        refine v_ifl (pc := 74) F fl_X4_9 dX4_readBlow_74 kc_38.1 kc_38.2 fv_3_3 ?_
        obtain ⟨h20, e21, hf⟩ := bnd_some hf
        refine v_iast (pc := 77) F dX4_readBlow_77 (ly_1_10 ho_f18 hk_f18).1 (ly_1_10 ho_f18 hk_f18).2 e21 ?_
        refine v_aload_n (pc := 78) (j := 0) F dX4_readBlow_78 rfl rfl ?_
        obtain ⟨r22, e23, hf⟩ := bnd_some hf
        refine v_callVi (pc := 79) (As := []) F cl_X4_136 dX4_readBlow_79 (kX4_lookAtRoomNumber e23) kc_38.1 kc_38.2 rc_3 rfl rfl (Nat.le_of_ble_eq_true rfl) (by decide) (Nat.zero_le _) ?_
        refine v_istore_n (pc := 82) (lv' := [(0, .ref (gA g 38)), (1, .int ((h f1 8) - 1)), (2, .int ((((h f1 8) - 1) * 8) + v11)), (3, .int r22)]) F dX4_readBlow_82 rfl (by decide) rfl ?_
        refine v_iload_n (pc := 83) (j := 3) F dX4_readBlow_83 rfl rfl ?_
        refine v_if_ne (pc := 84) (tgt := 111) F dX4_readBlow_84 (by decide) (fun c24 => ?_) (fun c24 => ?_)
        · have hf := ite_f hf c24
          exact tX4_readBlow_111 F hr hf
        · have hf := ite_t hf c24
          refine v_aload_n (pc := 87) (j := 0) F dX4_readBlow_87 rfl rfl ?_
          obtain ⟨f45, e46, hf⟩ := bnd_some hf
          obtain ⟨ho_f45, hk_f45, e46⟩ := rf_in e46
          refine v_ifl (pc := 88) F fl_X4_52 dX4_readBlow_88 kc_38.1 kc_38.2 (fv_3_2 e46) ?_
          refine v_aload_n (pc := 91) (j := 0) F dX4_readBlow_91 rfl rfl ?_
          refine v_ifl (pc := 92) F fl_X4_9 dX4_readBlow_92 kc_38.1 kc_38.2 fv_3_3 ?_
          refine v_aload_n (pc := 95) (j := 0) F dX4_readBlow_95 rfl rfl ?_
          refine v_ifl (pc := 96) F fl_X4_33 dX4_readBlow_96 kc_38.1 kc_38.2 fv_3_0 ?_
          refine v_ifl (pc := 99) F fl_X4_133 dX4_readBlow_99 kc_39.1 kc_39.2 fv_8_2 ?_
          obtain ⟨r47, e48, hf⟩ := bnd_some hf
          refine v_callVi (pc := 102) (As := [.int (h20 38 3), .int (h20 39 2)]) F cl_X4_168 dX4_readBlow_102 (kX2_hasDoor ho_f45 hk_f45 e48) ho_f45 hk_f45 rc_1 rfl rfl (Nat.le_of_ble_eq_true rfl) (by decide) (Nat.zero_le _) ?_
          refine v_if_ne (pc := 105) (tgt := 111) F dX4_readBlow_105 (by decide) (fun c49 => ?_) (fun c49 => ?_)
          · have hf := ite_f hf c49
            exact tX4_readBlow_111 F hr hf
          · have hf := ite_t hf c49
            refine v_bipush (pc := 108) (v := 6) F dX4_readBlow_108 bp_6 ?_
            refine v_istore_n (pc := 110) (lv' := [(0, .ref (gA g 38)), (1, .int ((h f1 8) - 1)), (2, .int ((((h f1 8) - 1) * 8) + v11)), (3, .int 6)]) F dX4_readBlow_110 rfl (by decide) rfl ?_
            exact tX4_readBlow_111 F hr hf
      · have hf := ite_f hf c17
        refine v_iload_n (pc := 63) (j := 3) F dX4_readBlow_63 rfl rfl ?_
        exact v_iret (pc := 64) F hr dX4_readBlow_64 (some_fst hf) (some_snd hf) (Nat.zero_le _)
    · have hf := ite_f hf c8
      refine v_iconst (pc := 30) (v := 2) F dX4_readBlow_30 ic_2 ?_
      exact v_iret (pc := 31) F hr dX4_readBlow_31 (some_fst hf) (some_snd hf) (Nat.zero_le _)
  · have hf := ite_f hf c3
    refine v_iconst (pc := 14) (v := 1) F dX4_readBlow_14 ic_1 ?_
    exact v_iret (pc := 15) F hr dX4_readBlow_15 (some_fst hf) (some_snd hf) (Nat.zero_le _)
def fX4_readCalendar_97 (h : ST) (l1 : Int32) (l2 : Int32) : Option ((ST × Int32) ⊕ (ST ⊕ ((ST × Int32) ⊕ ST))) :=
  if l2 = 0 then
  bnd (rf KC 395 1 (h 38 2)) fun f13 =>
    bnd (wr 10 h (f13 + 11) l1 (h 39 2)) fun h15 =>
    bnd (rf KC 395 1 (h15 38 2)) fun f17 =>
    bnd (pw h15 f17 13 (l1 + 1)) fun h19 =>
    bnd (fX9_step h19) fun r21 =>
    some (.inl (r21, l1 + 1))
  else
  some (.inr (.inr (.inl (h, l2))))
def fX4_readCalendar_63 (h : ST) (l1 : Int32) (l2 : Int32) : Option ((ST × Int32) ⊕ (ST ⊕ ((ST × Int32) ⊕ ST))) :=
  if l2 = 0 then
  if (h 39 2) = 5 then
    fX4_readCalendar_97 h l1 l2
    else
    bnd (rf KC 395 1 (h 38 2)) fun f24 =>
      if (h 39 2) < (h f24 8) then
      fX4_readCalendar_97 h l1 l2
      else
      fX4_readCalendar_97 h l1 3
  else
  fX4_readCalendar_97 h l1 l2
def fX4_readCalendar_46 (h : ST) (l1 : Int32) : Option ((ST × Int32) ⊕ (ST ⊕ ((ST × Int32) ⊕ ST))) :=
  bnd (fX4_lookAtNumber h) fun r8 =>
  if r8 = 0 then
  if l1 = 10 then
    fX4_readCalendar_63 h l1 2
    else
    fX4_readCalendar_63 h l1 r8
  else
  fX4_readCalendar_63 h l1 r8
def fX4_readCalendar_23 (s1 : (ST × Int32)) : Option ((ST × Int32) ⊕ (ST ⊕ ((ST × Int32) ⊕ ST))) :=
  if 10 < s1.2 then
  some (.inr (.inr (.inr s1.1)))
  else
  if s1.2 ≤ 0 then
    fX4_readCalendar_46 s1.1 s1.2
    else
    if (s1.1 39 0) = 2 then
      fX4_readCalendar_46 s1.1 s1.2
      else
      some (.inr (.inl s1.1))
def fX4_readCalendar (h : ST) : Option (Int32 × ST) :=
  if (h 38 4) = 0 then
  bnd (pw h 38 4 1) fun h2 =>
    bnd (fX9_step h2) fun r4 =>
    bnd (lp FU (fX4_readCalendar_23) (r4, 0)) fun x29 =>
    sm x29 (fun v => some (0, v)) (fun w1 => sm w1 (fun v => some (v.2, v.1)) (fun v => some (0, v)))
  else
  some (5, h)
set_option maxRecDepth 100000 in
set_option maxHeartbeats 4000000 in
theorem tX4_readCalendar_97 {p : Program} {l : Launch} {e : Env} {s : State} {m : MethodId} {args : Array Value} {below : List Frame} {meth : Method} {c : Code} {g : GE} {B : Nat} {h : ST}  {l1 : Int32} {l2 : Int32} (F : Fx p s m args meth c cX4_readCalendar 3 "DustParish$Reader" 395 g B)
    {Q : State → Prop} {y : (ST × Int32) ⊕ (ST ⊕ ((ST × Int32) ⊕ ST))} (hk : ∀ v : (ST × Int32), y = Sum.inl v → V p l e 6 0 s m args below meth c Q KC 395 g B 3 0 v.1 23 [(0, .ref (gA g 38)), (1, .int v.2)] []) (hx0 : ∀ v : ST, y = Sum.inr (.inl v) → V p l e 6 0 s m args below meth c Q KC 395 g B 3 0 v 44 [] []) (hx1 : ∀ v : (ST × Int32), y = Sum.inr (.inr (.inl v)) → V p l e 6 0 s m args below meth c Q KC 395 g B 3 0 v.1 101 [(2, .int v.2)] []) (hx2 : ∀ v : ST, y = Sum.inr (.inr (.inr v)) → V p l e 6 0 s m args below meth c Q KC 395 g B 3 0 v 142 [] []) (hf : fX4_readCalendar_97 h l1 l2 = some y) : V p l e 6 0 s m args below meth c Q KC 395 g B 3 0 h 97 [(0, .ref (gA g 38)), (1, .int l1), (2, .int l2)] [] := by
  unfold fX4_readCalendar_97 at hf
  refine v_iload_n (pc := 97) (j := 2) F dX4_readCalendar_97 rfl rfl ?_
  refine v_if_eq (pc := 98) (tgt := 103) F dX4_readCalendar_98 (by decide) (fun c12 => ?_) (fun c12 => ?_)
  · have hf := ite_t hf c12
    refine v_aload_n (pc := 103) (j := 0) F dX4_readCalendar_103 rfl rfl ?_
    obtain ⟨f13, e14, hf⟩ := bnd_some hf
    obtain ⟨ho_f13, hk_f13, e14⟩ := rf_in e14
    refine v_ifl (pc := 104) F fl_X4_52 dX4_readCalendar_104 kc_38.1 kc_38.2 (fv_3_2 e14) ?_
    refine v_ifl (pc := 107) F fl_X4_191 dX4_readCalendar_107 ho_f13 hk_f13 fv_1_14 ?_
    refine v_iload_n (pc := 110) (j := 1) F dX4_readCalendar_110 rfl rfl ?_
    refine v_aload_n (pc := 111) (j := 0) F dX4_readCalendar_111 rfl rfl ?_
    refine v_ifl (pc := 112) F fl_X4_33 dX4_readCalendar_112 kc_38.1 kc_38.2 fv_3_0 ?_
    refine v_ifl (pc := 115) F fl_X4_133 dX4_readCalendar_115 kc_39.1 kc_39.2 fv_8_2 ?_
    obtain ⟨h15, e16, hf⟩ := bnd_some hf
    refine v_iast (pc := 118) F dX4_readCalendar_118 (ly_1_14 ho_f13 hk_f13).1 (ly_1_14 ho_f13 hk_f13).2 e16 ?_
    refine v_aload_n (pc := 119) (j := 0) F dX4_readCalendar_119 rfl rfl ?_
    obtain ⟨f17, e18, hf⟩ := bnd_some hf
    obtain ⟨ho_f17, hk_f17, e18⟩ := rf_in e18
    refine v_ifl (pc := 120) F fl_X4_52 dX4_readCalendar_120 kc_38.1 kc_38.2 (fv_3_2 e18) ?_
    refine v_iload_n (pc := 123) (j := 1) F dX4_readCalendar_123 rfl rfl ?_
    refine v_iconst (pc := 124) (v := 1) F dX4_readCalendar_124 ic_1 ?_
    refine v_iadd (pc := 125) F dX4_readCalendar_125 ?_
    obtain ⟨h19, e20, hf⟩ := bnd_some hf
    refine v_pfl (pc := 126) F fl_X4_193 pl_1_13 dX4_readCalendar_126 ho_f17 hk_f17 fv_1_13 rfl rfl e20 ?_
    refine v_aload_n (pc := 129) (j := 0) F dX4_readCalendar_129 rfl rfl ?_
    refine v_ifl (pc := 130) F fl_X4_33 dX4_readCalendar_130 kc_38.1 kc_38.2 fv_3_0 ?_
    obtain ⟨r21, e22, hf⟩ := bnd_some hf
    refine v_callVv (pc := 133) (As := []) F cl_X4_77 dX4_readCalendar_133 (kX9_step e22) kc_39.1 kc_39.2 rc_8 rfl rfl (Nat.le_of_ble_eq_true rfl) (by decide) (Nat.zero_le _) ?_
    refine v_iinc (pc := 136) (j := 1) (v := l1 + 1) (lv' := [(0, .ref (gA g 38)), (1, .int (l1 + 1)), (2, .int l2)]) F dX4_readCalendar_136 rfl (congrArg (fun z => l1 + z) ic_1) (by decide) rfl ?_
    refine v_goto (pc := 139) (tgt := 23) F dX4_readCalendar_139 (by decide) ?_
    refine V.sub (lv' := [(0, .ref (gA g 38)), (1, .int (l1 + 1))]) [0, 1] rfl ?_
    exact hk (r21, l1 + 1) (Option.some.inj hf).symm
  · have hf := ite_f hf c12
    refine V.sub (lv' := [(2, .int l2)]) [2] rfl ?_
    exact hx1 (h, l2) (Option.some.inj hf).symm
set_option maxRecDepth 100000 in
set_option maxHeartbeats 4000000 in
theorem tX4_readCalendar_63 {p : Program} {l : Launch} {e : Env} {s : State} {m : MethodId} {args : Array Value} {below : List Frame} {meth : Method} {c : Code} {g : GE} {B : Nat} {h : ST}  {l1 : Int32} {l2 : Int32} (F : Fx p s m args meth c cX4_readCalendar 3 "DustParish$Reader" 395 g B)
    {Q : State → Prop} {y : (ST × Int32) ⊕ (ST ⊕ ((ST × Int32) ⊕ ST))} (hk : ∀ v : (ST × Int32), y = Sum.inl v → V p l e 6 0 s m args below meth c Q KC 395 g B 3 0 v.1 23 [(0, .ref (gA g 38)), (1, .int v.2)] []) (hx0 : ∀ v : ST, y = Sum.inr (.inl v) → V p l e 6 0 s m args below meth c Q KC 395 g B 3 0 v 44 [] []) (hx1 : ∀ v : (ST × Int32), y = Sum.inr (.inr (.inl v)) → V p l e 6 0 s m args below meth c Q KC 395 g B 3 0 v.1 101 [(2, .int v.2)] []) (hx2 : ∀ v : ST, y = Sum.inr (.inr (.inr v)) → V p l e 6 0 s m args below meth c Q KC 395 g B 3 0 v 142 [] []) (hf : fX4_readCalendar_63 h l1 l2 = some y) : V p l e 6 0 s m args below meth c Q KC 395 g B 3 0 h 63 [(0, .ref (gA g 38)), (1, .int l1), (2, .int l2)] [] := by
  unfold fX4_readCalendar_63 at hf
  refine v_iload_n (pc := 63) (j := 2) F dX4_readCalendar_63 rfl rfl ?_
  refine v_if_ne (pc := 64) (tgt := 97) F dX4_readCalendar_64 (by decide) (fun c11 => ?_) (fun c11 => ?_)
  · have hf := ite_f hf c11
    exact tX4_readCalendar_97 F hk hx0 hx1 hx2 hf
  · have hf := ite_t hf c11
    refine v_aload_n (pc := 67) (j := 0) F dX4_readCalendar_67 rfl rfl ?_
    refine v_ifl (pc := 68) F fl_X4_33 dX4_readCalendar_68 kc_38.1 kc_38.2 fv_3_0 ?_
    refine v_ifl (pc := 71) F fl_X4_133 dX4_readCalendar_71 kc_39.1 kc_39.2 fv_8_2 ?_
    refine v_iconst (pc := 74) (v := 5) F dX4_readCalendar_74 ic_5 ?_
    refine v_icmp_eq (pc := 75) (tgt := 97) F dX4_readCalendar_75 (by decide) (fun c23 => ?_) (fun c23 => ?_)
    · have hf := ite_t hf c23
      exact tX4_readCalendar_97 F hk hx0 hx1 hx2 hf
    · have hf := ite_f hf c23
      refine v_aload_n (pc := 78) (j := 0) F dX4_readCalendar_78 rfl rfl ?_
      refine v_ifl (pc := 79) F fl_X4_33 dX4_readCalendar_79 kc_38.1 kc_38.2 fv_3_0 ?_
      refine v_ifl (pc := 82) F fl_X4_133 dX4_readCalendar_82 kc_39.1 kc_39.2 fv_8_2 ?_
      refine v_aload_n (pc := 85) (j := 0) F dX4_readCalendar_85 rfl rfl ?_
      obtain ⟨f24, e25, hf⟩ := bnd_some hf
      obtain ⟨ho_f24, hk_f24, e25⟩ := rf_in e25
      refine v_ifl (pc := 86) F fl_X4_52 dX4_readCalendar_86 kc_38.1 kc_38.2 (fv_3_2 e25) ?_
      refine v_ifl (pc := 89) F fl_X4_176 dX4_readCalendar_89 ho_f24 hk_f24 fv_1_8 ?_
      refine v_icmp_lt (pc := 92) (tgt := 97) F dX4_readCalendar_92 (by decide) (fun c26 => ?_) (fun c26 => ?_)
      · have hf := ite_t hf c26
        exact tX4_readCalendar_97 F hk hx0 hx1 hx2 hf
      · have hf := ite_f hf c26
        refine v_iconst (pc := 95) (v := 3) F dX4_readCalendar_95 ic_3 ?_
        refine v_istore_n (pc := 96) (lv' := [(0, .ref (gA g 38)), (1, .int l1), (2, .int 3)]) F dX4_readCalendar_96 rfl (by decide) rfl ?_
        exact tX4_readCalendar_97 F hk hx0 hx1 hx2 hf
set_option maxRecDepth 100000 in
set_option maxHeartbeats 4000000 in
theorem tX4_readCalendar_46 {p : Program} {l : Launch} {e : Env} {s : State} {m : MethodId} {args : Array Value} {below : List Frame} {meth : Method} {c : Code} {g : GE} {B : Nat} {h : ST}  {l1 : Int32} (F : Fx p s m args meth c cX4_readCalendar 3 "DustParish$Reader" 395 g B)
    {Q : State → Prop} {y : (ST × Int32) ⊕ (ST ⊕ ((ST × Int32) ⊕ ST))} (hk : ∀ v : (ST × Int32), y = Sum.inl v → V p l e 6 0 s m args below meth c Q KC 395 g B 3 0 v.1 23 [(0, .ref (gA g 38)), (1, .int v.2)] []) (hx0 : ∀ v : ST, y = Sum.inr (.inl v) → V p l e 6 0 s m args below meth c Q KC 395 g B 3 0 v 44 [] []) (hx1 : ∀ v : (ST × Int32), y = Sum.inr (.inr (.inl v)) → V p l e 6 0 s m args below meth c Q KC 395 g B 3 0 v.1 101 [(2, .int v.2)] []) (hx2 : ∀ v : ST, y = Sum.inr (.inr (.inr v)) → V p l e 6 0 s m args below meth c Q KC 395 g B 3 0 v 142 [] []) (hf : fX4_readCalendar_46 h l1 = some y) : V p l e 6 0 s m args below meth c Q KC 395 g B 3 0 h 46 [(0, .ref (gA g 38)), (1, .int l1)] [] := by
  unfold fX4_readCalendar_46 at hf
  refine v_aload_n (pc := 46) (j := 0) F dX4_readCalendar_46 rfl rfl ?_
  obtain ⟨r8, e9, hf⟩ := bnd_some hf
  refine v_callVi (pc := 47) (As := []) F cl_X4_130 dX4_readCalendar_47 (kX4_lookAtNumber e9) kc_38.1 kc_38.2 rc_3 rfl rfl (Nat.le_of_ble_eq_true rfl) (by decide) (Nat.zero_le _) ?_
  refine v_istore_n (pc := 50) (lv' := [(0, .ref (gA g 38)), (1, .int l1), (2, .int r8)]) F dX4_readCalendar_50 rfl (by decide) rfl ?_
  refine v_iload_n (pc := 51) (j := 2) F dX4_readCalendar_51 rfl rfl ?_
  refine v_if_ne (pc := 52) (tgt := 63) F dX4_readCalendar_52 (by decide) (fun c10 => ?_) (fun c10 => ?_)
  · have hf := ite_f hf c10
    exact tX4_readCalendar_63 F hk hx0 hx1 hx2 hf
  · have hf := ite_t hf c10
    refine v_iload_n (pc := 55) (j := 1) F dX4_readCalendar_55 rfl rfl ?_
    refine v_bipush (pc := 56) (v := 10) F dX4_readCalendar_56 bp_10 ?_
    refine v_icmp_ne (pc := 58) (tgt := 63) F dX4_readCalendar_58 (by decide) (fun c27 => ?_) (fun c27 => ?_)
    · have hf := ite_f hf c27
      exact tX4_readCalendar_63 F hk hx0 hx1 hx2 hf
    · have hf := ite_t hf c27
      refine v_iconst (pc := 61) (v := 2) F dX4_readCalendar_61 ic_2 ?_
      refine v_istore_n (pc := 62) (lv' := [(0, .ref (gA g 38)), (1, .int l1), (2, .int 2)]) F dX4_readCalendar_62 rfl (by decide) rfl ?_
      exact tX4_readCalendar_63 F hk hx0 hx1 hx2 hf
set_option maxRecDepth 100000 in
set_option maxHeartbeats 4000000 in
theorem tX4_readCalendar_23 {p : Program} {l : Launch} {e : Env} {s : State} {m : MethodId} {args : Array Value} {below : List Frame} {meth : Method} {c : Code} {g : GE} {B : Nat}  {Q : State → Prop} {x : (ST ⊕ ((ST × Int32) ⊕ ST))} {nf : Nat} {s0 : (ST × Int32)} (F : Fx p s m args meth c cX4_readCalendar 3 "DustParish$Reader" 395 g B) (hX0 : ∀ v : ST, x = (.inl v) → V p l e 6 0 s m args below meth c Q KC 395 g B 3 0 v 44 [] []) (hX1 : ∀ v : (ST × Int32), x = (.inr (.inl v)) → V p l e 6 0 s m args below meth c Q KC 395 g B 3 0 v.1 101 [(2, .int v.2)] []) (hX2 : ∀ v : ST, x = (.inr (.inr v)) → V p l e 6 0 s m args below meth c Q KC 395 g B 3 0 v 142 [] []) (hl : lp nf (fX4_readCalendar_23) s0 = some x) : V p l e 6 0 s m args below meth c Q KC 395 g B 3 0 s0.1 23 [(0, .ref (gA g 38)), (1, .int s0.2)] [] := by
  refine lp_ind (P := fun s0 => V p l e 6 0 s m args below meth c Q KC 395 g B 3 0 s0.1 23 [(0, .ref (gA g 38)), (1, .int s0.2)] []) ?_ nf s0 hl
  intro s1 y hf hk hx
  have hx0 : ∀ v : ST, y = Sum.inr (.inl v) → V p l e 6 0 s m args below meth c Q KC 395 g B 3 0 v 44 [] [] := fun v e9 => hX0 v (hx _ e9).symm
  have hx1 : ∀ v : (ST × Int32), y = Sum.inr (.inr (.inl v)) → V p l e 6 0 s m args below meth c Q KC 395 g B 3 0 v.1 101 [(2, .int v.2)] [] := fun v e9 => hX1 v (hx _ e9).symm
  have hx2 : ∀ v : ST, y = Sum.inr (.inr (.inr v)) → V p l e 6 0 s m args below meth c Q KC 395 g B 3 0 v 142 [] [] := fun v e9 => hX2 v (hx _ e9).symm
  unfold fX4_readCalendar_23 at hf
  refine v_iload_n (pc := 23) (j := 1) F dX4_readCalendar_23 rfl rfl ?_
  refine v_bipush (pc := 24) (v := 10) F dX4_readCalendar_24 bp_10 ?_
  refine v_icmp_gt (pc := 26) (tgt := 142) F dX4_readCalendar_26 (by decide) (fun c6 => ?_) (fun c6 => ?_)
  · have hf := ite_t hf c6
    refine V.sub (lv' := []) [] rfl ?_
    exact hx2 s1.1 (Option.some.inj hf).symm
  · have hf := ite_f hf c6
    refine v_iload_n (pc := 29) (j := 1) F dX4_readCalendar_29 rfl rfl ?_
    refine v_if_le (pc := 30) (tgt := 46) F dX4_readCalendar_30 (by decide) (fun c7 => ?_) (fun c7 => ?_)
    · have hf := ite_t hf c7
      exact tX4_readCalendar_46 F hk hx0 hx1 hx2 hf
    · have hf := ite_f hf c7
      refine v_aload_n (pc := 33) (j := 0) F dX4_readCalendar_33 rfl rfl ?_
      refine v_ifl (pc := 34) F fl_X4_33 dX4_readCalendar_34 kc_38.1 kc_38.2 fv_3_0 ?_
      refine v_ifl (pc := 37) F fl_X4_66 dX4_readCalendar_37 kc_39.1 kc_39.2 fv_8_0 ?_
      refine v_iconst (pc := 40) (v := 2) F dX4_readCalendar_40 ic_2 ?_
      refine v_icmp_eq (pc := 41) (tgt := 46) F dX4_readCalendar_41 (by decide) (fun c28 => ?_) (fun c28 => ?_)
      · have hf := ite_t hf c28
        exact tX4_readCalendar_46 F hk hx0 hx1 hx2 hf
      · have hf := ite_f hf c28
        refine V.sub (lv' := []) [] rfl ?_
        exact hx0 s1.1 (Option.some.inj hf).symm
set_option maxRecDepth 100000 in
set_option maxHeartbeats 4000000 in
theorem kX4_readCalendar {l : Launch} {g : GE} {B : Nat} {h : ST} {y : Int32 × ST} (hf : fX4_readCalendar h = some y) : CT l yX4_readCalendar cX4_readCalendar 3 (some .int) 6 KC 395 g B [.ref (gA g 38)] h (some (.int y.1)) y.2 := by
  refine CT.of pn_X4 (Nat.le_of_ble_eq_true rfl) ?_
  intro p e s m below meth c hr F
  have F : Fx p s m _ meth c cX4_readCalendar 3 "DustParish$Reader" 395 g B := F
  refine V_lv (lv' := [(0, .ref (gA g 38))]) rfl ?_
  unfold fX4_readCalendar at hf
  refine v_aload_n (pc := 0) (j := 0) F dX4_readCalendar_0 rfl rfl ?_
  refine v_ifl (pc := 1) F fl_X4_15 dX4_readCalendar_1 kc_38.1 kc_38.2 fv_3_4 ?_
  refine v_if_eq (pc := 4) (tgt := 9) F dX4_readCalendar_4 (by decide) (fun c1 => ?_) (fun c1 => ?_)
  · have hf := ite_t hf c1
    refine v_aload_n (pc := 9) (j := 0) F dX4_readCalendar_9 rfl rfl ?_
    refine v_iconst (pc := 10) (v := 1) F dX4_readCalendar_10 ic_1 ?_
    obtain ⟨h2, e3, hf⟩ := bnd_some hf
    refine v_pfl (pc := 11) F fl_X4_15 pl_3_4 dX4_readCalendar_11 kc_38.1 kc_38.2 fv_3_4 rfl rfl e3 ?_
    refine v_aload_n (pc := 14) (j := 0) F dX4_readCalendar_14 rfl rfl ?_
    refine v_ifl (pc := 15) F fl_X4_33 dX4_readCalendar_15 kc_38.1 kc_38.2 fv_3_0 ?_
    obtain ⟨r4, e5, hf⟩ := bnd_some hf
    refine v_callVv (pc := 18) (As := []) F cl_X4_77 dX4_readCalendar_18 (kX9_step e5) kc_39.1 kc_39.2 rc_8 rfl rfl (Nat.le_of_ble_eq_true rfl) (by decide) (Nat.zero_le _) ?_
    refine v_iconst (pc := 21) (v := 0) F dX4_readCalendar_21 ic_0 ?_
    refine v_istore_n (pc := 22) (lv' := [(0, .ref (gA g 38)), (1, .int 0)]) F dX4_readCalendar_22 rfl (by decide) rfl ?_
    obtain ⟨x29, e30, hf⟩ := bnd_some hf
    refine tX4_readCalendar_23 (s0 := (r4, 0)) F (fun v e9 => ?_) (fun v e9 => ?_) (fun v e9 => ?_) e30
    · subst e9
      have hf := sm_l hf
      refine v_iconst (pc := 44) (v := 0) F dX4_readCalendar_44 ic_0 ?_
      exact v_iret (pc := 45) F hr dX4_readCalendar_45 (some_fst hf) (some_snd hf) (Nat.zero_le _)
    · subst e9
      have hf := sm_r hf
      have hf := sm_l hf
      refine v_iload_n (pc := 101) (j := 0) F dX4_readCalendar_101 rfl rfl ?_
      exact v_iret (pc := 102) F hr dX4_readCalendar_102 (some_fst hf) (some_snd hf) (Nat.zero_le _)
    · subst e9
      have hf := sm_r hf
      have hf := sm_r hf
      refine v_iconst (pc := 142) (v := 0) F dX4_readCalendar_142 ic_0 ?_
      exact v_iret (pc := 143) F hr dX4_readCalendar_143 (some_fst hf) (some_snd hf) (Nat.zero_le _)
  · have hf := ite_f hf c1
    refine v_iconst (pc := 7) (v := 5) F dX4_readCalendar_7 ic_5 ?_
    exact v_iret (pc := 8) F hr dX4_readCalendar_8 (some_fst hf) (some_snd hf) (Nat.zero_le _)
def fX4_readEvery_51 (h : ST) (f8 : Nat) (l1 : Int32) (q1 : Int32) : Option (Int32 × ST) :=
  bnd (pw h f8 15 q1) fun h13 =>
  some (l1, h13)
def fX4_readEvery (h : ST) : Option (Int32 × ST) :=
  if (h 38 5) = 0 then
  bnd (pw h 38 5 1) fun h2 =>
    bnd (fX9_step h2) fun r4 =>
    bnd (fX4_readNumber r4 1 30) fun r6 =>
    bnd (rf KC 395 1 (r6.2 38 2)) fun f8 =>
    if r6.1 = 0 then
    fX4_readEvery_51 r6.2 f8 r6.1 (r6.2 38 3)
    else
    bnd (rf KC 395 1 (r6.2 38 2)) fun f11 =>
      fX4_readEvery_51 r6.2 f8 r6.1 (r6.2 f11 15)
  else
  some (5, h)
set_option maxRecDepth 100000 in
set_option maxHeartbeats 4000000 in
theorem tX4_readEvery_51 {p : Program} {l : Launch} {e : Env} {s : State} {m : MethodId} {args : Array Value} {below : List Frame} {meth : Method} {c : Code} {g : GE} {B : Nat} {h : ST} {f8 : Nat} (ho_f8 : f8 < 395) (hk_f8 : KC f8 = (1, 0)) {l1 : Int32} {q1 : Int32} (F : Fx p s m args meth c cX4_readEvery 2 "DustParish$Reader" 395 g B)
    {y : Int32 × ST} (hr : meth.sig.returnType = (some .int)) (hf : fX4_readEvery_51 h f8 l1 q1 = some y) : V p l e 7 0 s m args below meth c (MQ below (QO KC 395 g (some (.int y.1)) y.2) args s 0 (6 * 0) (WA 395 g)) KC 395 g B 2 0 h 51 [(1, .int l1)] [.int q1, .ref (gA g f8)] := by
  unfold fX4_readEvery_51 at hf
  obtain ⟨h13, e14, hf⟩ := bnd_some hf
  refine v_pfl (pc := 51) F fl_X4_196 pl_1_15 dX4_readEvery_51 ho_f8 hk_f8 fv_1_15 rfl rfl e14 ?_
  refine v_iload_n (pc := 54) (j := 0) F dX4_readEvery_54 rfl rfl ?_
  exact v_iret (pc := 55) F hr dX4_readEvery_55 (some_fst hf) (some_snd hf) (Nat.zero_le _)
set_option maxRecDepth 100000 in
set_option maxHeartbeats 4000000 in
theorem kX4_readEvery {l : Launch} {g : GE} {B : Nat} {h : ST} {y : Int32 × ST} (hf : fX4_readEvery h = some y) : CT l yX4_readEvery cX4_readEvery 2 (some .int) 7 KC 395 g B [.ref (gA g 38)] h (some (.int y.1)) y.2 := by
  refine CT.of pn_X4 (Nat.le_of_ble_eq_true rfl) ?_
  intro p e s m below meth c hr F
  have F : Fx p s m _ meth c cX4_readEvery 2 "DustParish$Reader" 395 g B := F
  refine V_lv (lv' := [(0, .ref (gA g 38))]) rfl ?_
  unfold fX4_readEvery at hf
  refine v_aload_n (pc := 0) (j := 0) F dX4_readEvery_0 rfl rfl ?_
  refine v_ifl (pc := 1) F fl_X4_19 dX4_readEvery_1 kc_38.1 kc_38.2 fv_3_5 ?_
  refine v_if_eq (pc := 4) (tgt := 9) F dX4_readEvery_4 (by decide) (fun c1 => ?_) (fun c1 => ?_)
  · have hf := ite_t hf c1
    refine v_aload_n (pc := 9) (j := 0) F dX4_readEvery_9 rfl rfl ?_
    refine v_iconst (pc := 10) (v := 1) F dX4_readEvery_10 ic_1 ?_
    obtain ⟨h2, e3, hf⟩ := bnd_some hf
    refine v_pfl (pc := 11) F fl_X4_19 pl_3_5 dX4_readEvery_11 kc_38.1 kc_38.2 fv_3_5 rfl rfl e3 ?_
    refine v_aload_n (pc := 14) (j := 0) F dX4_readEvery_14 rfl rfl ?_
    refine v_ifl (pc := 15) F fl_X4_33 dX4_readEvery_15 kc_38.1 kc_38.2 fv_3_0 ?_
    obtain ⟨r4, e5, hf⟩ := bnd_some hf
    refine v_callVv (pc := 18) (As := []) F cl_X4_77 dX4_readEvery_18 (kX9_step e5) kc_39.1 kc_39.2 rc_8 rfl rfl (Nat.le_of_ble_eq_true rfl) (by decide) (Nat.zero_le _) ?_
    refine v_aload_n (pc := 21) (j := 0) F dX4_readEvery_21 rfl rfl ?_
    refine v_iconst (pc := 22) (v := 1) F dX4_readEvery_22 ic_1 ?_
    refine v_bipush (pc := 23) (v := 30) F dX4_readEvery_23 bp_30 ?_
    obtain ⟨r6, e7, hf⟩ := bnd_some hf
    refine v_callVi (pc := 25) (As := [.int 1, .int 30]) F cl_X4_149 dX4_readEvery_25 (kX4_readNumber e7) kc_38.1 kc_38.2 rc_3 rfl rfl (Nat.le_of_ble_eq_true rfl) (by decide) (Nat.zero_le _) ?_
    refine v_istore_n (pc := 28) (lv' := [(0, .ref (gA g 38)), (1, .int r6.1)]) F dX4_readEvery_28 rfl (by decide) rfl ?_
    refine v_aload_n (pc := 29) (j := 0) F dX4_readEvery_29 rfl rfl ?_
    obtain ⟨f8, e9, hf⟩ := bnd_some hf
    obtain ⟨ho_f8, hk_f8, e9⟩ := rf_in e9
    refine v_ifl (pc := 30) F fl_X4_52 dX4_readEvery_30 kc_38.1 kc_38.2 (fv_3_2 e9) ?_
    refine v_iload_n (pc := 33) (j := 1) F dX4_readEvery_33 rfl rfl ?_
    refine v_if_ne (pc := 34) (tgt := 44) F dX4_readEvery_34 (by decide) (fun c10 => ?_) (fun c10 => ?_)
    · have hf := ite_f hf c10
      refine v_aload_n (pc := 44) (j := 0) F dX4_readEvery_44 rfl rfl ?_
      obtain ⟨f11, e12, hf⟩ := bnd_some hf
      obtain ⟨ho_f11, hk_f11, e12⟩ := rf_in e12
      refine v_ifl (pc := 45) F fl_X4_52 dX4_readEvery_45 kc_38.1 kc_38.2 (fv_3_2 e12) ?_
      refine v_ifl (pc := 48) F fl_X4_196 dX4_readEvery_48 ho_f11 hk_f11 fv_1_15 ?_
      refine V.sub (lv' := [(1, .int r6.1)]) [1] rfl ?_
      exact tX4_readEvery_51 ho_f8 hk_f8 F hr hf
    · have hf := ite_t hf c10
      refine v_aload_n (pc := 37) (j := 0) F dX4_readEvery_37 rfl rfl ?_
      refine v_ifl (pc := 38) F fl_X4_9 dX4_readEvery_38 kc_38.1 kc_38.2 fv_3_3 ?_
      refine v_goto (pc := 41) (tgt := 51) F dX4_readEvery_41 (by decide) ?_
      refine V.sub (lv' := [(1, .int r6.1)]) [1] rfl ?_
      exact tX4_readEvery_51 ho_f8 hk_f8 F hr hf
  · have hf := ite_f hf c1
    refine v_iconst (pc := 7) (v := 5) F dX4_readEvery_7 ic_5 ?_
    exact v_iret (pc := 8) F hr dX4_readEvery_8 (some_fst hf) (some_snd hf) (Nat.zero_le _)
def fX4_readClean_52 (h : ST) (f8 : Nat) (l1 : Int32) (q1 : Int32) : Option (Int32 × ST) :=
  bnd (pw h f8 16 q1) fun h13 =>
  some (l1, h13)
def fX4_readClean (h : ST) : Option (Int32 × ST) :=
  if (h 38 6) = 0 then
  bnd (pw h 38 6 1) fun h2 =>
    bnd (fX9_step h2) fun r4 =>
    bnd (fX4_readNumber r4 0 999) fun r6 =>
    bnd (rf KC 395 1 (r6.2 38 2)) fun f8 =>
    if r6.1 = 0 then
    fX4_readClean_52 r6.2 f8 r6.1 (r6.2 38 3)
    else
    bnd (rf KC 395 1 (r6.2 38 2)) fun f11 =>
      fX4_readClean_52 r6.2 f8 r6.1 (r6.2 f11 16)
  else
  some (5, h)
set_option maxRecDepth 100000 in
set_option maxHeartbeats 4000000 in
theorem tX4_readClean_52 {p : Program} {l : Launch} {e : Env} {s : State} {m : MethodId} {args : Array Value} {below : List Frame} {meth : Method} {c : Code} {g : GE} {B : Nat} {h : ST} {f8 : Nat} (ho_f8 : f8 < 395) (hk_f8 : KC f8 = (1, 0)) {l1 : Int32} {q1 : Int32} (F : Fx p s m args meth c cX4_readClean 2 "DustParish$Reader" 395 g B)
    {y : Int32 × ST} (hr : meth.sig.returnType = (some .int)) (hf : fX4_readClean_52 h f8 l1 q1 = some y) : V p l e 7 0 s m args below meth c (MQ below (QO KC 395 g (some (.int y.1)) y.2) args s 0 (6 * 0) (WA 395 g)) KC 395 g B 2 0 h 52 [(1, .int l1)] [.int q1, .ref (gA g f8)] := by
  unfold fX4_readClean_52 at hf
  obtain ⟨h13, e14, hf⟩ := bnd_some hf
  refine v_pfl (pc := 52) F fl_X4_198 pl_1_16 dX4_readClean_52 ho_f8 hk_f8 fv_1_16 rfl rfl e14 ?_
  refine v_iload_n (pc := 55) (j := 0) F dX4_readClean_55 rfl rfl ?_
  exact v_iret (pc := 56) F hr dX4_readClean_56 (some_fst hf) (some_snd hf) (Nat.zero_le _)
set_option maxRecDepth 100000 in
set_option maxHeartbeats 4000000 in
theorem kX4_readClean {l : Launch} {g : GE} {B : Nat} {h : ST} {y : Int32 × ST} (hf : fX4_readClean h = some y) : CT l yX4_readClean cX4_readClean 2 (some .int) 7 KC 395 g B [.ref (gA g 38)] h (some (.int y.1)) y.2 := by
  refine CT.of pn_X4 (Nat.le_of_ble_eq_true rfl) ?_
  intro p e s m below meth c hr F
  have F : Fx p s m _ meth c cX4_readClean 2 "DustParish$Reader" 395 g B := F
  refine V_lv (lv' := [(0, .ref (gA g 38))]) rfl ?_
  unfold fX4_readClean at hf
  refine v_aload_n (pc := 0) (j := 0) F dX4_readClean_0 rfl rfl ?_
  refine v_ifl (pc := 1) F fl_X4_22 dX4_readClean_1 kc_38.1 kc_38.2 fv_3_6 ?_
  refine v_if_eq (pc := 4) (tgt := 9) F dX4_readClean_4 (by decide) (fun c1 => ?_) (fun c1 => ?_)
  · have hf := ite_t hf c1
    refine v_aload_n (pc := 9) (j := 0) F dX4_readClean_9 rfl rfl ?_
    refine v_iconst (pc := 10) (v := 1) F dX4_readClean_10 ic_1 ?_
    obtain ⟨h2, e3, hf⟩ := bnd_some hf
    refine v_pfl (pc := 11) F fl_X4_22 pl_3_6 dX4_readClean_11 kc_38.1 kc_38.2 fv_3_6 rfl rfl e3 ?_
    refine v_aload_n (pc := 14) (j := 0) F dX4_readClean_14 rfl rfl ?_
    refine v_ifl (pc := 15) F fl_X4_33 dX4_readClean_15 kc_38.1 kc_38.2 fv_3_0 ?_
    obtain ⟨r4, e5, hf⟩ := bnd_some hf
    refine v_callVv (pc := 18) (As := []) F cl_X4_77 dX4_readClean_18 (kX9_step e5) kc_39.1 kc_39.2 rc_8 rfl rfl (Nat.le_of_ble_eq_true rfl) (by decide) (Nat.zero_le _) ?_
    refine v_aload_n (pc := 21) (j := 0) F dX4_readClean_21 rfl rfl ?_
    refine v_iconst (pc := 22) (v := 0) F dX4_readClean_22 ic_0 ?_
    refine v_sipush (pc := 23) (v := 999) F dX4_readClean_23 sp_999 ?_
    obtain ⟨r6, e7, hf⟩ := bnd_some hf
    refine v_callVi (pc := 26) (As := [.int 0, .int 999]) F cl_X4_149 dX4_readClean_26 (kX4_readNumber e7) kc_38.1 kc_38.2 rc_3 rfl rfl (Nat.le_of_ble_eq_true rfl) (by decide) (Nat.zero_le _) ?_
    refine v_istore_n (pc := 29) (lv' := [(0, .ref (gA g 38)), (1, .int r6.1)]) F dX4_readClean_29 rfl (by decide) rfl ?_
    refine v_aload_n (pc := 30) (j := 0) F dX4_readClean_30 rfl rfl ?_
    obtain ⟨f8, e9, hf⟩ := bnd_some hf
    obtain ⟨ho_f8, hk_f8, e9⟩ := rf_in e9
    refine v_ifl (pc := 31) F fl_X4_52 dX4_readClean_31 kc_38.1 kc_38.2 (fv_3_2 e9) ?_
    refine v_iload_n (pc := 34) (j := 1) F dX4_readClean_34 rfl rfl ?_
    refine v_if_ne (pc := 35) (tgt := 45) F dX4_readClean_35 (by decide) (fun c10 => ?_) (fun c10 => ?_)
    · have hf := ite_f hf c10
      refine v_aload_n (pc := 45) (j := 0) F dX4_readClean_45 rfl rfl ?_
      obtain ⟨f11, e12, hf⟩ := bnd_some hf
      obtain ⟨ho_f11, hk_f11, e12⟩ := rf_in e12
      refine v_ifl (pc := 46) F fl_X4_52 dX4_readClean_46 kc_38.1 kc_38.2 (fv_3_2 e12) ?_
      refine v_ifl (pc := 49) F fl_X4_198 dX4_readClean_49 ho_f11 hk_f11 fv_1_16 ?_
      refine V.sub (lv' := [(1, .int r6.1)]) [1] rfl ?_
      exact tX4_readClean_52 ho_f8 hk_f8 F hr hf
    · have hf := ite_t hf c10
      refine v_aload_n (pc := 38) (j := 0) F dX4_readClean_38 rfl rfl ?_
      refine v_ifl (pc := 39) F fl_X4_9 dX4_readClean_39 kc_38.1 kc_38.2 fv_3_3 ?_
      refine v_goto (pc := 42) (tgt := 52) F dX4_readClean_42 (by decide) ?_
      refine V.sub (lv' := [(1, .int r6.1)]) [1] rfl ?_
      exact tX4_readClean_52 ho_f8 hk_f8 F hr hf
  · have hf := ite_f hf c1
    refine v_iconst (pc := 7) (v := 5) F dX4_readClean_7 ic_5 ?_
    exact v_iret (pc := 8) F hr dX4_readClean_8 (some_fst hf) (some_snd hf) (Nat.zero_le _)
def fX6_wantPart (h : ST) : Option (ST) :=
  bnd (pw h 40 4 1) fun h1 =>
  bnd (pw h1 40 5 0) fun h3 =>
  some h3
set_option maxRecDepth 100000 in
set_option maxHeartbeats 4000000 in
theorem kX6_wantPart {l : Launch} {g : GE} {B : Nat} {h : ST} {y : ST} (hf : fX6_wantPart h = some y) : CT l yX6_wantPart cX6_wantPart 1 none 1 KC 395 g B [.ref (gA g 40)] h none y := by
  refine CT.of pn_X6 (Nat.le_of_ble_eq_true rfl) ?_
  intro p e s m below meth c hr F
  have F : Fx p s m _ meth c cX6_wantPart 1 "DustParish$RuleReader" 395 g B := F
  refine V_lv (lv' := [(0, .ref (gA g 40))]) rfl ?_
  unfold fX6_wantPart at hf
  refine v_aload_n (pc := 0) (j := 0) F dX6_wantPart_0 rfl rfl ?_
  refine v_iconst (pc := 1) (v := 1) F dX6_wantPart_1 ic_1 ?_
  obtain ⟨h1, e2, hf⟩ := bnd_some hf
  refine v_pfl (pc := 2) F fl_X6_25 pl_5_4 dX6_wantPart_2 kc_40.1 kc_40.2 fv_5_4 rfl rfl e2 ?_
  refine v_aload_n (pc := 5) (j := 0) F dX6_wantPart_5 rfl rfl ?_
  refine v_iconst (pc := 6) (v := 0) F dX6_wantPart_6 ic_0 ?_
  obtain ⟨h3, e4, hf⟩ := bnd_some hf
  refine v_pfl (pc := 7) F fl_X6_29 pl_5_5 dX6_wantPart_7 kc_40.1 kc_40.2 fv_5_5 rfl rfl e4 ?_
  exact v_vret (pc := 10) F hr dX6_wantPart_10 (Option.some.inj hf) (Nat.zero_le _)
def fX6_wantNot (h : ST) : Option (ST) :=
  bnd (fX6_wantPart h) fun r1 =>
  bnd (pw r1 40 5 1) fun h3 =>
  bnd (pw h3 40 3 0) fun h5 =>
  some h5
set_option maxRecDepth 100000 in
set_option maxHeartbeats 4000000 in
theorem kX6_wantNot {l : Launch} {g : GE} {B : Nat} {h : ST} {y : ST} (hf : fX6_wantNot h = some y) : CT l yX6_wantNot cX6_wantNot 1 none 2 KC 395 g B [.ref (gA g 40)] h none y := by
  refine CT.of pn_X6 (Nat.le_of_ble_eq_true rfl) ?_
  intro p e s m below meth c hr F
  have F : Fx p s m _ meth c cX6_wantNot 1 "DustParish$RuleReader" 395 g B := F
  refine V_lv (lv' := [(0, .ref (gA g 40))]) rfl ?_
  unfold fX6_wantNot at hf
  refine v_aload_n (pc := 0) (j := 0) F dX6_wantNot_0 rfl rfl ?_
  obtain ⟨r1, e2, hf⟩ := bnd_some hf
  refine v_callVv (pc := 1) (As := []) F cl_X6_63 dX6_wantNot_1 (kX6_wantPart e2) kc_40.1 kc_40.2 rc_5 rfl rfl (Nat.le_of_ble_eq_true rfl) (by decide) (Nat.zero_le _) ?_
  refine v_aload_n (pc := 4) (j := 0) F dX6_wantNot_4 rfl rfl ?_
  refine v_iconst (pc := 5) (v := 1) F dX6_wantNot_5 ic_1 ?_
  obtain ⟨h3, e4, hf⟩ := bnd_some hf
  refine v_pfl (pc := 6) F fl_X6_29 pl_5_5 dX6_wantNot_6 kc_40.1 kc_40.2 fv_5_5 rfl rfl e4 ?_
  refine v_aload_n (pc := 9) (j := 0) F dX6_wantNot_9 rfl rfl ?_
  refine v_iconst (pc := 10) (v := 0) F dX6_wantNot_10 ic_0 ?_
  obtain ⟨h5, e6, hf⟩ := bnd_some hf
  refine v_pfl (pc := 11) F fl_X6_22 pl_5_3 dX6_wantNot_11 kc_40.1 kc_40.2 fv_5_3 rfl rfl e6 ?_
  exact v_vret (pc := 14) F hr dX6_wantNot_14 (Option.some.inj hf) (Nat.zero_le _)
def fX9_isSign_26 (h : ST) (q0 : Int32) : Option (Int32) :=
  bnd (zb q0) fun z2 =>
  some z2
def fX9_isSign_25 (h : ST)  : Option (Int32) :=
  fX9_isSign_26 h 0
def fX9_isSign (h : ST) (a1 : Int32) : Option (Int32) :=
  if (h 39 0) = 3 then
  bnd (rd 700 (h 1) (h 39 1)) fun v4 =>
    if v4 = a1 then
    fX9_isSign_26 h 1
    else
    fX9_isSign_25 h 
  else
  fX9_isSign_25 h 
set_option maxRecDepth 100000 in
set_option maxHeartbeats 4000000 in
theorem tX9_isSign_26 {p : Program} {l : Launch} {e : Env} {s : State} {m : MethodId} {args : Array Value} {below : List Frame} {meth : Method} {c : Code} {g : GE} {B : Nat} {h : ST}  {q0 : Int32} (F : Fx p s m args meth c cX9_isSign 2 "DustParish$Tokens" 395 g B)
    {y : Int32} (hr : meth.sig.returnType = (some .boolean)) (hf : fX9_isSign_26 h q0 = some y) : V p l e 1 0 s m args below meth c (MQ below (QO KC 395 g (some (.int y)) h) args s 0 (6 * 0) (WA 395 g)) KC 395 g B 2 0 h 26 [] [.int q0] := by
  unfold fX9_isSign_26 at hf
  obtain ⟨z2, e3, hf⟩ := bnd_some hf
  exact v_zret (pc := 26) F hr dX9_isSign_26 (zb_in e3).2 ((zb_in e3).1.symm.trans (Option.some.inj hf)) rfl (Nat.zero_le _)
set_option maxRecDepth 100000 in
set_option maxHeartbeats 4000000 in
theorem tX9_isSign_25 {p : Program} {l : Launch} {e : Env} {s : State} {m : MethodId} {args : Array Value} {below : List Frame} {meth : Method} {c : Code} {g : GE} {B : Nat} {h : ST}  (F : Fx p s m args meth c cX9_isSign 2 "DustParish$Tokens" 395 g B)
    {y : Int32} (hr : meth.sig.returnType = (some .boolean)) (hf : fX9_isSign_25 h  = some y) : V p l e 1 0 s m args below meth c (MQ below (QO KC 395 g (some (.int y)) h) args s 0 (6 * 0) (WA 395 g)) KC 395 g B 2 0 h 25 [] [] := by
  unfold fX9_isSign_25 at hf
  refine v_iconst (pc := 25) (v := 0) F dX9_isSign_25 ic_0 ?_
  exact tX9_isSign_26 F hr hf
set_option maxRecDepth 100000 in
set_option maxHeartbeats 4000000 in
theorem kX9_isSign {l : Launch} {g : GE} {B : Nat} {h : ST} {a1 : Int32} {y : Int32} (hf : fX9_isSign h a1 = some y) : CT l yX9_isSign cX9_isSign 2 (some .boolean) 1 KC 395 g B [.ref (gA g 39), .int a1] h (some (.int y)) h := by
  refine CT.of pn_X9 (Nat.le_of_ble_eq_true rfl) ?_
  intro p e s m below meth c hr F
  have F : Fx p s m _ meth c cX9_isSign 2 "DustParish$Tokens" 395 g B := F
  refine V_lv (lv' := [(0, .ref (gA g 39)), (1, .int a1)]) rfl ?_
  unfold fX9_isSign at hf
  refine v_aload_n (pc := 0) (j := 0) F dX9_isSign_0 rfl rfl ?_
  refine v_ifl (pc := 1) F fl_X9_9 dX9_isSign_1 kc_39.1 kc_39.2 fv_8_0 ?_
  refine v_iconst (pc := 4) (v := 3) F dX9_isSign_4 ic_3 ?_
  refine v_icmp_ne (pc := 5) (tgt := 25) F dX9_isSign_5 (by decide) (fun c1 => ?_) (fun c1 => ?_)
  · have hf := ite_f hf c1
    refine V.sub (lv' := []) [] rfl ?_
    exact tX9_isSign_25 F hr hf
  · have hf := ite_t hf c1
    refine v_aload_n (pc := 8) (j := 0) F dX9_isSign_8 rfl rfl ?_
    refine v_ifl (pc := 9) F fl_X9_29 dX9_isSign_9 kc_39.1 kc_39.2 fv_8_6 ?_
    refine v_aload_n (pc := 12) (j := 0) F dX9_isSign_12 rfl rfl ?_
    refine v_ifl (pc := 13) F fl_X9_13 dX9_isSign_13 kc_39.1 kc_39.2 fv_8_1 ?_
    obtain ⟨v4, e5, hf⟩ := bnd_some hf
    refine v_bald (pc := 16) F dX9_isSign_16 kc_1.1 kc_1.2 e5 ?_
    refine v_iload_n (pc := 17) (j := 1) F dX9_isSign_17 rfl rfl ?_
    refine v_icmp_ne (pc := 18) (tgt := 25) F dX9_isSign_18 (by decide) (fun c6 => ?_) (fun c6 => ?_)
    · have hf := ite_f hf c6
      refine V.sub (lv' := []) [] rfl ?_
      exact tX9_isSign_25 F hr hf
    · have hf := ite_t hf c6
      refine v_iconst (pc := 21) (v := 1) F dX9_isSign_21 ic_1 ?_
      refine v_goto (pc := 22) (tgt := 26) F dX9_isSign_22 (by decide) ?_
      refine V.sub (lv' := []) [] rfl ?_
      exact tX9_isSign_26 F hr hf
def fX6_strengthOf (h : ST) (a1 : Int32) : Option (Int32) :=
  if a1 = (-15) then
  some 1
  else
  if a1 = (-14) then
  some 2
  else
  if a1 = (-13) then
  some 3
  else
  if a1 = (-12) then
  some 4
  else
  if a1 = (-11) then
  some 4
  else
  if a1 = (-10) then
  some 6
  else
  if a1 = (-9) then
  some 6
  else
  if a1 = (-8) then
  some 5
  else
  if a1 = (-7) then
  some 5
  else
  some 0
set_option maxRecDepth 100000 in
set_option maxHeartbeats 4000000 in
theorem kX6_strengthOf {l : Launch} {g : GE} {B : Nat} {h : ST} {a1 : Int32} {y : Int32} (hf : fX6_strengthOf h a1 = some y) : CT l yX6_strengthOf cX6_strengthOf 1 (some .int) 1 KC 395 g B [.int a1] h (some (.int y)) h := by
  refine CT.of pn_X6 (Nat.le_of_ble_eq_true rfl) ?_
  intro p e s m below meth c hr F
  have F : Fx p s m _ meth c cX6_strengthOf 1 "DustParish$RuleReader" 395 g B := F
  refine V_lv (lv' := [(0, .int a1)]) rfl ?_
  unfold fX6_strengthOf at hf
  refine v_iload_n (pc := 0) (j := 0) F dX6_strengthOf_0 rfl rfl ?_
  by_cases c1 : a1 = (-15)
  · have hf := ite_t hf c1
    refine v_tabIn (pc := 1) (off := 51) (tgt := 52) F dX6_strengthOf_1 (by rw [c1]; decide) (by rw [c1]; decide) (by rw [c1]; rfl) (by decide) ?_
    refine v_iconst (pc := 52) (v := 1) F dX6_strengthOf_52 ic_1 ?_
    exact v_iret (pc := 53) F hr dX6_strengthOf_53 (Option.some.inj hf) rfl (Nat.zero_le _)
  have hf := ite_f hf c1
  by_cases c2 : a1 = (-14)
  · have hf := ite_t hf c2
    refine v_tabIn (pc := 1) (off := 53) (tgt := 54) F dX6_strengthOf_1 (by rw [c2]; decide) (by rw [c2]; decide) (by rw [c2]; rfl) (by decide) ?_
    refine v_iconst (pc := 54) (v := 2) F dX6_strengthOf_54 ic_2 ?_
    exact v_iret (pc := 55) F hr dX6_strengthOf_55 (Option.some.inj hf) rfl (Nat.zero_le _)
  have hf := ite_f hf c2
  by_cases c3 : a1 = (-13)
  · have hf := ite_t hf c3
    refine v_tabIn (pc := 1) (off := 55) (tgt := 56) F dX6_strengthOf_1 (by rw [c3]; decide) (by rw [c3]; decide) (by rw [c3]; rfl) (by decide) ?_
    refine v_iconst (pc := 56) (v := 3) F dX6_strengthOf_56 ic_3 ?_
    exact v_iret (pc := 57) F hr dX6_strengthOf_57 (Option.some.inj hf) rfl (Nat.zero_le _)
  have hf := ite_f hf c3
  by_cases c4 : a1 = (-12)
  · have hf := ite_t hf c4
    refine v_tabIn (pc := 1) (off := 57) (tgt := 58) F dX6_strengthOf_1 (by rw [c4]; decide) (by rw [c4]; decide) (by rw [c4]; rfl) (by decide) ?_
    refine v_iconst (pc := 58) (v := 4) F dX6_strengthOf_58 ic_4 ?_
    exact v_iret (pc := 59) F hr dX6_strengthOf_59 (Option.some.inj hf) rfl (Nat.zero_le _)
  have hf := ite_f hf c4
  by_cases c5 : a1 = (-11)
  · have hf := ite_t hf c5
    refine v_tabIn (pc := 1) (off := 57) (tgt := 58) F dX6_strengthOf_1 (by rw [c5]; decide) (by rw [c5]; decide) (by rw [c5]; rfl) (by decide) ?_
    refine v_iconst (pc := 58) (v := 4) F dX6_strengthOf_58 ic_4 ?_
    exact v_iret (pc := 59) F hr dX6_strengthOf_59 (Option.some.inj hf) rfl (Nat.zero_le _)
  have hf := ite_f hf c5
  by_cases c6 : a1 = (-10)
  · have hf := ite_t hf c6
    refine v_tabIn (pc := 1) (off := 61) (tgt := 62) F dX6_strengthOf_1 (by rw [c6]; decide) (by rw [c6]; decide) (by rw [c6]; rfl) (by decide) ?_
    refine v_bipush (pc := 62) (v := 6) F dX6_strengthOf_62 bp_6 ?_
    exact v_iret (pc := 64) F hr dX6_strengthOf_64 (Option.some.inj hf) rfl (Nat.zero_le _)
  have hf := ite_f hf c6
  by_cases c7 : a1 = (-9)
  · have hf := ite_t hf c7
    refine v_tabIn (pc := 1) (off := 61) (tgt := 62) F dX6_strengthOf_1 (by rw [c7]; decide) (by rw [c7]; decide) (by rw [c7]; rfl) (by decide) ?_
    refine v_bipush (pc := 62) (v := 6) F dX6_strengthOf_62 bp_6 ?_
    exact v_iret (pc := 64) F hr dX6_strengthOf_64 (Option.some.inj hf) rfl (Nat.zero_le _)
  have hf := ite_f hf c7
  by_cases c8 : a1 = (-8)
  · have hf := ite_t hf c8
    refine v_tabIn (pc := 1) (off := 59) (tgt := 60) F dX6_strengthOf_1 (by rw [c8]; decide) (by rw [c8]; decide) (by rw [c8]; rfl) (by decide) ?_
    refine v_iconst (pc := 60) (v := 5) F dX6_strengthOf_60 ic_5 ?_
    exact v_iret (pc := 61) F hr dX6_strengthOf_61 (Option.some.inj hf) rfl (Nat.zero_le _)
  have hf := ite_f hf c8
  by_cases c9 : a1 = (-7)
  · have hf := ite_t hf c9
    refine v_tabIn (pc := 1) (off := 59) (tgt := 60) F dX6_strengthOf_1 (by rw [c9]; decide) (by rw [c9]; decide) (by rw [c9]; rfl) (by decide) ?_
    refine v_iconst (pc := 60) (v := 5) F dX6_strengthOf_60 ic_5 ?_
    exact v_iret (pc := 61) F hr dX6_strengthOf_61 (Option.some.inj hf) rfl (Nat.zero_le _)
  have hf := ite_f hf c9
  have n_c1 : ¬ (a1).toInt = -15 := lv_neT c1 rfl
  have n_c2 : ¬ (a1).toInt = -14 := lv_neT c2 rfl
  have n_c3 : ¬ (a1).toInt = -13 := lv_neT c3 rfl
  have n_c4 : ¬ (a1).toInt = -12 := lv_neT c4 rfl
  have n_c5 : ¬ (a1).toInt = -11 := lv_neT c5 rfl
  have n_c6 : ¬ (a1).toInt = -10 := lv_neT c6 rfl
  have n_c7 : ¬ (a1).toInt = -9 := lv_neT c7 rfl
  have n_c8 : ¬ (a1).toInt = -8 := lv_neT c8 rfl
  have n_c9 : ¬ (a1).toInt = -7 := lv_neT c9 rfl
  refine v_tabOut (pc := 1) (tgt := 65) F dX6_strengthOf_1 (by omega) (by decide) ?_
  refine v_iconst (pc := 65) (v := 0) F dX6_strengthOf_65 ic_0 ?_
  exact v_iret (pc := 66) F hr dX6_strengthOf_66 (Option.some.inj hf) rfl (Nat.zero_le _)
def fX5_put_30 (h : ST)  : Option (ST) :=
  some h
def fX5_put (h : ST) (o : Nat) (a1 : Int32) : Option (ST) :=
  if 700 ≤ (h o 1) then
  fX5_put_30 h 
  else
  bnd (wr 700 h (o + 2) (h o 1) a1) fun h2 =>
    bnd (pw h2 o 1 ((h2 o 1) + 1)) fun h4 =>
    fX5_put_30 h4 
set_option maxRecDepth 100000 in
set_option maxHeartbeats 4000000 in
theorem tX5_put_30 {p : Program} {l : Launch} {e : Env} {s : State} {m : MethodId} {args : Array Value} {below : List Frame} {meth : Method} {c : Code} {g : GE} {B : Nat} {h : ST}  (F : Fx p s m args meth c cX5_put 2 "DustParish$Rule" 395 g B)
    {y : ST} (hr : meth.sig.returnType = none) (hf : fX5_put_30 h  = some y) : V p l e 1 0 s m args below meth c (MQ below (QO KC 395 g none y) args s 0 (6 * 0) (WA 395 g)) KC 395 g B 2 0 h 30 [] [] := by
  unfold fX5_put_30 at hf
  exact v_vret (pc := 30) F hr dX5_put_30 (Option.some.inj hf) (Nat.zero_le _)
set_option maxRecDepth 100000 in
set_option maxHeartbeats 4000000 in
theorem kX5_put {l : Launch} {g : GE} {B : Nat} {h : ST} {o : Nat} (ho_o : o < 395) (hk_o : KC o = (4, 0)) {a1 : Int32} {y : ST} (hf : fX5_put h o a1 = some y) : CT l yX5_put cX5_put 2 none 1 KC 395 g B [.ref (gA g o), .int a1] h none y := by
  refine CT.of pn_X5 (Nat.le_of_ble_eq_true rfl) ?_
  intro p e s m below meth c hr F
  have F : Fx p s m _ meth c cX5_put 2 "DustParish$Rule" 395 g B := F
  refine V_lv (lv' := [(0, .ref (gA g o)), (1, .int a1)]) rfl ?_
  unfold fX5_put at hf
  refine v_aload_n (pc := 0) (j := 0) F dX5_put_0 rfl rfl ?_
  refine v_ifl (pc := 1) F fl_X5_15 dX5_put_1 ho_o hk_o fv_4_1 ?_
  refine v_sipush (pc := 4) (v := 700) F dX5_put_4 sp_700 ?_
  refine v_icmp_ge (pc := 7) (tgt := 30) F dX5_put_7 (by decide) (fun c1 => ?_) (fun c1 => ?_)
  · have hf := ite_t hf c1
    refine V.sub (lv' := []) [] rfl ?_
    exact tX5_put_30 F hr hf
  · have hf := ite_f hf c1
    refine v_aload_n (pc := 10) (j := 0) F dX5_put_10 rfl rfl ?_
    refine v_ifl (pc := 11) F fl_X5_19 dX5_put_11 ho_o hk_o fv_4_2 ?_
    refine v_aload_n (pc := 14) (j := 0) F dX5_put_14 rfl rfl ?_
    refine v_ifl (pc := 15) F fl_X5_15 dX5_put_15 ho_o hk_o fv_4_1 ?_
    refine v_iload_n (pc := 18) (j := 1) F dX5_put_18 rfl rfl ?_
    obtain ⟨h2, e3, hf⟩ := bnd_some hf
    refine v_iast (pc := 19) F dX5_put_19 (ly_4_2 ho_o hk_o).1 (ly_4_2 ho_o hk_o).2 e3 ?_
    refine v_aload_n (pc := 20) (j := 0) F dX5_put_20 rfl rfl ?_
    refine v_dup (pc := 21) F dX5_put_21 rfl ?_
    refine v_ifl (pc := 22) F fl_X5_15 dX5_put_22 ho_o hk_o fv_4_1 ?_
    refine v_iconst (pc := 25) (v := 1) F dX5_put_25 ic_1 ?_
    refine v_iadd (pc := 26) F dX5_put_26 ?_
    obtain ⟨h4, e5, hf⟩ := bnd_some hf
    refine v_pfl (pc := 27) F fl_X5_15 pl_4_1 dX5_put_27 ho_o hk_o fv_4_1 rfl rfl e5 ?_
    refine V.sub (lv' := []) [] rfl ?_
    exact tX5_put_30 F hr hf
def fX6_release_0 (l1 : Int32) (s1 : ST) : Option (ST ⊕ ST) :=
  if (s1 40 1) ≤ 0 then
  some (.inr s1)
  else
  bnd (rd 80 (s1 41) ((s1 40 1) - 1)) fun v2 =>
    bnd (fX6_strengthOf s1 v2) fun r4 =>
    if r4 < l1 then
    some (.inr s1)
    else
    bnd (pw s1 40 1 ((s1 40 1) - 1)) fun h7 =>
      bnd (rf KC 395 4 (h7 40 7)) fun f9 =>
      bnd (rd 80 (h7 41) (h7 40 1)) fun v11 =>
      bnd (fX5_put h7 f9 v11) fun r13 =>
      some (.inl r13)
def fX6_release_54 (h : ST)  : Option (ST) :=
  some h
def fX6_release (h : ST) (a1 : Int32) : Option (ST) :=
  bnd (lp FU (fX6_release_0 a1) h) fun x15 =>
  fX6_release_54 x15 
set_option maxRecDepth 100000 in
set_option maxHeartbeats 4000000 in
theorem tX6_release_0 {p : Program} {l : Launch} {e : Env} {s : State} {m : MethodId} {args : Array Value} {below : List Frame} {meth : Method} {c : Code} {g : GE} {B : Nat}  {l1 : Int32} {Q : State → Prop} {x : ST} {nf : Nat} {s0 : ST} (F : Fx p s m args meth c cX6_release 2 "DustParish$RuleReader" 395 g B) (hX0 : V p l e 2 0 s m args below meth c Q KC 395 g B 2 0 x 54 [] []) (hl : lp nf (fX6_release_0 l1) s0 = some x) : V p l e 2 0 s m args below meth c Q KC 395 g B 2 0 s0 0 [(0, .ref (gA g 40)), (1, .int l1)] [] := by
  refine lp_ind (P := fun s0 => V p l e 2 0 s m args below meth c Q KC 395 g B 2 0 s0 0 [(0, .ref (gA g 40)), (1, .int l1)] []) ?_ nf s0 hl
  intro s1 y hf hk hx
  have hx0 : ∀ v : ST, y = Sum.inr v → V p l e 2 0 s m args below meth c Q KC 395 g B 2 0 v 54 [] [] := fun v e9 => by rw [hx v e9]; exact hX0
  unfold fX6_release_0 at hf
  refine v_aload_n (pc := 0) (j := 0) F dX6_release_0 rfl rfl ?_
  refine v_ifl (pc := 1) F fl_X6_15 dX6_release_1 kc_40.1 kc_40.2 fv_5_1 ?_
  refine v_if_le (pc := 4) (tgt := 54) F dX6_release_4 (by decide) (fun c1 => ?_) (fun c1 => ?_)
  · have hf := ite_t hf c1
    refine V.sub (lv' := []) [] rfl ?_
    exact hx0 s1 (Option.some.inj hf).symm
  · have hf := ite_f hf c1
    refine v_aload_n (pc := 7) (j := 0) F dX6_release_7 rfl rfl ?_
    refine v_ifl (pc := 8) F fl_X6_11 dX6_release_8 kc_40.1 kc_40.2 fv_5_0 ?_
    refine v_aload_n (pc := 11) (j := 0) F dX6_release_11 rfl rfl ?_
    refine v_ifl (pc := 12) F fl_X6_15 dX6_release_12 kc_40.1 kc_40.2 fv_5_1 ?_
    refine v_iconst (pc := 15) (v := 1) F dX6_release_15 ic_1 ?_
    refine v_isub (pc := 16) F dX6_release_16 ?_
    obtain ⟨v2, e3, hf⟩ := bnd_some hf
    refine v_iald (pc := 17) F dX6_release_17 kc_41.1 kc_41.2 e3 ?_
    obtain ⟨r4, e5, hf⟩ := bnd_some hf
    refine v_callSi (pc := 18) (As := [.int v2]) F cl_X6_111 dX6_release_18 (kX6_strengthOf e5) rfl rfl (Nat.le_of_ble_eq_true rfl) (by decide) (Nat.zero_le _) ?_
    refine v_iload_n (pc := 21) (j := 1) F dX6_release_21 rfl rfl ?_
    refine v_icmp_lt (pc := 22) (tgt := 54) F dX6_release_22 (by decide) (fun c6 => ?_) (fun c6 => ?_)
    · have hf := ite_t hf c6
      refine V.sub (lv' := []) [] rfl ?_
      exact hx0 s1 (Option.some.inj hf).symm
    · have hf := ite_f hf c6
      refine v_aload_n (pc := 25) (j := 0) F dX6_release_25 rfl rfl ?_
      refine v_dup (pc := 26) F dX6_release_26 rfl ?_
      refine v_ifl (pc := 27) F fl_X6_15 dX6_release_27 kc_40.1 kc_40.2 fv_5_1 ?_
      refine v_iconst (pc := 30) (v := 1) F dX6_release_30 ic_1 ?_
      refine v_isub (pc := 31) F dX6_release_31 ?_
      obtain ⟨h7, e8, hf⟩ := bnd_some hf
      refine v_pfl (pc := 32) F fl_X6_15 pl_5_1 dX6_release_32 kc_40.1 kc_40.2 fv_5_1 rfl rfl e8 ?_
      refine v_aload_n (pc := 35) (j := 0) F dX6_release_35 rfl rfl ?_
      obtain ⟨f9, e10, hf⟩ := bnd_some hf
      obtain ⟨ho_f9, hk_f9, e10⟩ := rf_in e10
      refine v_ifl (pc := 36) F fl_X6_36 dX6_release_36 kc_40.1 kc_40.2 (fv_5_7 e10) ?_
      refine v_aload_n (pc := 39) (j := 0) F dX6_release_39 rfl rfl ?_
      refine v_ifl (pc := 40) F fl_X6_11 dX6_release_40 kc_40.1 kc_40.2 fv_5_0 ?_
      refine v_aload_n (pc := 43) (j := 0) F dX6_release_43 rfl rfl ?_
      refine v_ifl (pc := 44) F fl_X6_15 dX6_release_44 kc_40.1 kc_40.2 fv_5_1 ?_
      obtain ⟨v11, e12, hf⟩ := bnd_some hf
      refine v_iald (pc := 47) F dX6_release_47 kc_41.1 kc_41.2 e12 ?_
      obtain ⟨r13, e14, hf⟩ := bnd_some hf
      refine v_callVv (pc := 48) (As := [.int v11]) F cl_X6_84 dX6_release_48 (kX5_put ho_f9 hk_f9 e14) ho_f9 hk_f9 rc_4 rfl rfl (Nat.le_of_ble_eq_true rfl) (by decide) (Nat.zero_le _) ?_
      refine v_goto (pc := 51) (tgt := 0) F dX6_release_51 (by decide) ?_
      exact hk r13 (Option.some.inj hf).symm
set_option maxRecDepth 100000 in
set_option maxHeartbeats 4000000 in
theorem tX6_release_54 {p : Program} {l : Launch} {e : Env} {s : State} {m : MethodId} {args : Array Value} {below : List Frame} {meth : Method} {c : Code} {g : GE} {B : Nat} {h : ST}  (F : Fx p s m args meth c cX6_release 2 "DustParish$RuleReader" 395 g B)
    {y : ST} (hr : meth.sig.returnType = none) (hf : fX6_release_54 h  = some y) : V p l e 2 0 s m args below meth c (MQ below (QO KC 395 g none y) args s 0 (6 * 0) (WA 395 g)) KC 395 g B 2 0 h 54 [] [] := by
  unfold fX6_release_54 at hf
  exact v_vret (pc := 54) F hr dX6_release_54 (Option.some.inj hf) (Nat.zero_le _)
set_option maxRecDepth 100000 in
set_option maxHeartbeats 4000000 in
theorem kX6_release {l : Launch} {g : GE} {B : Nat} {h : ST} {a1 : Int32} {y : ST} (hf : fX6_release h a1 = some y) : CT l yX6_release cX6_release 2 none 2 KC 395 g B [.ref (gA g 40), .int a1] h none y := by
  refine CT.of pn_X6 (Nat.le_of_ble_eq_true rfl) ?_
  intro p e s m below meth c hr F
  have F : Fx p s m _ meth c cX6_release 2 "DustParish$RuleReader" 395 g B := F
  refine V_lv (lv' := [(0, .ref (gA g 40)), (1, .int a1)]) rfl ?_
  unfold fX6_release at hf
  obtain ⟨x15, e16, hf⟩ := bnd_some hf
  refine tX6_release_0 (s0 := h) F ?_ e16
  exact tX6_release_54 F hr hf
def fX6_hold (h : ST) (a1 : Int32) : Option (Int32 × ST) :=
  if (h 40 1) < 80 then
  bnd (wr 80 h 41 (h 40 1) a1) fun h2 =>
    bnd (pw h2 40 1 ((h2 40 1) + 1)) fun h4 =>
    some (0, h4)
  else
  some (2, h)
set_option maxRecDepth 100000 in
set_option maxHeartbeats 4000000 in
theorem kX6_hold {l : Launch} {g : GE} {B : Nat} {h : ST} {a1 : Int32} {y : Int32 × ST} (hf : fX6_hold h a1 = some y) : CT l yX6_hold cX6_hold 2 (some .int) 1 KC 395 g B [.ref (gA g 40), .int a1] h (some (.int y.1)) y.2 := by
  refine CT.of pn_X6 (Nat.le_of_ble_eq_true rfl) ?_
  intro p e s m below meth c hr F
  have F : Fx p s m _ meth c cX6_hold 2 "DustParish$RuleReader" 395 g B := F
  refine V_lv (lv' := [(0, .ref (gA g 40)), (1, .int a1)]) rfl ?_
  unfold fX6_hold at hf
  refine v_aload_n (pc := 0) (j := 0) F dX6_hold_0 rfl rfl ?_
  refine v_ifl (pc := 1) F fl_X6_15 dX6_hold_1 kc_40.1 kc_40.2 fv_5_1 ?_
  refine v_bipush (pc := 4) (v := 80) F dX6_hold_4 bp_80 ?_
  refine v_icmp_lt (pc := 6) (tgt := 11) F dX6_hold_6 (by decide) (fun c1 => ?_) (fun c1 => ?_)
  · have hf := ite_t hf c1
    refine v_aload_n (pc := 11) (j := 0) F dX6_hold_11 rfl rfl ?_
    refine v_ifl (pc := 12) F fl_X6_11 dX6_hold_12 kc_40.1 kc_40.2 fv_5_0 ?_
    refine v_aload_n (pc := 15) (j := 0) F dX6_hold_15 rfl rfl ?_
    refine v_ifl (pc := 16) F fl_X6_15 dX6_hold_16 kc_40.1 kc_40.2 fv_5_1 ?_
    refine v_iload_n (pc := 19) (j := 1) F dX6_hold_19 rfl rfl ?_
    obtain ⟨h2, e3, hf⟩ := bnd_some hf
    refine v_iast (pc := 20) F dX6_hold_20 kc_41.1 kc_41.2 e3 ?_
    refine v_aload_n (pc := 21) (j := 0) F dX6_hold_21 rfl rfl ?_
    refine v_dup (pc := 22) F dX6_hold_22 rfl ?_
    refine v_ifl (pc := 23) F fl_X6_15 dX6_hold_23 kc_40.1 kc_40.2 fv_5_1 ?_
    refine v_iconst (pc := 26) (v := 1) F dX6_hold_26 ic_1 ?_
    refine v_iadd (pc := 27) F dX6_hold_27 ?_
    obtain ⟨h4, e5, hf⟩ := bnd_some hf
    refine v_pfl (pc := 28) F fl_X6_15 pl_5_1 dX6_hold_28 kc_40.1 kc_40.2 fv_5_1 rfl rfl e5 ?_
    refine v_iconst (pc := 31) (v := 0) F dX6_hold_31 ic_0 ?_
    exact v_iret (pc := 32) F hr dX6_hold_32 (some_fst hf) (some_snd hf) (Nat.zero_le _)
  · have hf := ite_f hf c1
    refine v_iconst (pc := 9) (v := 2) F dX6_hold_9 ic_2 ?_
    exact v_iret (pc := 10) F hr dX6_hold_10 (some_fst hf) (some_snd hf) (Nat.zero_le _)
def fX6_valueAtHand_92 (h : ST) (q0 : Int32) : Option (Int32) :=
  some q0
def fX6_valueAtHand (h : ST) : Option (Int32) :=
  bnd (fX9_isWord h 12) fun r1 =>
  if r1 = 0 then
  bnd (fX9_isWord h 13) fun r4 =>
    if r4 = 0 then
    bnd (fX9_isWord h 14) fun r7 =>
      if r7 = 0 then
      bnd (fX9_isWord h 15) fun r10 =>
        if r10 = 0 then
        bnd (fX9_isWord h 16) fun r13 =>
          if r13 = 0 then
          bnd (fX9_isWord h 17) fun r16 =>
            if r16 = 0 then
            fX6_valueAtHand_92 h 0
            else
            fX6_valueAtHand_92 h (-6)
          else
          some (-5)
        else
        some (-4)
      else
      some (-3)
    else
    some (-2)
  else
  some (-1)
set_option maxRecDepth 100000 in
set_option maxHeartbeats 4000000 in
theorem tX6_valueAtHand_92 {p : Program} {l : Launch} {e : Env} {s : State} {m : MethodId} {args : Array Value} {below : List Frame} {meth : Method} {c : Code} {g : GE} {B : Nat} {h : ST}  {q0 : Int32} (F : Fx p s m args meth c cX6_valueAtHand 1 "DustParish$RuleReader" 395 g B)
    {y : Int32} (hr : meth.sig.returnType = (some .int)) (hf : fX6_valueAtHand_92 h q0 = some y) : V p l e 13 0 s m args below meth c (MQ below (QO KC 395 g (some (.int y)) h) args s 0 (6 * 0) (WA 395 g)) KC 395 g B 1 0 h 92 [] [.int q0] := by
  unfold fX6_valueAtHand_92 at hf
  exact v_iret (pc := 92) F hr dX6_valueAtHand_92 (Option.some.inj hf) rfl (Nat.zero_le _)
set_option maxRecDepth 100000 in
set_option maxHeartbeats 4000000 in
theorem kX6_valueAtHand {l : Launch} {g : GE} {B : Nat} {h : ST} {y : Int32} (hf : fX6_valueAtHand h = some y) : CT l yX6_valueAtHand cX6_valueAtHand 1 (some .int) 13 KC 395 g B [.ref (gA g 40)] h (some (.int y)) h := by
  refine CT.of pn_X6 (Nat.le_of_ble_eq_true rfl) ?_
  intro p e s m below meth c hr F
  have F : Fx p s m _ meth c cX6_valueAtHand 1 "DustParish$RuleReader" 395 g B := F
  refine V_lv (lv' := [(0, .ref (gA g 40))]) rfl ?_
  unfold fX6_valueAtHand at hf
  refine v_aload_n (pc := 0) (j := 0) F dX6_valueAtHand_0 rfl rfl ?_
  refine v_ifl (pc := 1) F fl_X6_32 dX6_valueAtHand_1 kc_40.1 kc_40.2 fv_5_6 ?_
  refine v_ldcS (pc := 4) (j := 12) (tx := "dust") F (by decide) dX6_valueAtHand_4 ?_
  obtain ⟨r1, e2, hf⟩ := bnd_some hf
  refine v_callVi (pc := 6) (As := [.ref (gK g 12)]) F cl_X6_75 dX6_valueAtHand_6 (kX9_isWord (by decide) e2) kc_39.1 kc_39.2 rc_8 rfl rfl (Nat.le_of_ble_eq_true rfl) (by decide) (Nat.zero_le _) ?_
  refine v_if_eq (pc := 9) (tgt := 14) F dX6_valueAtHand_9 (by decide) (fun c3 => ?_) (fun c3 => ?_)
  · have hf := ite_t hf c3
    refine v_aload_n (pc := 14) (j := 0) F dX6_valueAtHand_14 rfl rfl ?_
    refine v_ifl (pc := 15) F fl_X6_32 dX6_valueAtHand_15 kc_40.1 kc_40.2 fv_5_6 ?_
    refine v_ldcS (pc := 18) (j := 13) (tx := "kind") F (by decide) dX6_valueAtHand_18 ?_
    obtain ⟨r4, e5, hf⟩ := bnd_some hf
    refine v_callVi (pc := 20) (As := [.ref (gK g 13)]) F cl_X6_75 dX6_valueAtHand_20 (kX9_isWord (by decide) e5) kc_39.1 kc_39.2 rc_8 rfl rfl (Nat.le_of_ble_eq_true rfl) (by decide) (Nat.zero_le _) ?_
    refine v_if_eq (pc := 23) (tgt := 29) F dX6_valueAtHand_23 (by decide) (fun c6 => ?_) (fun c6 => ?_)
    · have hf := ite_t hf c6
      refine v_aload_n (pc := 29) (j := 0) F dX6_valueAtHand_29 rfl rfl ?_
      refine v_ifl (pc := 30) F fl_X6_32 dX6_valueAtHand_30 kc_40.1 kc_40.2 fv_5_6 ?_
      refine v_ldcS (pc := 33) (j := 14) (tx := "owner") F (by decide) dX6_valueAtHand_33 ?_
      obtain ⟨r7, e8, hf⟩ := bnd_some hf
      refine v_callVi (pc := 35) (As := [.ref (gK g 14)]) F cl_X6_75 dX6_valueAtHand_35 (kX9_isWord (by decide) e8) kc_39.1 kc_39.2 rc_8 rfl rfl (Nat.le_of_ble_eq_true rfl) (by decide) (Nat.zero_le _) ?_
      refine v_if_eq (pc := 38) (tgt := 44) F dX6_valueAtHand_38 (by decide) (fun c9 => ?_) (fun c9 => ?_)
      · have hf := ite_t hf c9
        refine v_aload_n (pc := 44) (j := 0) F dX6_valueAtHand_44 rfl rfl ?_
        refine v_ifl (pc := 45) F fl_X6_32 dX6_valueAtHand_45 kc_40.1 kc_40.2 fv_5_6 ?_
        refine v_ldcS (pc := 48) (j := 15) (tx := "day") F (by decide) dX6_valueAtHand_48 ?_
        obtain ⟨r10, e11, hf⟩ := bnd_some hf
        refine v_callVi (pc := 50) (As := [.ref (gK g 15)]) F cl_X6_75 dX6_valueAtHand_50 (kX9_isWord (by decide) e11) kc_39.1 kc_39.2 rc_8 rfl rfl (Nat.le_of_ble_eq_true rfl) (by decide) (Nat.zero_le _) ?_
        refine v_if_eq (pc := 53) (tgt := 59) F dX6_valueAtHand_53 (by decide) (fun c12 => ?_) (fun c12 => ?_)
        · have hf := ite_t hf c12
          refine v_aload_n (pc := 59) (j := 0) F dX6_valueAtHand_59 rfl rfl ?_
          refine v_ifl (pc := 60) F fl_X6_32 dX6_valueAtHand_60 kc_40.1 kc_40.2 fv_5_6 ?_
          refine v_ldcS (pc := 63) (j := 16) (tx := "rich") F (by decide) dX6_valueAtHand_63 ?_
          obtain ⟨r13, e14, hf⟩ := bnd_some hf
          refine v_callVi (pc := 65) (As := [.ref (gK g 16)]) F cl_X6_75 dX6_valueAtHand_65 (kX9_isWord (by decide) e14) kc_39.1 kc_39.2 rc_8 rfl rfl (Nat.le_of_ble_eq_true rfl) (by decide) (Nat.zero_le _) ?_
          refine v_if_eq (pc := 68) (tgt := 74) F dX6_valueAtHand_68 (by decide) (fun c15 => ?_) (fun c15 => ?_)
          · have hf := ite_t hf c15
            refine v_aload_n (pc := 74) (j := 0) F dX6_valueAtHand_74 rfl rfl ?_
            refine v_ifl (pc := 75) F fl_X6_32 dX6_valueAtHand_75 kc_40.1 kc_40.2 fv_5_6 ?_
            refine v_ldcS (pc := 78) (j := 17) (tx := "brought") F (by decide) dX6_valueAtHand_78 ?_
            obtain ⟨r16, e17, hf⟩ := bnd_some hf
            refine v_callVi (pc := 80) (As := [.ref (gK g 17)]) F cl_X6_75 dX6_valueAtHand_80 (kX9_isWord (by decide) e17) kc_39.1 kc_39.2 rc_8 rfl rfl (Nat.le_of_ble_eq_true rfl) (by decide) (Nat.zero_le _) ?_
            refine v_if_eq (pc := 83) (tgt := 91) F dX6_valueAtHand_83 (by decide) (fun c18 => ?_) (fun c18 => ?_)
            · have hf := ite_t hf c18
              refine v_iconst (pc := 91) (v := 0) F dX6_valueAtHand_91 ic_0 ?_
              refine V.sub (lv' := []) [] rfl ?_
              exact tX6_valueAtHand_92 F hr hf
            · have hf := ite_f hf c18
              refine v_bipush (pc := 86) (v := (-6)) F dX6_valueAtHand_86 bp_m6 ?_
              refine v_goto (pc := 88) (tgt := 92) F dX6_valueAtHand_88 (by decide) ?_
              refine V.sub (lv' := []) [] rfl ?_
              exact tX6_valueAtHand_92 F hr hf
          · have hf := ite_f hf c15
            refine v_bipush (pc := 71) (v := (-5)) F dX6_valueAtHand_71 bp_m5 ?_
            exact v_iret (pc := 73) F hr dX6_valueAtHand_73 (Option.some.inj hf) rfl (Nat.zero_le _)
        · have hf := ite_f hf c12
          refine v_bipush (pc := 56) (v := (-4)) F dX6_valueAtHand_56 bp_m4 ?_
          exact v_iret (pc := 58) F hr dX6_valueAtHand_58 (Option.some.inj hf) rfl (Nat.zero_le _)
      · have hf := ite_f hf c9
        refine v_bipush (pc := 41) (v := (-3)) F dX6_valueAtHand_41 bp_m3 ?_
        exact v_iret (pc := 43) F hr dX6_valueAtHand_43 (Option.some.inj hf) rfl (Nat.zero_le _)
    · have hf := ite_f hf c6
      refine v_bipush (pc := 26) (v := (-2)) F dX6_valueAtHand_26 bp_m2 ?_
      exact v_iret (pc := 28) F hr dX6_valueAtHand_28 (Option.some.inj hf) rfl (Nat.zero_le _)
  · have hf := ite_f hf c3
    refine v_iconst (pc := 12) (v := (-1)) F dX6_valueAtHand_12 ic_m1 ?_
    exact v_iret (pc := 13) F hr dX6_valueAtHand_13 (Option.some.inj hf) rfl (Nat.zero_le _)
def fX6_readPart_190 (h : ST) (q0 : Int32) : Option (Int32 × ST) :=
  some (q0, h)
def fX6_readPart_167 (h : ST) (q0 : Int32) : Option (Int32 × ST) :=
  some (q0, h)
def fX6_readPart_122 (h : ST)  : Option (Int32 × ST) :=
  bnd (pw h 40 4 0) fun h7 =>
  if (h7 39 0) = 2 then
  bnd (rf KC 395 4 (h7 40 7)) fun f17 =>
    bnd (fX5_put h7 f17 (h7 39 2)) fun r19 =>
    if (r19 39 3) = 0 then
    fX6_readPart_167 r19 0
    else
    fX6_readPart_167 r19 2
  else
  bnd (fX6_valueAtHand h7) fun r10 =>
    bnd (rf KC 395 4 (h7 40 7)) fun f12 =>
    bnd (fX5_put h7 f12 r10) fun r14 =>
    if r10 = 0 then
    fX6_readPart_190 r14 3
    else
    fX6_readPart_190 r14 0
def fX6_readPart_121 (h : ST) (q0 : Int32) : Option (Int32 × ST) :=
  some (q0, h)
def fX6_readPart_38 (h : ST) (l1 : Int32) : Option (Int32 × ST) :=
  if (h 40 2) < 6 then
  if l1 = 0 then
    if (h 40 5) = 0 then
      fX6_readPart_122 h 
      else
      bnd (fX9_isWord h 11) fun r22 =>
        if r22 = 0 then
        fX6_readPart_122 h 
        else
        bnd (pw h 40 3 ((h 40 3) + 1)) fun h25 =>
          if (h25 40 3) ≤ 6 then
          bnd (fX6_hold h25 (-13)) fun r28 =>
            fX6_readPart_121 r28.2 r28.1
          else
          fX6_readPart_121 h25 2
    else
    bnd (pw h 40 2 ((h 40 2) + 1)) fun h30 =>
      bnd (fX6_wantNot h30) fun r32 =>
      bnd (fX6_hold r32 0) fun r34 =>
      some (r34.1, r34.2)
  else
  some (2, h)
def fX6_readPart (h : ST) : Option (Int32 × ST) :=
  bnd (fX9_isSign h 40) fun r1 =>
  if r1 = 0 then
  if (h 39 0) = 1 then
    fX6_readPart_38 h r1
    else
    if (h 39 0) = 2 then
      fX6_readPart_38 h r1
      else
      some (1, h)
  else
  fX6_readPart_38 h r1
set_option maxRecDepth 100000 in
set_option maxHeartbeats 4000000 in
theorem tX6_readPart_190 {p : Program} {l : Launch} {e : Env} {s : State} {m : MethodId} {args : Array Value} {below : List Frame} {meth : Method} {c : Code} {g : GE} {B : Nat} {h : ST}  {q0 : Int32} (F : Fx p s m args meth c cX6_readPart 3 "DustParish$RuleReader" 395 g B)
    {y : Int32 × ST} (hr : meth.sig.returnType = (some .int)) (hf : fX6_readPart_190 h q0 = some y) : V p l e 14 0 s m args below meth c (MQ below (QO KC 395 g (some (.int y.1)) y.2) args s 0 (6 * 0) (WA 395 g)) KC 395 g B 3 0 h 190 [] [.int q0] := by
  unfold fX6_readPart_190 at hf
  exact v_iret (pc := 190) F hr dX6_readPart_190 (some_fst hf) (some_snd hf) (Nat.zero_le _)
set_option maxRecDepth 100000 in
set_option maxHeartbeats 4000000 in
theorem tX6_readPart_167 {p : Program} {l : Launch} {e : Env} {s : State} {m : MethodId} {args : Array Value} {below : List Frame} {meth : Method} {c : Code} {g : GE} {B : Nat} {h : ST}  {q0 : Int32} (F : Fx p s m args meth c cX6_readPart 3 "DustParish$RuleReader" 395 g B)
    {y : Int32 × ST} (hr : meth.sig.returnType = (some .int)) (hf : fX6_readPart_167 h q0 = some y) : V p l e 14 0 s m args below meth c (MQ below (QO KC 395 g (some (.int y.1)) y.2) args s 0 (6 * 0) (WA 395 g)) KC 395 g B 3 0 h 167 [] [.int q0] := by
  unfold fX6_readPart_167 at hf
  exact v_iret (pc := 167) F hr dX6_readPart_167 (some_fst hf) (some_snd hf) (Nat.zero_le _)
set_option maxRecDepth 100000 in
set_option maxHeartbeats 4000000 in
theorem tX6_readPart_122 {p : Program} {l : Launch} {e : Env} {s : State} {m : MethodId} {args : Array Value} {below : List Frame} {meth : Method} {c : Code} {g : GE} {B : Nat} {h : ST}  (F : Fx p s m args meth c cX6_readPart 3 "DustParish$RuleReader" 395 g B)
    {y : Int32 × ST} (hr : meth.sig.returnType = (some .int)) (hf : fX6_readPart_122 h  = some y) : V p l e 14 0 s m args below meth c (MQ below (QO KC 395 g (some (.int y.1)) y.2) args s 0 (6 * 0) (WA 395 g)) KC 395 g B 3 0 h 122 [(0, .ref (gA g 40))] [] := by
  unfold fX6_readPart_122 at hf
  refine v_aload_n (pc := 122) (j := 0) F dX6_readPart_122 rfl rfl ?_
  refine v_iconst (pc := 123) (v := 0) F dX6_readPart_123 ic_0 ?_
  obtain ⟨h7, e8, hf⟩ := bnd_some hf
  refine v_pfl (pc := 124) F fl_X6_25 pl_5_4 dX6_readPart_124 kc_40.1 kc_40.2 fv_5_4 rfl rfl e8 ?_
  refine v_aload_n (pc := 127) (j := 0) F dX6_readPart_127 rfl rfl ?_
  refine v_ifl (pc := 128) F fl_X6_32 dX6_readPart_128 kc_40.1 kc_40.2 fv_5_6 ?_
  refine v_ifl (pc := 131) F fl_X6_66 dX6_readPart_131 kc_39.1 kc_39.2 fv_8_0 ?_
  refine v_iconst (pc := 134) (v := 2) F dX6_readPart_134 ic_2 ?_
  refine v_icmp_ne (pc := 135) (tgt := 168) F dX6_readPart_135 (by decide) (fun c9 => ?_) (fun c9 => ?_)
  · have hf := ite_f hf c9
    refine v_aload_n (pc := 168) (j := 0) F dX6_readPart_168 rfl rfl ?_
    obtain ⟨r10, e11, hf⟩ := bnd_some hf
    refine v_callVi (pc := 169) (As := []) F cl_X6_90 dX6_readPart_169 (kX6_valueAtHand e11) kc_40.1 kc_40.2 rc_5 rfl rfl (Nat.le_of_ble_eq_true rfl) (by decide) (Nat.zero_le _) ?_
    refine v_istore_n (pc := 172) (lv' := [(0, .ref (gA g 40)), (2, .int r10)]) F dX6_readPart_172 rfl (by decide) rfl ?_
    refine v_aload_n (pc := 173) (j := 0) F dX6_readPart_173 rfl rfl ?_
    obtain ⟨f12, e13, hf⟩ := bnd_some hf
    obtain ⟨ho_f12, hk_f12, e13⟩ := rf_in e13
    refine v_ifl (pc := 174) F fl_X6_36 dX6_readPart_174 kc_40.1 kc_40.2 (fv_5_7 e13) ?_
    refine v_iload_n (pc := 177) (j := 1) F dX6_readPart_177 rfl rfl ?_
    obtain ⟨r14, e15, hf⟩ := bnd_some hf
    refine v_callVv (pc := 178) (As := [.int r10]) F cl_X6_84 dX6_readPart_178 (kX5_put ho_f12 hk_f12 e15) ho_f12 hk_f12 rc_4 rfl rfl (Nat.le_of_ble_eq_true rfl) (by decide) (Nat.zero_le _) ?_
    refine v_iload_n (pc := 181) (j := 1) F dX6_readPart_181 rfl rfl ?_
    refine v_if_ne (pc := 182) (tgt := 189) F dX6_readPart_182 (by decide) (fun c16 => ?_) (fun c16 => ?_)
    · have hf := ite_f hf c16
      refine v_iconst (pc := 189) (v := 0) F dX6_readPart_189 ic_0 ?_
      refine V.sub (lv' := []) [] rfl ?_
      exact tX6_readPart_190 F hr hf
    · have hf := ite_t hf c16
      refine v_iconst (pc := 185) (v := 3) F dX6_readPart_185 ic_3 ?_
      refine v_goto (pc := 186) (tgt := 190) F dX6_readPart_186 (by decide) ?_
      refine V.sub (lv' := []) [] rfl ?_
      exact tX6_readPart_190 F hr hf
  · have hf := ite_t hf c9
    refine v_aload_n (pc := 138) (j := 0) F dX6_readPart_138 rfl rfl ?_
    obtain ⟨f17, e18, hf⟩ := bnd_some hf
    obtain ⟨ho_f17, hk_f17, e18⟩ := rf_in e18
    refine v_ifl (pc := 139) F fl_X6_36 dX6_readPart_139 kc_40.1 kc_40.2 (fv_5_7 e18) ?_
    refine v_aload_n (pc := 142) (j := 0) F dX6_readPart_142 rfl rfl ?_
    refine v_ifl (pc := 143) F fl_X6_32 dX6_readPart_143 kc_40.1 kc_40.2 fv_5_6 ?_
    refine v_ifl (pc := 146) F fl_X6_81 dX6_readPart_146 kc_39.1 kc_39.2 fv_8_2 ?_
    obtain ⟨r19, e20, hf⟩ := bnd_some hf
    refine v_callVv (pc := 149) (As := [.int (h7 39 2)]) F cl_X6_84 dX6_readPart_149 (kX5_put ho_f17 hk_f17 e20) ho_f17 hk_f17 rc_4 rfl rfl (Nat.le_of_ble_eq_true rfl) (by decide) (Nat.zero_le _) ?_
    refine v_aload_n (pc := 152) (j := 0) F dX6_readPart_152 rfl rfl ?_
    refine v_ifl (pc := 153) F fl_X6_32 dX6_readPart_153 kc_40.1 kc_40.2 fv_5_6 ?_
    refine v_ifl (pc := 156) F fl_X6_87 dX6_readPart_156 kc_39.1 kc_39.2 fv_8_3 ?_
    refine v_if_eq (pc := 159) (tgt := 166) F dX6_readPart_159 (by decide) (fun c21 => ?_) (fun c21 => ?_)
    · have hf := ite_t hf c21
      refine v_iconst (pc := 166) (v := 0) F dX6_readPart_166 ic_0 ?_
      refine V.sub (lv' := []) [] rfl ?_
      exact tX6_readPart_167 F hr hf
    · have hf := ite_f hf c21
      refine v_iconst (pc := 162) (v := 2) F dX6_readPart_162 ic_2 ?_
      refine v_goto (pc := 163) (tgt := 167) F dX6_readPart_163 (by decide) ?_
      refine V.sub (lv' := []) [] rfl ?_
      exact tX6_readPart_167 F hr hf
set_option maxRecDepth 100000 in
set_option maxHeartbeats 4000000 in
theorem tX6_readPart_121 {p : Program} {l : Launch} {e : Env} {s : State} {m : MethodId} {args : Array Value} {below : List Frame} {meth : Method} {c : Code} {g : GE} {B : Nat} {h : ST}  {q0 : Int32} (F : Fx p s m args meth c cX6_readPart 3 "DustParish$RuleReader" 395 g B)
    {y : Int32 × ST} (hr : meth.sig.returnType = (some .int)) (hf : fX6_readPart_121 h q0 = some y) : V p l e 14 0 s m args below meth c (MQ below (QO KC 395 g (some (.int y.1)) y.2) args s 0 (6 * 0) (WA 395 g)) KC 395 g B 3 0 h 121 [] [.int q0] := by
  unfold fX6_readPart_121 at hf
  exact v_iret (pc := 121) F hr dX6_readPart_121 (some_fst hf) (some_snd hf) (Nat.zero_le _)
set_option maxRecDepth 100000 in
set_option maxHeartbeats 4000000 in
theorem tX6_readPart_38 {p : Program} {l : Launch} {e : Env} {s : State} {m : MethodId} {args : Array Value} {below : List Frame} {meth : Method} {c : Code} {g : GE} {B : Nat} {h : ST}  {l1 : Int32} (F : Fx p s m args meth c cX6_readPart 3 "DustParish$RuleReader" 395 g B)
    {y : Int32 × ST} (hr : meth.sig.returnType = (some .int)) (hf : fX6_readPart_38 h l1 = some y) : V p l e 14 0 s m args below meth c (MQ below (QO KC 395 g (some (.int y.1)) y.2) args s 0 (6 * 0) (WA 395 g)) KC 395 g B 3 0 h 38 [(0, .ref (gA g 40)), (1, .int l1)] [] := by
  unfold fX6_readPart_38 at hf
  refine v_aload_n (pc := 38) (j := 0) F dX6_readPart_38 rfl rfl ?_
  refine v_ifl (pc := 39) F fl_X6_19 dX6_readPart_39 kc_40.1 kc_40.2 fv_5_2 ?_
  refine v_bipush (pc := 42) (v := 6) F dX6_readPart_42 bp_6 ?_
  refine v_icmp_lt (pc := 44) (tgt := 49) F dX6_readPart_44 (by decide) (fun c4 => ?_) (fun c4 => ?_)
  · have hf := ite_t hf c4
    refine v_iload_n (pc := 49) (j := 1) F dX6_readPart_49 rfl rfl ?_
    refine v_if_eq (pc := 50) (tgt := 73) F dX6_readPart_50 (by decide) (fun c5 => ?_) (fun c5 => ?_)
    · have hf := ite_t hf c5
      refine v_aload_n (pc := 73) (j := 0) F dX6_readPart_73 rfl rfl ?_
      refine v_ifl (pc := 74) F fl_X6_29 dX6_readPart_74 kc_40.1 kc_40.2 fv_5_5 ?_
      refine v_if_eq (pc := 77) (tgt := 122) F dX6_readPart_77 (by decide) (fun c6 => ?_) (fun c6 => ?_)
      · have hf := ite_t hf c6
        refine V.sub (lv' := [(0, .ref (gA g 40))]) [0] rfl ?_
        exact tX6_readPart_122 F hr hf
      · have hf := ite_f hf c6
        refine v_aload_n (pc := 80) (j := 0) F dX6_readPart_80 rfl rfl ?_
        refine v_ifl (pc := 81) F fl_X6_32 dX6_readPart_81 kc_40.1 kc_40.2 fv_5_6 ?_
        refine v_ldcS (pc := 84) (j := 11) (tx := "not") F (by decide) dX6_readPart_84 ?_
        obtain ⟨r22, e23, hf⟩ := bnd_some hf
        refine v_callVi (pc := 86) (As := [.ref (gK g 11)]) F cl_X6_75 dX6_readPart_86 (kX9_isWord (by decide) e23) kc_39.1 kc_39.2 rc_8 rfl rfl (Nat.le_of_ble_eq_true rfl) (by decide) (Nat.zero_le _) ?_
        refine v_if_eq (pc := 89) (tgt := 122) F dX6_readPart_89 (by decide) (fun c24 => ?_) (fun c24 => ?_)
        · have hf := ite_t hf c24
          refine V.sub (lv' := [(0, .ref (gA g 40))]) [0] rfl ?_
          exact tX6_readPart_122 F hr hf
        · have hf := ite_f hf c24
          refine v_aload_n (pc := 92) (j := 0) F dX6_readPart_92 rfl rfl ?_
          refine v_dup (pc := 93) F dX6_readPart_93 rfl ?_
          refine v_ifl (pc := 94) F fl_X6_22 dX6_readPart_94 kc_40.1 kc_40.2 fv_5_3 ?_
          refine v_iconst (pc := 97) (v := 1) F dX6_readPart_97 ic_1 ?_
          refine v_iadd (pc := 98) F dX6_readPart_98 ?_
          obtain ⟨h25, e26, hf⟩ := bnd_some hf
          refine v_pfl (pc := 99) F fl_X6_22 pl_5_3 dX6_readPart_99 kc_40.1 kc_40.2 fv_5_3 rfl rfl e26 ?_
          refine v_aload_n (pc := 102) (j := 0) F dX6_readPart_102 rfl rfl ?_
          refine v_ifl (pc := 103) F fl_X6_22 dX6_readPart_103 kc_40.1 kc_40.2 fv_5_3 ?_
          refine v_bipush (pc := 106) (v := 6) F dX6_readPart_106 bp_6 ?_
          refine v_icmp_le (pc := 108) (tgt := 115) F dX6_readPart_108 (by decide) (fun c27 => ?_) (fun c27 => ?_)
          · have hf := ite_t hf c27
            refine v_aload_n (pc := 115) (j := 0) F dX6_readPart_115 rfl rfl ?_
            refine v_bipush (pc := 116) (v := (-13)) F dX6_readPart_116 bp_m13 ?_
            obtain ⟨r28, e29, hf⟩ := bnd_some hf
            refine v_callVi (pc := 118) (As := [.int (-13)]) F cl_X6_69 dX6_readPart_118 (kX6_hold e29) kc_40.1 kc_40.2 rc_5 rfl rfl (Nat.le_of_ble_eq_true rfl) (by decide) (Nat.zero_le _) ?_
            refine V.sub (lv' := []) [] rfl ?_
            exact tX6_readPart_121 F hr hf
          · have hf := ite_f hf c27
            refine v_iconst (pc := 111) (v := 2) F dX6_readPart_111 ic_2 ?_
            refine v_goto (pc := 112) (tgt := 121) F dX6_readPart_112 (by decide) ?_
            refine V.sub (lv' := []) [] rfl ?_
            exact tX6_readPart_121 F hr hf
    · have hf := ite_f hf c5
      refine v_aload_n (pc := 53) (j := 0) F dX6_readPart_53 rfl rfl ?_
      refine v_dup (pc := 54) F dX6_readPart_54 rfl ?_
      refine v_ifl (pc := 55) F fl_X6_19 dX6_readPart_55 kc_40.1 kc_40.2 fv_5_2 ?_
      refine v_iconst (pc := 58) (v := 1) F dX6_readPart_58 ic_1 ?_
      refine v_iadd (pc := 59) F dX6_readPart_59 ?_
      obtain ⟨h30, e31, hf⟩ := bnd_some hf
      refine v_pfl (pc := 60) F fl_X6_19 pl_5_2 dX6_readPart_60 kc_40.1 kc_40.2 fv_5_2 rfl rfl e31 ?_
      refine v_aload_n (pc := 63) (j := 0) F dX6_readPart_63 rfl rfl ?_
      obtain ⟨r32, e33, hf⟩ := bnd_some hf
      refine v_callVv (pc := 64) (As := []) F cl_X6_40 dX6_readPart_64 (kX6_wantNot e33) kc_40.1 kc_40.2 rc_5 rfl rfl (Nat.le_of_ble_eq_true rfl) (by decide) (Nat.zero_le _) ?_
      refine v_aload_n (pc := 67) (j := 0) F dX6_readPart_67 rfl rfl ?_
      refine v_iconst (pc := 68) (v := 0) F dX6_readPart_68 ic_0 ?_
      obtain ⟨r34, e35, hf⟩ := bnd_some hf
      refine v_callVi (pc := 69) (As := [.int 0]) F cl_X6_69 dX6_readPart_69 (kX6_hold e35) kc_40.1 kc_40.2 rc_5 rfl rfl (Nat.le_of_ble_eq_true rfl) (by decide) (Nat.zero_le _) ?_
      exact v_iret (pc := 72) F hr dX6_readPart_72 (some_fst hf) (some_snd hf) (Nat.zero_le _)
  · have hf := ite_f hf c4
    refine v_iconst (pc := 47) (v := 2) F dX6_readPart_47 ic_2 ?_
    exact v_iret (pc := 48) F hr dX6_readPart_48 (some_fst hf) (some_snd hf) (Nat.zero_le _)
set_option maxRecDepth 100000 in
set_option maxHeartbeats 4000000 in
theorem kX6_readPart {l : Launch} {g : GE} {B : Nat} {h : ST} {y : Int32 × ST} (hf : fX6_readPart h = some y) : CT l yX6_readPart cX6_readPart 3 (some .int) 14 KC 395 g B [.ref (gA g 40)] h (some (.int y.1)) y.2 := by
  refine CT.of pn_X6 (Nat.le_of_ble_eq_true rfl) ?_
  intro p e s m below meth c hr F
  have F : Fx p s m _ meth c cX6_readPart 3 "DustParish$RuleReader" 395 g B := F
  refine V_lv (lv' := [(0, .ref (gA g 40))]) rfl ?_
  unfold fX6_readPart at hf
  refine v_aload_n (pc := 0) (j := 0) F dX6_readPart_0 rfl rfl ?_
  refine v_ifl (pc := 1) F fl_X6_32 dX6_readPart_1 kc_40.1 kc_40.2 fv_5_6 ?_
  refine v_bipush (pc := 4) (v := 40) F dX6_readPart_4 bp_40 ?_
  obtain ⟨r1, e2, hf⟩ := bnd_some hf
  refine v_callVi (pc := 6) (As := [.int 40]) F cl_X6_43 dX6_readPart_6 (kX9_isSign e2) kc_39.1 kc_39.2 rc_8 rfl rfl (Nat.le_of_ble_eq_true rfl) (by decide) (Nat.zero_le _) ?_
  refine v_istore_n (pc := 9) (lv' := [(0, .ref (gA g 40)), (1, .int r1)]) F dX6_readPart_9 rfl (by decide) rfl ?_
  refine v_iload_n (pc := 10) (j := 1) F dX6_readPart_10 rfl rfl ?_
  refine v_if_ne (pc := 11) (tgt := 38) F dX6_readPart_11 (by decide) (fun c3 => ?_) (fun c3 => ?_)
  · have hf := ite_f hf c3
    exact tX6_readPart_38 F hr hf
  · have hf := ite_t hf c3
    refine v_aload_n (pc := 14) (j := 0) F dX6_readPart_14 rfl rfl ?_
    refine v_ifl (pc := 15) F fl_X6_32 dX6_readPart_15 kc_40.1 kc_40.2 fv_5_6 ?_
    refine v_ifl (pc := 18) F fl_X6_66 dX6_readPart_18 kc_39.1 kc_39.2 fv_8_0 ?_
    refine v_iconst (pc := 21) (v := 1) F dX6_readPart_21 ic_1 ?_
    refine v_icmp_eq (pc := 22) (tgt := 38) F dX6_readPart_22 (by decide) (fun c36 => ?_) (fun c36 => ?_)
    · have hf := ite_t hf c36
      exact tX6_readPart_38 F hr hf
    · have hf := ite_f hf c36
      refine v_aload_n (pc := 25) (j := 0) F dX6_readPart_25 rfl rfl ?_
      refine v_ifl (pc := 26) F fl_X6_32 dX6_readPart_26 kc_40.1 kc_40.2 fv_5_6 ?_
      refine v_ifl (pc := 29) F fl_X6_66 dX6_readPart_29 kc_39.1 kc_39.2 fv_8_0 ?_
      refine v_iconst (pc := 32) (v := 2) F dX6_readPart_32 ic_2 ?_
      refine v_icmp_eq (pc := 33) (tgt := 38) F dX6_readPart_33 (by decide) (fun c37 => ?_) (fun c37 => ?_)
      · have hf := ite_t hf c37
        exact tX6_readPart_38 F hr hf
      · have hf := ite_f hf c37
        refine v_iconst (pc := 36) (v := 1) F dX6_readPart_36 ic_1 ?_
        exact v_iret (pc := 37) F hr dX6_readPart_37 (some_fst hf) (some_snd hf) (Nat.zero_le _)
def fX6_close (h : ST) : Option (Int32 × ST) :=
  if (h 40 2) = 0 then
  some (1, h)
  else
  bnd (fX6_release h 1) fun r2 =>
    bnd (pw r2 40 1 (if (0 : Int32) < ((r2 40 1) - 1) then ((r2 40 1) - 1) else 0)) fun h4 =>
    bnd (pw h4 40 2 ((h4 40 2) - 1)) fun h6 =>
    some (0, h6)
set_option maxRecDepth 100000 in
set_option maxHeartbeats 4000000 in
theorem kX6_close {l : Launch} {g : GE} {B : Nat} {h : ST} {y : Int32 × ST} (hf : fX6_close h = some y) : CT l yX6_close cX6_close 1 (some .int) 3 KC 395 g B [.ref (gA g 40)] h (some (.int y.1)) y.2 := by
  refine CT.of pn_X6 (Nat.le_of_ble_eq_true rfl) ?_
  intro p e s m below meth c hr F
  have F : Fx p s m _ meth c cX6_close 1 "DustParish$RuleReader" 395 g B := F
  refine V_lv (lv' := [(0, .ref (gA g 40))]) rfl ?_
  unfold fX6_close at hf
  refine v_aload_n (pc := 0) (j := 0) F dX6_close_0 rfl rfl ?_
  refine v_ifl (pc := 1) F fl_X6_19 dX6_close_1 kc_40.1 kc_40.2 fv_5_2 ?_
  refine v_if_ne (pc := 4) (tgt := 9) F dX6_close_4 (by decide) (fun c1 => ?_) (fun c1 => ?_)
  · have hf := ite_f hf c1
    refine v_aload_n (pc := 9) (j := 0) F dX6_close_9 rfl rfl ?_
    refine v_iconst (pc := 10) (v := 1) F dX6_close_10 ic_1 ?_
    obtain ⟨r2, e3, hf⟩ := bnd_some hf
    refine v_callVv (pc := 11) (As := [.int 1]) F cl_X6_49 dX6_close_11 (kX6_release e3) kc_40.1 kc_40.2 rc_5 rfl rfl (Nat.le_of_ble_eq_true rfl) (by decide) (Nat.zero_le _) ?_
    refine v_aload_n (pc := 14) (j := 0) F dX6_close_14 rfl rfl ?_
    refine v_iconst (pc := 15) (v := 0) F dX6_close_15 ic_0 ?_
    refine v_aload_n (pc := 16) (j := 0) F dX6_close_16 rfl rfl ?_
    refine v_ifl (pc := 17) F fl_X6_15 dX6_close_17 kc_40.1 kc_40.2 fv_5_1 ?_
    refine v_iconst (pc := 20) (v := 1) F dX6_close_20 ic_1 ?_
    refine v_isub (pc := 21) F dX6_close_21 ?_
    refine v_mmax (pc := 22) F tw_890 mmaxW dX6_close_22 (by decide) (Nat.le_of_ble_eq_true rfl) (Nat.zero_le _) ?_
    obtain ⟨h4, e5, hf⟩ := bnd_some hf
    refine v_pfl (pc := 25) F fl_X6_15 pl_5_1 dX6_close_25 kc_40.1 kc_40.2 fv_5_1 rfl rfl e5 ?_
    refine v_aload_n (pc := 28) (j := 0) F dX6_close_28 rfl rfl ?_
    refine v_dup (pc := 29) F dX6_close_29 rfl ?_
    refine v_ifl (pc := 30) F fl_X6_19 dX6_close_30 kc_40.1 kc_40.2 fv_5_2 ?_
    refine v_iconst (pc := 33) (v := 1) F dX6_close_33 ic_1 ?_
    refine v_isub (pc := 34) F dX6_close_34 ?_
    obtain ⟨h6, e7, hf⟩ := bnd_some hf
    refine v_pfl (pc := 35) F fl_X6_19 pl_5_2 dX6_close_35 kc_40.1 kc_40.2 fv_5_2 rfl rfl e7 ?_
    refine v_iconst (pc := 38) (v := 0) F dX6_close_38 ic_0 ?_
    exact v_iret (pc := 39) F hr dX6_close_39 (some_fst hf) (some_snd hf) (Nat.zero_le _)
  · have hf := ite_t hf c1
    refine v_iconst (pc := 7) (v := 1) F dX6_close_7 ic_1 ?_
    exact v_iret (pc := 8) F hr dX6_close_8 (some_fst hf) (some_snd hf) (Nat.zero_le _)
def fX6_signAtHand_123 (h : ST) (q0 : Int32) : Option (Int32) :=
  some q0
def fX6_signAtHand (h : ST) : Option (Int32) :=
  bnd (fX9_isSign h 43) fun r1 =>
  if r1 = 0 then
  bnd (fX9_isSign h 45) fun r4 =>
    if r4 = 0 then
    bnd (fX9_isSign h 42) fun r7 =>
      if r7 = 0 then
      bnd (fX9_isSign h 47) fun r10 =>
        if r10 = 0 then
        bnd (fX9_isSign h 60) fun r13 =>
          if r13 = 0 then
          bnd (fX9_isSign h 61) fun r16 =>
            if r16 = 0 then
            bnd (fX9_isWord h 18) fun r19 =>
              if r19 = 0 then
              bnd (fX9_isWord h 19) fun r22 =>
                if r22 = 0 then
                fX6_signAtHand_123 h 0
                else
                fX6_signAtHand_123 h (-15)
              else
              some (-14)
            else
            some (-12)
          else
          some (-11)
        else
        some (-10)
      else
      some (-9)
    else
    some (-8)
  else
  some (-7)
set_option maxRecDepth 100000 in
set_option maxHeartbeats 4000000 in
theorem tX6_signAtHand_123 {p : Program} {l : Launch} {e : Env} {s : State} {m : MethodId} {args : Array Value} {below : List Frame} {meth : Method} {c : Code} {g : GE} {B : Nat} {h : ST}  {q0 : Int32} (F : Fx p s m args meth c cX6_signAtHand 1 "DustParish$RuleReader" 395 g B)
    {y : Int32} (hr : meth.sig.returnType = (some .int)) (hf : fX6_signAtHand_123 h q0 = some y) : V p l e 13 0 s m args below meth c (MQ below (QO KC 395 g (some (.int y)) h) args s 0 (6 * 0) (WA 395 g)) KC 395 g B 1 0 h 123 [] [.int q0] := by
  unfold fX6_signAtHand_123 at hf
  exact v_iret (pc := 123) F hr dX6_signAtHand_123 (Option.some.inj hf) rfl (Nat.zero_le _)
set_option maxRecDepth 100000 in
set_option maxHeartbeats 4000000 in
theorem kX6_signAtHand {l : Launch} {g : GE} {B : Nat} {h : ST} {y : Int32} (hf : fX6_signAtHand h = some y) : CT l yX6_signAtHand cX6_signAtHand 1 (some .int) 13 KC 395 g B [.ref (gA g 40)] h (some (.int y)) h := by
  refine CT.of pn_X6 (Nat.le_of_ble_eq_true rfl) ?_
  intro p e s m below meth c hr F
  have F : Fx p s m _ meth c cX6_signAtHand 1 "DustParish$RuleReader" 395 g B := F
  refine V_lv (lv' := [(0, .ref (gA g 40))]) rfl ?_
  unfold fX6_signAtHand at hf
  refine v_aload_n (pc := 0) (j := 0) F dX6_signAtHand_0 rfl rfl ?_
  refine v_ifl (pc := 1) F fl_X6_32 dX6_signAtHand_1 kc_40.1 kc_40.2 fv_5_6 ?_
  refine v_bipush (pc := 4) (v := 43) F dX6_signAtHand_4 bp_43 ?_
  obtain ⟨r1, e2, hf⟩ := bnd_some hf
  refine v_callVi (pc := 6) (As := [.int 43]) F cl_X6_43 dX6_signAtHand_6 (kX9_isSign e2) kc_39.1 kc_39.2 rc_8 rfl rfl (Nat.le_of_ble_eq_true rfl) (by decide) (Nat.zero_le _) ?_
  refine v_if_eq (pc := 9) (tgt := 15) F dX6_signAtHand_9 (by decide) (fun c3 => ?_) (fun c3 => ?_)
  · have hf := ite_t hf c3
    refine v_aload_n (pc := 15) (j := 0) F dX6_signAtHand_15 rfl rfl ?_
    refine v_ifl (pc := 16) F fl_X6_32 dX6_signAtHand_16 kc_40.1 kc_40.2 fv_5_6 ?_
    refine v_bipush (pc := 19) (v := 45) F dX6_signAtHand_19 bp_45 ?_
    obtain ⟨r4, e5, hf⟩ := bnd_some hf
    refine v_callVi (pc := 21) (As := [.int 45]) F cl_X6_43 dX6_signAtHand_21 (kX9_isSign e5) kc_39.1 kc_39.2 rc_8 rfl rfl (Nat.le_of_ble_eq_true rfl) (by decide) (Nat.zero_le _) ?_
    refine v_if_eq (pc := 24) (tgt := 30) F dX6_signAtHand_24 (by decide) (fun c6 => ?_) (fun c6 => ?_)
    · have hf := ite_t hf c6
      refine v_aload_n (pc := 30) (j := 0) F dX6_signAtHand_30 rfl rfl ?_
      refine v_ifl (pc := 31) F fl_X6_32 dX6_signAtHand_31 kc_40.1 kc_40.2 fv_5_6 ?_
      refine v_bipush (pc := 34) (v := 42) F dX6_signAtHand_34 bp_42 ?_
      obtain ⟨r7, e8, hf⟩ := bnd_some hf
      refine v_callVi (pc := 36) (As := [.int 42]) F cl_X6_43 dX6_signAtHand_36 (kX9_isSign e8) kc_39.1 kc_39.2 rc_8 rfl rfl (Nat.le_of_ble_eq_true rfl) (by decide) (Nat.zero_le _) ?_
      refine v_if_eq (pc := 39) (tgt := 45) F dX6_signAtHand_39 (by decide) (fun c9 => ?_) (fun c9 => ?_)
      · have hf := ite_t hf c9
        refine v_aload_n (pc := 45) (j := 0) F dX6_signAtHand_45 rfl rfl ?_
        refine v_ifl (pc := 46) F fl_X6_32 dX6_signAtHand_46 kc_40.1 kc_40.2 fv_5_6 ?_
        refine v_bipush (pc := 49) (v := 47) F dX6_signAtHand_49 bp_47 ?_
        obtain ⟨r10, e11, hf⟩ := bnd_some hf
        refine v_callVi (pc := 51) (As := [.int 47]) F cl_X6_43 dX6_signAtHand_51 (kX9_isSign e11) kc_39.1 kc_39.2 rc_8 rfl rfl (Nat.le_of_ble_eq_true rfl) (by decide) (Nat.zero_le _) ?_
        refine v_if_eq (pc := 54) (tgt := 60) F dX6_signAtHand_54 (by decide) (fun c12 => ?_) (fun c12 => ?_)
        · have hf := ite_t hf c12
          refine v_aload_n (pc := 60) (j := 0) F dX6_signAtHand_60 rfl rfl ?_
          refine v_ifl (pc := 61) F fl_X6_32 dX6_signAtHand_61 kc_40.1 kc_40.2 fv_5_6 ?_
          refine v_bipush (pc := 64) (v := 60) F dX6_signAtHand_64 bp_60 ?_
          obtain ⟨r13, e14, hf⟩ := bnd_some hf
          refine v_callVi (pc := 66) (As := [.int 60]) F cl_X6_43 dX6_signAtHand_66 (kX9_isSign e14) kc_39.1 kc_39.2 rc_8 rfl rfl (Nat.le_of_ble_eq_true rfl) (by decide) (Nat.zero_le _) ?_
          refine v_if_eq (pc := 69) (tgt := 75) F dX6_signAtHand_69 (by decide) (fun c15 => ?_) (fun c15 => ?_)
          · have hf := ite_t hf c15
            refine v_aload_n (pc := 75) (j := 0) F dX6_signAtHand_75 rfl rfl ?_
            refine v_ifl (pc := 76) F fl_X6_32 dX6_signAtHand_76 kc_40.1 kc_40.2 fv_5_6 ?_
            refine v_bipush (pc := 79) (v := 61) F dX6_signAtHand_79 bp_61 ?_
            obtain ⟨r16, e17, hf⟩ := bnd_some hf
            refine v_callVi (pc := 81) (As := [.int 61]) F cl_X6_43 dX6_signAtHand_81 (kX9_isSign e17) kc_39.1 kc_39.2 rc_8 rfl rfl (Nat.le_of_ble_eq_true rfl) (by decide) (Nat.zero_le _) ?_
            refine v_if_eq (pc := 84) (tgt := 90) F dX6_signAtHand_84 (by decide) (fun c18 => ?_) (fun c18 => ?_)
            · have hf := ite_t hf c18
              refine v_aload_n (pc := 90) (j := 0) F dX6_signAtHand_90 rfl rfl ?_
              refine v_ifl (pc := 91) F fl_X6_32 dX6_signAtHand_91 kc_40.1 kc_40.2 fv_5_6 ?_
              refine v_ldcS (pc := 94) (j := 18) (tx := "and") F (by decide) dX6_signAtHand_94 ?_
              obtain ⟨r19, e20, hf⟩ := bnd_some hf
              refine v_callVi (pc := 96) (As := [.ref (gK g 18)]) F cl_X6_75 dX6_signAtHand_96 (kX9_isWord (by decide) e20) kc_39.1 kc_39.2 rc_8 rfl rfl (Nat.le_of_ble_eq_true rfl) (by decide) (Nat.zero_le _) ?_
              refine v_if_eq (pc := 99) (tgt := 105) F dX6_signAtHand_99 (by decide) (fun c21 => ?_) (fun c21 => ?_)
              · have hf := ite_t hf c21
                refine v_aload_n (pc := 105) (j := 0) F dX6_signAtHand_105 rfl rfl ?_
                refine v_ifl (pc := 106) F fl_X6_32 dX6_signAtHand_106 kc_40.1 kc_40.2 fv_5_6 ?_
                refine v_ldcS (pc := 109) (j := 19) (tx := "or") F (by decide) dX6_signAtHand_109 ?_
                obtain ⟨r22, e23, hf⟩ := bnd_some hf
                refine v_callVi (pc := 111) (As := [.ref (gK g 19)]) F cl_X6_75 dX6_signAtHand_111 (kX9_isWord (by decide) e23) kc_39.1 kc_39.2 rc_8 rfl rfl (Nat.le_of_ble_eq_true rfl) (by decide) (Nat.zero_le _) ?_
                refine v_if_eq (pc := 114) (tgt := 122) F dX6_signAtHand_114 (by decide) (fun c24 => ?_) (fun c24 => ?_)
                · have hf := ite_t hf c24
                  refine v_iconst (pc := 122) (v := 0) F dX6_signAtHand_122 ic_0 ?_
                  refine V.sub (lv' := []) [] rfl ?_
                  exact tX6_signAtHand_123 F hr hf
                · have hf := ite_f hf c24
                  refine v_bipush (pc := 117) (v := (-15)) F dX6_signAtHand_117 bp_m15 ?_
                  refine v_goto (pc := 119) (tgt := 123) F dX6_signAtHand_119 (by decide) ?_
                  refine V.sub (lv' := []) [] rfl ?_
                  exact tX6_signAtHand_123 F hr hf
              · have hf := ite_f hf c21
                refine v_bipush (pc := 102) (v := (-14)) F dX6_signAtHand_102 bp_m14 ?_
                exact v_iret (pc := 104) F hr dX6_signAtHand_104 (Option.some.inj hf) rfl (Nat.zero_le _)
            · have hf := ite_f hf c18
              refine v_bipush (pc := 87) (v := (-12)) F dX6_signAtHand_87 bp_m12 ?_
              exact v_iret (pc := 89) F hr dX6_signAtHand_89 (Option.some.inj hf) rfl (Nat.zero_le _)
          · have hf := ite_f hf c15
            refine v_bipush (pc := 72) (v := (-11)) F dX6_signAtHand_72 bp_m11 ?_
            exact v_iret (pc := 74) F hr dX6_signAtHand_74 (Option.some.inj hf) rfl (Nat.zero_le _)
        · have hf := ite_f hf c12
          refine v_bipush (pc := 57) (v := (-10)) F dX6_signAtHand_57 bp_m10 ?_
          exact v_iret (pc := 59) F hr dX6_signAtHand_59 (Option.some.inj hf) rfl (Nat.zero_le _)
      · have hf := ite_f hf c9
        refine v_bipush (pc := 42) (v := (-9)) F dX6_signAtHand_42 bp_m9 ?_
        exact v_iret (pc := 44) F hr dX6_signAtHand_44 (Option.some.inj hf) rfl (Nat.zero_le _)
    · have hf := ite_f hf c6
      refine v_bipush (pc := 27) (v := (-8)) F dX6_signAtHand_27 bp_m8 ?_
      exact v_iret (pc := 29) F hr dX6_signAtHand_29 (Option.some.inj hf) rfl (Nat.zero_le _)
  · have hf := ite_f hf c3
    refine v_bipush (pc := 12) (v := (-7)) F dX6_signAtHand_12 bp_m7 ?_
    exact v_iret (pc := 14) F hr dX6_signAtHand_14 (Option.some.inj hf) rfl (Nat.zero_le _)
