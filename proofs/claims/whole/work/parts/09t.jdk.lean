def fJ0_coder_7d493_14 (h : ST) (q0 : Int32) : Option (Int32) :=
  bnd (zy q0) fun z2 =>
  some z2
def fJ0_coder_7d493 (h : ST) (k0_ : Nat) : Option (Int32) :=
  if (1 : Int32) = 0 then
  fJ0_coder_7d493_14 h 1
  else
  fJ0_coder_7d493_14 h 0
set_option maxRecDepth 100000 in
set_option maxHeartbeats 4000000 in
theorem tJ0_coder_7d493_14 {KD : Nat → Nat × Nat} {n : Nat} {p : Program} {l : Launch} {e : Env} {s : State} {m : MethodId} {args : Array Value} {below : List Frame} {meth : Method} {c : Code} {g : GE} {B : Nat} {h : ST}  {q0 : Int32} (F : Fx p s m args meth c cJ0_coder_7d493 1 "java/lang/String" n g B)
    {y : Int32} (hr : meth.sig.returnType = (some .byte)) (hf : fJ0_coder_7d493_14 h q0 = some y) : V p l e 1 0 s m args below meth c (MQ below (QO KD n g (some (.int y)) h) args s 0 (6 * 0) (WA n g)) KD n g B 1 0 h 14 [] [.int q0] := by
  unfold fJ0_coder_7d493_14 at hf
  obtain ⟨z2, e3, hf⟩ := bnd_some hf
  exact v_tret (pc := 14) F hr dJ0_coder_7d493_14 (zy_in e3).2 ((zy_in e3).1.symm.trans (Option.some.inj hf)) rfl (Nat.zero_le _)
set_option maxRecDepth 100000 in
set_option maxHeartbeats 4000000 in
theorem kJ0_coder_7d493 {KD : Nat → Nat × Nat} {n : Nat} {l : Launch} {g : GE} {B : Nat} {h : ST} {k0_ : Nat} (hs_k0_ : k0_ < SN) {y : Int32} (hf : fJ0_coder_7d493 h k0_ = some y) : CT l yJ0_coder_7d493 cJ0_coder_7d493 1 (some .byte) 1 KD n g B [.ref (gK g k0_)] h (some (.int y)) h := by
  refine CT.of pn_J0 (Nat.le_of_ble_eq_true rfl) ?_
  intro p e s m below meth c hr F
  have F : Fx p s m _ meth c cJ0_coder_7d493 1 "java/lang/String" n g B := F
  refine V_lv (lv' := [(0, .ref (gK g k0_))]) rfl ?_
  unfold fJ0_coder_7d493 at hf
  refine v_gstC (pc := 0) F tw_669 dJ0_coder_7d493_0 ?_
  refine v_if_eq (pc := 3) (tgt := 13) F dJ0_coder_7d493_3 (by decide) (fun c1 => ?_) (fun c1 => ?_)
  · have hf := ite_t hf c1
    refine v_iconst (pc := 13) (v := 1) F dJ0_coder_7d493_13 ic_1 ?_
    refine V.sub (lv' := []) [] rfl ?_
    exact tJ0_coder_7d493_14 F hr hf
  · have hf := ite_f hf c1
    refine v_aload_n (pc := 6) (j := 0) F dJ0_coder_7d493_6 rfl rfl ?_
    refine v_sgetC (pc := 7) F hs_k0_ tw_1929 dJ0_coder_7d493_7 ?_
    refine v_goto (pc := 10) (tgt := 14) F dJ0_coder_7d493_10 (by decide) ?_
    refine V.sub (lv' := []) [] rfl ?_
    exact tJ0_coder_7d493_14 F hr hf
def fJ0_isLatin1_aae02_18 (h : ST) (q0 : Int32) : Option (Int32) :=
  bnd (zb q0) fun z2 =>
  some z2
def fJ0_isLatin1_aae02_17 (h : ST)  : Option (Int32) :=
  fJ0_isLatin1_aae02_18 h 0
def fJ0_isLatin1_aae02 (h : ST) (k0_ : Nat) : Option (Int32) :=
  if (1 : Int32) = 0 then
  fJ0_isLatin1_aae02_17 h 
  else
  if (0 : Int32) = 0 then
    fJ0_isLatin1_aae02_18 h 1
    else
    fJ0_isLatin1_aae02_17 h 
set_option maxRecDepth 100000 in
set_option maxHeartbeats 4000000 in
theorem tJ0_isLatin1_aae02_18 {KD : Nat → Nat × Nat} {n : Nat} {p : Program} {l : Launch} {e : Env} {s : State} {m : MethodId} {args : Array Value} {below : List Frame} {meth : Method} {c : Code} {g : GE} {B : Nat} {h : ST}  {q0 : Int32} (F : Fx p s m args meth c cJ0_isLatin1_aae02 1 "java/lang/String" n g B)
    {y : Int32} (hr : meth.sig.returnType = (some .boolean)) (hf : fJ0_isLatin1_aae02_18 h q0 = some y) : V p l e 1 0 s m args below meth c (MQ below (QO KD n g (some (.int y)) h) args s 0 (6 * 0) (WA n g)) KD n g B 1 0 h 18 [] [.int q0] := by
  unfold fJ0_isLatin1_aae02_18 at hf
  obtain ⟨z2, e3, hf⟩ := bnd_some hf
  exact v_zret (pc := 18) F hr dJ0_isLatin1_aae02_18 (zb_in e3).2 ((zb_in e3).1.symm.trans (Option.some.inj hf)) rfl (Nat.zero_le _)
set_option maxRecDepth 100000 in
set_option maxHeartbeats 4000000 in
theorem tJ0_isLatin1_aae02_17 {KD : Nat → Nat × Nat} {n : Nat} {p : Program} {l : Launch} {e : Env} {s : State} {m : MethodId} {args : Array Value} {below : List Frame} {meth : Method} {c : Code} {g : GE} {B : Nat} {h : ST}  (F : Fx p s m args meth c cJ0_isLatin1_aae02 1 "java/lang/String" n g B)
    {y : Int32} (hr : meth.sig.returnType = (some .boolean)) (hf : fJ0_isLatin1_aae02_17 h  = some y) : V p l e 1 0 s m args below meth c (MQ below (QO KD n g (some (.int y)) h) args s 0 (6 * 0) (WA n g)) KD n g B 1 0 h 17 [] [] := by
  unfold fJ0_isLatin1_aae02_17 at hf
  refine v_iconst (pc := 17) (v := 0) F dJ0_isLatin1_aae02_17 ic_0 ?_
  exact tJ0_isLatin1_aae02_18 F hr hf
set_option maxRecDepth 100000 in
set_option maxHeartbeats 4000000 in
theorem kJ0_isLatin1_aae02 {KD : Nat → Nat × Nat} {n : Nat} {l : Launch} {g : GE} {B : Nat} {h : ST} {k0_ : Nat} (hs_k0_ : k0_ < SN) {y : Int32} (hf : fJ0_isLatin1_aae02 h k0_ = some y) : CT l yJ0_isLatin1_aae02 cJ0_isLatin1_aae02 1 (some .boolean) 1 KD n g B [.ref (gK g k0_)] h (some (.int y)) h := by
  refine CT.of pn_J0 (Nat.le_of_ble_eq_true rfl) ?_
  intro p e s m below meth c hr F
  have F : Fx p s m _ meth c cJ0_isLatin1_aae02 1 "java/lang/String" n g B := F
  refine V_lv (lv' := [(0, .ref (gK g k0_))]) rfl ?_
  unfold fJ0_isLatin1_aae02 at hf
  refine v_gstC (pc := 0) F tw_669 dJ0_isLatin1_aae02_0 ?_
  refine v_if_eq (pc := 3) (tgt := 17) F dJ0_isLatin1_aae02_3 (by decide) (fun c1 => ?_) (fun c1 => ?_)
  · have hf := ite_t hf c1
    refine V.sub (lv' := []) [] rfl ?_
    exact tJ0_isLatin1_aae02_17 F hr hf
  · have hf := ite_f hf c1
    refine v_aload_n (pc := 6) (j := 0) F dJ0_isLatin1_aae02_6 rfl rfl ?_
    refine v_sgetC (pc := 7) F hs_k0_ tw_1929 dJ0_isLatin1_aae02_7 ?_
    refine v_if_ne (pc := 10) (tgt := 17) F dJ0_isLatin1_aae02_10 (by decide) (fun c4 => ?_) (fun c4 => ?_)
    · have hf := ite_f hf c4
      refine V.sub (lv' := []) [] rfl ?_
      exact tJ0_isLatin1_aae02_17 F hr hf
    · have hf := ite_t hf c4
      refine v_iconst (pc := 13) (v := 1) F dJ0_isLatin1_aae02_13 ic_1 ?_
      refine v_goto (pc := 14) (tgt := 18) F dJ0_isLatin1_aae02_14 (by decide) ?_
      refine V.sub (lv' := []) [] rfl ?_
      exact tJ0_isLatin1_aae02_18 F hr hf
def fJ0_length_8abf5 (h : ST) (k0_ : Nat) : Option (Int32) :=
  bnd (fJ0_coder_7d493 h k0_ ) fun r1 =>
  some ((Int32.ofNat (SL.getD k0_ 0)) >>> (r1 &&& 31))
set_option maxRecDepth 100000 in
set_option maxHeartbeats 4000000 in
theorem kJ0_length_8abf5 {KD : Nat → Nat × Nat} {n : Nat} {l : Launch} {g : GE} {B : Nat} {h : ST} {k0_ : Nat} (hs_k0_ : k0_ < SN) {y : Int32} (hf : fJ0_length_8abf5 h k0_ = some y) : CT l yJ0_length_8abf5 cJ0_length_8abf5 1 (some .int) 2 KD n g B [.ref (gK g k0_)] h (some (.int y)) h := by
  refine CT.of pn_J0 (Nat.le_of_ble_eq_true rfl) ?_
  intro p e s m below meth c hr F
  have F : Fx p s m _ meth c cJ0_length_8abf5 1 "java/lang/String" n g B := F
  refine V_lv (lv' := [(0, .ref (gK g k0_))]) rfl ?_
  unfold fJ0_length_8abf5 at hf
  refine v_aload_n (pc := 0) (j := 0) F dJ0_length_8abf5_0 rfl rfl ?_
  refine v_sgetV (pc := 1) F hs_k0_ tw_1930 dJ0_length_8abf5_1 ?_
  refine v_sblen (pc := 4) F hs_k0_ dJ0_length_8abf5_4 ?_
  refine v_aload_n (pc := 5) (j := 0) F dJ0_length_8abf5_5 rfl rfl ?_
  obtain ⟨r1, e2, hf⟩ := bnd_some hf
  refine v_callStr (pc := 6) (As := []) F cl_J0_335 dJ0_length_8abf5_6 (kJ0_coder_7d493 hs_k0_ e2) hs_k0_ rfl rfl rfl (Nat.le_of_ble_eq_true rfl) (by decide) (Nat.zero_le _) ?_
  refine v_ishr (pc := 9) F dJ0_length_8abf5_9 ?_
  exact v_iret (pc := 10) F hr dJ0_length_8abf5_10 (Option.some.inj hf) rfl (Nat.zero_le _)
def fJ3_checkIndex_8e157 (h : ST) (a1 : Int32) (a2 : Int32) : Option (Int32) :=
  if a1 < 0 then
  none
  else
  if a1 < a2 then
    some a1
    else
    none
set_option maxRecDepth 100000 in
set_option maxHeartbeats 4000000 in
theorem kJ3_checkIndex_8e157 {KD : Nat → Nat × Nat} {n : Nat} {l : Launch} {g : GE} {B : Nat} {h : ST} {a1 : Int32} {a2 : Int32} {w3 : Value} (hw3 : w3 = .null ∨ ∃ t, w3 = .ref t) {y : Int32} (hf : fJ3_checkIndex_8e157 h a1 a2 = some y) : CT l yJ3_checkIndex_8e157 cJ3_checkIndex_8e157 3 (some .int) 1 KD n g B [.int a1, .int a2, w3] h (some (.int y)) h := by
  rcases hw3 with rfl | ⟨t3, rfl⟩
  · refine CT.of pn_J3 (Nat.le_of_ble_eq_true rfl) ?_
    intro p e s m below meth c hr F
    have F : Fx p s m _ meth c cJ3_checkIndex_8e157 3 "jdk/internal/util/Preconditions" n g B := F
    refine V_lv (lv' := [(0, .int a1), (1, .int a2), (2, .null)]) rfl ?_
    unfold fJ3_checkIndex_8e157 at hf
    refine v_iload_n (pc := 0) (j := 0) F dJ3_checkIndex_8e157_0 rfl rfl ?_
    refine v_if_lt (pc := 1) (tgt := 9) F dJ3_checkIndex_8e157_1 (by decide) (fun c1 => ?_) (fun c1 => ?_)
    · have hf := ite_t hf c1
      cases hf
    · have hf := ite_f hf c1
      refine v_iload_n (pc := 4) (j := 0) F dJ3_checkIndex_8e157_4 rfl rfl ?_
      refine v_iload_n (pc := 5) (j := 1) F dJ3_checkIndex_8e157_5 rfl rfl ?_
      refine v_icmp_lt (pc := 6) (tgt := 16) F dJ3_checkIndex_8e157_6 (by decide) (fun c2 => ?_) (fun c2 => ?_)
      · have hf := ite_t hf c2
        refine v_iload_n (pc := 16) (j := 0) F dJ3_checkIndex_8e157_16 rfl rfl ?_
        exact v_iret (pc := 17) F hr dJ3_checkIndex_8e157_17 (Option.some.inj hf) rfl (Nat.zero_le _)
      · have hf := ite_f hf c2
        cases hf
  · refine CT.of pn_J3 (Nat.le_of_ble_eq_true rfl) ?_
    intro p e s m below meth c hr F
    have F : Fx p s m _ meth c cJ3_checkIndex_8e157 3 "jdk/internal/util/Preconditions" n g B := F
    refine V_lv (lv' := [(0, .int a1), (1, .int a2), (2, (.ref t3))]) rfl ?_
    unfold fJ3_checkIndex_8e157 at hf
    refine v_iload_n (pc := 0) (j := 0) F dJ3_checkIndex_8e157_0 rfl rfl ?_
    refine v_if_lt (pc := 1) (tgt := 9) F dJ3_checkIndex_8e157_1 (by decide) (fun c1 => ?_) (fun c1 => ?_)
    · have hf := ite_t hf c1
      cases hf
    · have hf := ite_f hf c1
      refine v_iload_n (pc := 4) (j := 0) F dJ3_checkIndex_8e157_4 rfl rfl ?_
      refine v_iload_n (pc := 5) (j := 1) F dJ3_checkIndex_8e157_5 rfl rfl ?_
      refine v_icmp_lt (pc := 6) (tgt := 16) F dJ3_checkIndex_8e157_6 (by decide) (fun c2 => ?_) (fun c2 => ?_)
      · have hf := ite_t hf c2
        refine v_iload_n (pc := 16) (j := 0) F dJ3_checkIndex_8e157_16 rfl rfl ?_
        exact v_iret (pc := 17) F hr dJ3_checkIndex_8e157_17 (Option.some.inj hf) rfl (Nat.zero_le _)
      · have hf := ite_f hf c2
        cases hf
def fJ0_checkIndex_df160 (h : ST) (a1 : Int32) (a2 : Int32) : Option (Unit) :=
  bnd (fJ3_checkIndex_8e157 h a1 a2) fun r2 =>
  some ()
set_option maxRecDepth 100000 in
set_option maxHeartbeats 4000000 in
theorem kJ0_checkIndex_df160 {KD : Nat → Nat × Nat} {n : Nat} {l : Launch} {g : GE} {B : Nat} {h : ST} {a1 : Int32} {a2 : Int32} {y : Unit} (hf : fJ0_checkIndex_df160 h a1 a2 = some y) : CT l yJ0_checkIndex_df160 cJ0_checkIndex_df160 2 none 2 KD n g B [.int a1, .int a2] h none h := by
  refine CT.of pn_J0 (Nat.le_of_ble_eq_true rfl) ?_
  intro p e s m below meth c hr F
  have F : Fx p s m _ meth c cJ0_checkIndex_df160 2 "java/lang/String" n g B := F
  refine V_lv (lv' := [(0, .int a1), (1, .int a2)]) rfl ?_
  unfold fJ0_checkIndex_df160 at hf
  refine v_iload_n (pc := 0) (j := 0) F dJ0_checkIndex_df160_0 rfl rfl ?_
  refine v_iload_n (pc := 1) (j := 1) F dJ0_checkIndex_df160_1 rfl rfl ?_
  refine v_gstX (pc := 2) F tw_708 dJ0_checkIndex_df160_2 (fun x1 hx_x1 => ?_)
  obtain ⟨r2, e3, hf⟩ := bnd_some hf
  refine v_callSi (pc := 5) (As := [.int a1, .int a2, x1]) F cl_J0_1059 dJ0_checkIndex_df160_5 (kJ3_checkIndex_8e157 hx_x1 e3) rfl rfl (Nat.le_of_ble_eq_true rfl) (by decide) (Nat.zero_le _) ?_
  refine v_pop (pc := 8) F dJ0_checkIndex_df160_8 rfl ?_
  exact v_vret (pc := 9) F hr dJ0_checkIndex_df160_9 rfl (Nat.zero_le _)
def fJ1_charAt_3b067 (h : ST) (k1_ : Nat) (a2 : Int32) : Option (Int32) :=
  bnd (fJ0_checkIndex_df160 h a2 (Int32.ofNat (SL.getD k1_ 0))) fun r1 =>
  bnd (rb k1_ a2) fun v3 =>
  bnd (zc (((v3 &&& 255).toUInt32 % 65536).toInt32)) fun z5 =>
  some z5
set_option maxRecDepth 100000 in
set_option maxHeartbeats 4000000 in
theorem kJ1_charAt_3b067 {KD : Nat → Nat × Nat} {n : Nat} {l : Launch} {g : GE} {B : Nat} {h : ST} {k1_ : Nat} (hs_k1_ : k1_ < SN) {a2 : Int32} {y : Int32} (hf : fJ1_charAt_3b067 h k1_ a2 = some y) : CT l yJ1_charAt_3b067 cJ1_charAt_3b067 2 (some .char) 3 KD n g B [.ref (gV g k1_), .int a2] h (some (.int y)) h := by
  refine CT.of pn_J1 (Nat.le_of_ble_eq_true rfl) ?_
  intro p e s m below meth c hr F
  have F : Fx p s m _ meth c cJ1_charAt_3b067 2 "java/lang/StringLatin1" n g B := F
  refine V_lv (lv' := [(0, .ref (gV g k1_)), (1, .int a2)]) rfl ?_
  unfold fJ1_charAt_3b067 at hf
  refine v_iload_n (pc := 0) (j := 1) F dJ1_charAt_3b067_0 rfl rfl ?_
  refine v_aload_n (pc := 1) (j := 0) F dJ1_charAt_3b067_1 rfl rfl ?_
  refine v_sblen (pc := 2) F hs_k1_ dJ1_charAt_3b067_2 ?_
  obtain ⟨r1, e2, hf⟩ := bnd_some hf
  refine v_callSv (pc := 3) (As := [.int a2, .int (Int32.ofNat (SL.getD k1_ 0))]) F cl_J1_9 dJ1_charAt_3b067_3 (kJ0_checkIndex_df160 e2) rfl rfl (Nat.le_of_ble_eq_true rfl) (by decide) (Nat.zero_le _) ?_
  refine v_aload_n (pc := 6) (j := 0) F dJ1_charAt_3b067_6 rfl rfl ?_
  refine v_iload_n (pc := 7) (j := 1) F dJ1_charAt_3b067_7 rfl rfl ?_
  obtain ⟨v3, e4, hf⟩ := bnd_some hf
  refine v_sbald (pc := 8) F hs_k1_ dJ1_charAt_3b067_8 e4 ?_
  refine v_sipush (pc := 9) (v := 255) F dJ1_charAt_3b067_9 sp_255 ?_
  refine v_iand (pc := 12) F dJ1_charAt_3b067_12 ?_
  refine v_i2c (pc := 13) F dJ1_charAt_3b067_13 rfl ?_
  obtain ⟨z5, e6, hf⟩ := bnd_some hf
  exact v_tret (pc := 14) F hr dJ1_charAt_3b067_14 (zc_in e6).2 ((zc_in e6).1.symm.trans (Option.some.inj hf)) rfl (Nat.zero_le _)
def fJ0_charAt_5068e (h : ST) (k0_ : Nat) (a1 : Int32) : Option (Int32) :=
  bnd (fJ0_isLatin1_aae02 h k0_ ) fun r1 =>
  if r1 = 0 then
  none
  else
  bnd (fJ1_charAt_3b067 h k0_ a1) fun r4 =>
    bnd (zc r4) fun z6 =>
    some z6
set_option maxRecDepth 100000 in
set_option maxHeartbeats 4000000 in
theorem kJ0_charAt_5068e {KD : Nat → Nat × Nat} {n : Nat} {l : Launch} {g : GE} {B : Nat} {h : ST} {k0_ : Nat} (hs_k0_ : k0_ < SN) {a1 : Int32} {y : Int32} (hf : fJ0_charAt_5068e h k0_ a1 = some y) : CT l yJ0_charAt_5068e cJ0_charAt_5068e 2 (some .char) 4 KD n g B [.ref (gK g k0_), .int a1] h (some (.int y)) h := by
  refine CT.of pn_J0 (Nat.le_of_ble_eq_true rfl) ?_
  intro p e s m below meth c hr F
  have F : Fx p s m _ meth c cJ0_charAt_5068e 2 "java/lang/String" n g B := F
  refine V_lv (lv' := [(0, .ref (gK g k0_)), (1, .int a1)]) rfl ?_
  unfold fJ0_charAt_5068e at hf
  refine v_aload_n (pc := 0) (j := 0) F dJ0_charAt_5068e_0 rfl rfl ?_
  obtain ⟨r1, e2, hf⟩ := bnd_some hf
  refine v_callStr (pc := 1) (As := []) F cl_J0_492 dJ0_charAt_5068e_1 (kJ0_isLatin1_aae02 hs_k0_ e2) hs_k0_ rfl rfl rfl (Nat.le_of_ble_eq_true rfl) (by decide) (Nat.zero_le _) ?_
  refine v_if_eq (pc := 4) (tgt := 16) F dJ0_charAt_5068e_4 (by decide) (fun c3 => ?_) (fun c3 => ?_)
  · have hf := ite_t hf c3
    refine v_aload_n (pc := 16) (j := 0) F dJ0_charAt_5068e_16 rfl rfl ?_
    refine v_sgetV (pc := 17) F hs_k0_ tw_1930 dJ0_charAt_5068e_17 ?_
    refine v_iload_n (pc := 20) (j := 1) F dJ0_charAt_5068e_20 rfl rfl ?_
    cases hf
  · have hf := ite_f hf c3
    refine v_aload_n (pc := 7) (j := 0) F dJ0_charAt_5068e_7 rfl rfl ?_
    refine v_sgetV (pc := 8) F hs_k0_ tw_1930 dJ0_charAt_5068e_8 ?_
    refine v_iload_n (pc := 11) (j := 1) F dJ0_charAt_5068e_11 rfl rfl ?_
    obtain ⟨r4, e5, hf⟩ := bnd_some hf
    refine v_callSi (pc := 12) (As := [.ref (gV g k0_), .int a1]) F cl_J0_495 dJ0_charAt_5068e_12 (kJ1_charAt_3b067 hs_k0_ e5) rfl rfl (Nat.le_of_ble_eq_true rfl) (by decide) (Nat.zero_le _) ?_
    obtain ⟨z6, e7, hf⟩ := bnd_some hf
    exact v_tret (pc := 15) F hr dJ0_charAt_5068e_15 (zc_in e7).2 ((zc_in e7).1.symm.trans (Option.some.inj hf)) rfl (Nat.zero_le _)
def fJ1_canEncode_9a6ad_16 (h : ST) (q0 : Int32) : Option (Int32) :=
  bnd (zb q0) fun z2 =>
  some z2
def fJ1_canEncode_9a6ad_15 (h : ST)  : Option (Int32) :=
  fJ1_canEncode_9a6ad_16 h 0
def fJ1_canEncode_9a6ad (h : ST) (a1 : Int32) : Option (Int32) :=
  if a1 < 0 then
  fJ1_canEncode_9a6ad_15 h 
  else
  if 255 < a1 then
    fJ1_canEncode_9a6ad_15 h 
    else
    fJ1_canEncode_9a6ad_16 h 1
set_option maxRecDepth 100000 in
set_option maxHeartbeats 4000000 in
theorem tJ1_canEncode_9a6ad_16 {KD : Nat → Nat × Nat} {n : Nat} {p : Program} {l : Launch} {e : Env} {s : State} {m : MethodId} {args : Array Value} {below : List Frame} {meth : Method} {c : Code} {g : GE} {B : Nat} {h : ST}  {q0 : Int32} (F : Fx p s m args meth c cJ1_canEncode_9a6ad 1 "java/lang/StringLatin1" n g B)
    {y : Int32} (hr : meth.sig.returnType = (some .boolean)) (hf : fJ1_canEncode_9a6ad_16 h q0 = some y) : V p l e 1 0 s m args below meth c (MQ below (QO KD n g (some (.int y)) h) args s 0 (6 * 0) (WA n g)) KD n g B 1 0 h 16 [] [.int q0] := by
  unfold fJ1_canEncode_9a6ad_16 at hf
  obtain ⟨z2, e3, hf⟩ := bnd_some hf
  exact v_zret (pc := 16) F hr dJ1_canEncode_9a6ad_16 (zb_in e3).2 ((zb_in e3).1.symm.trans (Option.some.inj hf)) rfl (Nat.zero_le _)
set_option maxRecDepth 100000 in
set_option maxHeartbeats 4000000 in
theorem tJ1_canEncode_9a6ad_15 {KD : Nat → Nat × Nat} {n : Nat} {p : Program} {l : Launch} {e : Env} {s : State} {m : MethodId} {args : Array Value} {below : List Frame} {meth : Method} {c : Code} {g : GE} {B : Nat} {h : ST}  (F : Fx p s m args meth c cJ1_canEncode_9a6ad 1 "java/lang/StringLatin1" n g B)
    {y : Int32} (hr : meth.sig.returnType = (some .boolean)) (hf : fJ1_canEncode_9a6ad_15 h  = some y) : V p l e 1 0 s m args below meth c (MQ below (QO KD n g (some (.int y)) h) args s 0 (6 * 0) (WA n g)) KD n g B 1 0 h 15 [] [] := by
  unfold fJ1_canEncode_9a6ad_15 at hf
  refine v_iconst (pc := 15) (v := 0) F dJ1_canEncode_9a6ad_15 ic_0 ?_
  exact tJ1_canEncode_9a6ad_16 F hr hf
set_option maxRecDepth 100000 in
set_option maxHeartbeats 4000000 in
theorem kJ1_canEncode_9a6ad {KD : Nat → Nat × Nat} {n : Nat} {l : Launch} {g : GE} {B : Nat} {h : ST} {a1 : Int32} {y : Int32} (hf : fJ1_canEncode_9a6ad h a1 = some y) : CT l yJ1_canEncode_9a6ad cJ1_canEncode_9a6ad 1 (some .boolean) 1 KD n g B [.int a1] h (some (.int y)) h := by
  refine CT.of pn_J1 (Nat.le_of_ble_eq_true rfl) ?_
  intro p e s m below meth c hr F
  have F : Fx p s m _ meth c cJ1_canEncode_9a6ad 1 "java/lang/StringLatin1" n g B := F
  refine V_lv (lv' := [(0, .int a1)]) rfl ?_
  unfold fJ1_canEncode_9a6ad at hf
  refine v_iload_n (pc := 0) (j := 0) F dJ1_canEncode_9a6ad_0 rfl rfl ?_
  refine v_if_lt (pc := 1) (tgt := 15) F dJ1_canEncode_9a6ad_1 (by decide) (fun c1 => ?_) (fun c1 => ?_)
  · have hf := ite_t hf c1
    refine V.sub (lv' := []) [] rfl ?_
    exact tJ1_canEncode_9a6ad_15 F hr hf
  · have hf := ite_f hf c1
    refine v_iload_n (pc := 4) (j := 0) F dJ1_canEncode_9a6ad_4 rfl rfl ?_
    refine v_sipush (pc := 5) (v := 255) F dJ1_canEncode_9a6ad_5 sp_255 ?_
    refine v_icmp_gt (pc := 8) (tgt := 15) F dJ1_canEncode_9a6ad_8 (by decide) (fun c4 => ?_) (fun c4 => ?_)
    · have hf := ite_t hf c4
      refine V.sub (lv' := []) [] rfl ?_
      exact tJ1_canEncode_9a6ad_15 F hr hf
    · have hf := ite_f hf c4
      refine v_iconst (pc := 11) (v := 1) F dJ1_canEncode_9a6ad_11 ic_1 ?_
      refine v_goto (pc := 12) (tgt := 16) F dJ1_canEncode_9a6ad_12 (by decide) ?_
      refine V.sub (lv' := []) [] rfl ?_
      exact tJ1_canEncode_9a6ad_16 F hr hf
def fJ1_indexOfChar_4cfef_7 (h : ST) (k1_ : Nat) (l3 : Int32) (l4 : Int32) (s1 : Int32) : Option (Int32 ⊕ (Int32 ⊕ Unit)) :=
  if l3 ≤ s1 then
  some (.inr (.inr ()))
  else
  bnd (rb k1_ s1) fun v2 =>
    if v2 = l4 then
    some (.inr (.inl s1))
    else
    some (.inl (s1 + 1))
def fJ1_indexOfChar_4cfef (h : ST) (k1_ : Nat) (a2 : Int32) (a3 : Int32) (a4 : Int32) : Option (Int32) :=
  bnd (lp FU (fJ1_indexOfChar_4cfef_7 h k1_ a4 a2.toInt8.toInt32) a3) fun x5 =>
  sm x5 (fun v => some v) (fun v => some (-1))
set_option maxRecDepth 100000 in
set_option maxHeartbeats 4000000 in
theorem tJ1_indexOfChar_4cfef_7 {KD : Nat → Nat × Nat} {n : Nat} {p : Program} {l : Launch} {e : Env} {s : State} {m : MethodId} {args : Array Value} {below : List Frame} {meth : Method} {c : Code} {g : GE} {B : Nat} {h : ST} {k1_ : Nat} (hs_k1_ : k1_ < SN) {l3 : Int32} {l4 : Int32} {Q : State → Prop} {x : (Int32 ⊕ Unit)} {nf : Nat} {s0 : Int32} (F : Fx p s m args meth c cJ1_indexOfChar_4cfef 6 "java/lang/StringLatin1" n g B) (hX0 : ∀ v : Int32, x = (.inl v) → V p l e 1 0 s m args below meth c Q KD n g B 6 0 h 22 [(5, .int v)] []) (hX1 : ∀ v : Unit, x = (.inr v) → V p l e 1 0 s m args below meth c Q KD n g B 6 0 h 31 [] []) (hl : lp nf (fJ1_indexOfChar_4cfef_7 h k1_ l3 l4) s0 = some x) : V p l e 1 0 s m args below meth c Q KD n g B 6 0 h 7 [(0, .ref (gV g k1_)), (3, .int l3), (4, .int l4), (5, .int s0)] [] := by
  refine lp_ind (P := fun s0 => V p l e 1 0 s m args below meth c Q KD n g B 6 0 h 7 [(0, .ref (gV g k1_)), (3, .int l3), (4, .int l4), (5, .int s0)] []) ?_ nf s0 hl
  intro s1 y hf hk hx
  have hx0 : ∀ v : Int32, y = Sum.inr (.inl v) → V p l e 1 0 s m args below meth c Q KD n g B 6 0 h 22 [(5, .int v)] [] := fun v e9 => hX0 v (hx _ e9).symm
  have hx1 : ∀ v : Unit, y = Sum.inr (.inr v) → V p l e 1 0 s m args below meth c Q KD n g B 6 0 h 31 [] [] := fun v e9 => hX1 v (hx _ e9).symm
  unfold fJ1_indexOfChar_4cfef_7 at hf
  refine v_iload (pc := 7) (j := 3) F dJ1_indexOfChar_4cfef_7 rfl ?_
  refine v_iload_n (pc := 9) (j := 1) F dJ1_indexOfChar_4cfef_9 rfl rfl ?_
  refine v_icmp_ge (pc := 10) (tgt := 31) F dJ1_indexOfChar_4cfef_10 (by decide) (fun c1 => ?_) (fun c1 => ?_)
  · have hf := ite_t hf c1
    refine V.sub (lv' := []) [] rfl ?_
    exact hx1 () (Option.some.inj hf).symm
  · have hf := ite_f hf c1
    refine v_aload_n (pc := 13) (j := 0) F dJ1_indexOfChar_4cfef_13 rfl rfl ?_
    refine v_iload (pc := 14) (j := 3) F dJ1_indexOfChar_4cfef_14 rfl ?_
    obtain ⟨v2, e3, hf⟩ := bnd_some hf
    refine v_sbald (pc := 16) F hs_k1_ dJ1_indexOfChar_4cfef_16 e3 ?_
    refine v_iload (pc := 17) (j := 2) F dJ1_indexOfChar_4cfef_17 rfl ?_
    refine v_icmp_ne (pc := 19) (tgt := 25) F dJ1_indexOfChar_4cfef_19 (by decide) (fun c4 => ?_) (fun c4 => ?_)
    · have hf := ite_f hf c4
      refine v_iinc (pc := 25) (j := 3) (v := s1 + 1) (lv' := [(0, .ref (gV g k1_)), (3, .int l3), (4, .int l4), (5, .int (s1 + 1))]) F dJ1_indexOfChar_4cfef_25 rfl (congrArg (fun z => s1 + z) ic_1) (by decide) rfl ?_
      refine v_goto (pc := 28) (tgt := 7) F dJ1_indexOfChar_4cfef_28 (by decide) ?_
      exact hk (s1 + 1) (Option.some.inj hf).symm
    · have hf := ite_t hf c4
      refine V.sub (lv' := [(5, .int s1)]) [3] rfl ?_
      exact hx0 s1 (Option.some.inj hf).symm
set_option maxRecDepth 100000 in
set_option maxHeartbeats 4000000 in
theorem kJ1_indexOfChar_4cfef {KD : Nat → Nat × Nat} {n : Nat} {l : Launch} {g : GE} {B : Nat} {h : ST} {k1_ : Nat} (hs_k1_ : k1_ < SN) {a2 : Int32} {a3 : Int32} {a4 : Int32} {y : Int32} (hf : fJ1_indexOfChar_4cfef h k1_ a2 a3 a4 = some y) : CT l yJ1_indexOfChar_4cfef cJ1_indexOfChar_4cfef 6 (some .int) 1 KD n g B [.ref (gV g k1_), .int a2, .int a3, .int a4] h (some (.int y)) h := by
  refine CT.of pn_J1 (Nat.le_of_ble_eq_true rfl) ?_
  intro p e s m below meth c hr F
  have F : Fx p s m _ meth c cJ1_indexOfChar_4cfef 6 "java/lang/StringLatin1" n g B := F
  refine V_lv (lv' := [(0, .ref (gV g k1_)), (1, .int a2), (2, .int a3), (3, .int a4)]) rfl ?_
  unfold fJ1_indexOfChar_4cfef at hf
  refine v_iload_n (pc := 0) (j := 1) F dJ1_indexOfChar_4cfef_0 rfl rfl ?_
  refine v_i2b (pc := 1) F dJ1_indexOfChar_4cfef_1 rfl ?_
  refine v_istore (pc := 2) (lv' := [(0, .ref (gV g k1_)), (1, .int a2), (2, .int a3), (3, .int a4), (4, .int a2.toInt8.toInt32)]) F dJ1_indexOfChar_4cfef_2 (by decide) rfl ?_
  refine v_iload_n (pc := 4) (j := 2) F dJ1_indexOfChar_4cfef_4 rfl rfl ?_
  refine v_istore (pc := 5) (lv' := [(0, .ref (gV g k1_)), (1, .int a2), (2, .int a3), (3, .int a4), (4, .int a2.toInt8.toInt32), (5, .int a3)]) F dJ1_indexOfChar_4cfef_5 (by decide) rfl ?_
  obtain ⟨x5, e6, hf⟩ := bnd_some hf
  refine V.sub (lv' := [(0, .ref (gV g k1_)), (3, .int a4), (4, .int a2.toInt8.toInt32), (5, .int a3)]) [0, 3, 4, 5] rfl ?_
  refine tJ1_indexOfChar_4cfef_7 (s0 := a3) hs_k1_ F (fun v e9 => ?_) (fun v e9 => ?_) e6
  · subst e9
    have hf := sm_l hf
    refine v_iload (pc := 22) (j := 0) F dJ1_indexOfChar_4cfef_22 rfl ?_
    exact v_iret (pc := 24) F hr dJ1_indexOfChar_4cfef_24 (Option.some.inj hf) rfl (Nat.zero_le _)
  · subst e9
    have hf := sm_r hf
    refine v_iconst (pc := 31) (v := (-1)) F dJ1_indexOfChar_4cfef_31 ic_m1 ?_
    exact v_iret (pc := 32) F hr dJ1_indexOfChar_4cfef_32 (Option.some.inj hf) rfl (Nat.zero_le _)
def fJ1_indexOf_4cfef (h : ST) (k1_ : Nat) (a2 : Int32) (a3 : Int32) (a4 : Int32) : Option (Int32) :=
  bnd (fJ1_canEncode_9a6ad h a2) fun r1 =>
  if r1 = 0 then
  some (-1)
  else
  if (if a3 < 0 then 0 else a3) < (if (Int32.ofNat (SL.getD k1_ 0)) < a4 then (Int32.ofNat (SL.getD k1_ 0)) else a4) then
    bnd (fJ1_indexOfChar_4cfef h k1_ a2 (if a3 < 0 then 0 else a3) (if (Int32.ofNat (SL.getD k1_ 0)) < a4 then (Int32.ofNat (SL.getD k1_ 0)) else a4)) fun r5 =>
      some r5
    else
    some (-1)
set_option maxRecDepth 100000 in
set_option maxHeartbeats 4000000 in
theorem kJ1_indexOf_4cfef {KD : Nat → Nat × Nat} {n : Nat} {l : Launch} {g : GE} {B : Nat} {h : ST} {k1_ : Nat} (hs_k1_ : k1_ < SN) {a2 : Int32} {a3 : Int32} {a4 : Int32} {y : Int32} (hf : fJ1_indexOf_4cfef h k1_ a2 a3 a4 = some y) : CT l yJ1_indexOf_4cfef cJ1_indexOf_4cfef 4 (some .int) 2 KD n g B [.ref (gV g k1_), .int a2, .int a3, .int a4] h (some (.int y)) h := by
  refine CT.of pn_J1 (Nat.le_of_ble_eq_true rfl) ?_
  intro p e s m below meth c hr F
  have F : Fx p s m _ meth c cJ1_indexOf_4cfef 4 "java/lang/StringLatin1" n g B := F
  refine V_lv (lv' := [(0, .ref (gV g k1_)), (1, .int a2), (2, .int a3), (3, .int a4)]) rfl ?_
  unfold fJ1_indexOf_4cfef at hf
  refine v_iload_n (pc := 0) (j := 1) F dJ1_indexOf_4cfef_0 rfl rfl ?_
  obtain ⟨r1, e2, hf⟩ := bnd_some hf
  refine v_callSi (pc := 1) (As := [.int a2]) F cl_J1_88 dJ1_indexOf_4cfef_1 (kJ1_canEncode_9a6ad e2) rfl rfl (Nat.le_of_ble_eq_true rfl) (by decide) (Nat.zero_le _) ?_
  refine v_if_ne (pc := 4) (tgt := 9) F dJ1_indexOf_4cfef_4 (by decide) (fun c3 => ?_) (fun c3 => ?_)
  · have hf := ite_f hf c3
    refine v_iload_n (pc := 9) (j := 2) F dJ1_indexOf_4cfef_9 rfl rfl ?_
    refine v_iconst (pc := 10) (v := 0) F dJ1_indexOf_4cfef_10 ic_0 ?_
    refine v_mmax (pc := 11) F tw_685 mmaxW dJ1_indexOf_4cfef_11 (by decide) (Nat.le_of_ble_eq_true rfl) (Nat.zero_le _) ?_
    refine v_istore_n (pc := 14) (lv' := [(0, .ref (gV g k1_)), (1, .int a2), (2, .int (if a3 < 0 then 0 else a3)), (3, .int a4)]) F dJ1_indexOf_4cfef_14 rfl (by decide) rfl ?_
    refine v_iload_n (pc := 15) (j := 3) F dJ1_indexOf_4cfef_15 rfl rfl ?_
    refine v_aload_n (pc := 16) (j := 0) F dJ1_indexOf_4cfef_16 rfl rfl ?_
    refine v_sblen (pc := 17) F hs_k1_ dJ1_indexOf_4cfef_17 ?_
    refine v_mmin (pc := 18) F tw_686 mminW dJ1_indexOf_4cfef_18 (by decide) (Nat.le_of_ble_eq_true rfl) (Nat.zero_le _) ?_
    refine v_istore_n (pc := 21) (lv' := [(0, .ref (gV g k1_)), (1, .int a2), (2, .int (if a3 < 0 then 0 else a3)), (3, .int (if (Int32.ofNat (SL.getD k1_ 0)) < a4 then (Int32.ofNat (SL.getD k1_ 0)) else a4))]) F dJ1_indexOf_4cfef_21 rfl (by decide) rfl ?_
    refine v_iload_n (pc := 22) (j := 2) F dJ1_indexOf_4cfef_22 rfl rfl ?_
    refine v_iload_n (pc := 23) (j := 3) F dJ1_indexOf_4cfef_23 rfl rfl ?_
    refine v_icmp_lt (pc := 24) (tgt := 29) F dJ1_indexOf_4cfef_24 (by decide) (fun c4 => ?_) (fun c4 => ?_)
    · have hf := ite_t hf c4
      refine v_aload_n (pc := 29) (j := 0) F dJ1_indexOf_4cfef_29 rfl rfl ?_
      refine v_iload_n (pc := 30) (j := 1) F dJ1_indexOf_4cfef_30 rfl rfl ?_
      refine v_iload_n (pc := 31) (j := 2) F dJ1_indexOf_4cfef_31 rfl rfl ?_
      refine v_iload_n (pc := 32) (j := 3) F dJ1_indexOf_4cfef_32 rfl rfl ?_
      obtain ⟨r5, e6, hf⟩ := bnd_some hf
      refine v_callSi (pc := 33) (As := [.ref (gV g k1_), .int a2, .int (if a3 < 0 then 0 else a3), .int (if (Int32.ofNat (SL.getD k1_ 0)) < a4 then (Int32.ofNat (SL.getD k1_ 0)) else a4)]) F cl_J1_95 dJ1_indexOf_4cfef_33 (kJ1_indexOfChar_4cfef hs_k1_ e6) rfl rfl (Nat.le_of_ble_eq_true rfl) (by decide) (Nat.zero_le _) ?_
      exact v_iret (pc := 36) F hr dJ1_indexOf_4cfef_36 (Option.some.inj hf) rfl (Nat.zero_le _)
    · have hf := ite_f hf c4
      refine v_iconst (pc := 27) (v := (-1)) F dJ1_indexOf_4cfef_27 ic_m1 ?_
      exact v_iret (pc := 28) F hr dJ1_indexOf_4cfef_28 (Option.some.inj hf) rfl (Nat.zero_le _)
  · have hf := ite_t hf c3
    refine v_iconst (pc := 7) (v := (-1)) F dJ1_indexOf_4cfef_7 ic_m1 ?_
    exact v_iret (pc := 8) F hr dJ1_indexOf_4cfef_8 (Option.some.inj hf) rfl (Nat.zero_le _)
def fJ0_indexOf_7cf53_36 (h : ST) (q0 : Int32) : Option (Int32) :=
  some q0
def fJ0_indexOf_7cf53 (h : ST) (k0_ : Nat) (a1 : Int32) (a2 : Int32) : Option (Int32) :=
  bnd (fJ0_isLatin1_aae02 h k0_ ) fun r1 =>
  if r1 = 0 then
  bnd (fJ0_length_8abf5 h k0_ ) fun r4 =>
    none
  else
  bnd (fJ0_length_8abf5 h k0_ ) fun r6 =>
    bnd (fJ1_indexOf_4cfef h k0_ a1 a2 r6) fun r8 =>
    fJ0_indexOf_7cf53_36 h r8
set_option maxRecDepth 100000 in
set_option maxHeartbeats 4000000 in
theorem tJ0_indexOf_7cf53_36 {KD : Nat → Nat × Nat} {n : Nat} {p : Program} {l : Launch} {e : Env} {s : State} {m : MethodId} {args : Array Value} {below : List Frame} {meth : Method} {c : Code} {g : GE} {B : Nat} {h : ST}  {q0 : Int32} (F : Fx p s m args meth c cJ0_indexOf_7cf53 3 "java/lang/String" n g B)
    {y : Int32} (hr : meth.sig.returnType = (some .int)) (hf : fJ0_indexOf_7cf53_36 h q0 = some y) : V p l e 3 0 s m args below meth c (MQ below (QO KD n g (some (.int y)) h) args s 0 (6 * 0) (WA n g)) KD n g B 3 0 h 36 [] [.int q0] := by
  unfold fJ0_indexOf_7cf53_36 at hf
  exact v_iret (pc := 36) F hr dJ0_indexOf_7cf53_36 (Option.some.inj hf) rfl (Nat.zero_le _)
set_option maxRecDepth 100000 in
set_option maxHeartbeats 4000000 in
theorem kJ0_indexOf_7cf53 {KD : Nat → Nat × Nat} {n : Nat} {l : Launch} {g : GE} {B : Nat} {h : ST} {k0_ : Nat} (hs_k0_ : k0_ < SN) {a1 : Int32} {a2 : Int32} {y : Int32} (hf : fJ0_indexOf_7cf53 h k0_ a1 a2 = some y) : CT l yJ0_indexOf_7cf53 cJ0_indexOf_7cf53 3 (some .int) 3 KD n g B [.ref (gK g k0_), .int a1, .int a2] h (some (.int y)) h := by
  refine CT.of pn_J0 (Nat.le_of_ble_eq_true rfl) ?_
  intro p e s m below meth c hr F
  have F : Fx p s m _ meth c cJ0_indexOf_7cf53 3 "java/lang/String" n g B := F
  refine V_lv (lv' := [(0, .ref (gK g k0_)), (1, .int a1), (2, .int a2)]) rfl ?_
  unfold fJ0_indexOf_7cf53 at hf
  refine v_aload_n (pc := 0) (j := 0) F dJ0_indexOf_7cf53_0 rfl rfl ?_
  obtain ⟨r1, e2, hf⟩ := bnd_some hf
  refine v_callStr (pc := 1) (As := []) F cl_J0_492 dJ0_indexOf_7cf53_1 (kJ0_isLatin1_aae02 hs_k0_ e2) hs_k0_ rfl rfl rfl (Nat.le_of_ble_eq_true rfl) (by decide) (Nat.zero_le _) ?_
  refine v_if_eq (pc := 4) (tgt := 23) F dJ0_indexOf_7cf53_4 (by decide) (fun c3 => ?_) (fun c3 => ?_)
  · have hf := ite_t hf c3
    refine v_aload_n (pc := 23) (j := 0) F dJ0_indexOf_7cf53_23 rfl rfl ?_
    refine v_sgetV (pc := 24) F hs_k0_ tw_1930 dJ0_indexOf_7cf53_24 ?_
    refine v_iload_n (pc := 27) (j := 1) F dJ0_indexOf_7cf53_27 rfl rfl ?_
    refine v_iload_n (pc := 28) (j := 2) F dJ0_indexOf_7cf53_28 rfl rfl ?_
    refine v_aload_n (pc := 29) (j := 0) F dJ0_indexOf_7cf53_29 rfl rfl ?_
    obtain ⟨r4, e5, hf⟩ := bnd_some hf
    refine v_callStr (pc := 30) (As := []) F cl_J0_505 dJ0_indexOf_7cf53_30 (kJ0_length_8abf5 hs_k0_ e5) hs_k0_ rfl rfl rfl (Nat.le_of_ble_eq_true rfl) (by decide) (Nat.zero_le _) ?_
    cases hf
  · have hf := ite_f hf c3
    refine v_aload_n (pc := 7) (j := 0) F dJ0_indexOf_7cf53_7 rfl rfl ?_
    refine v_sgetV (pc := 8) F hs_k0_ tw_1930 dJ0_indexOf_7cf53_8 ?_
    refine v_iload_n (pc := 11) (j := 1) F dJ0_indexOf_7cf53_11 rfl rfl ?_
    refine v_iload_n (pc := 12) (j := 2) F dJ0_indexOf_7cf53_12 rfl rfl ?_
    refine v_aload_n (pc := 13) (j := 0) F dJ0_indexOf_7cf53_13 rfl rfl ?_
    obtain ⟨r6, e7, hf⟩ := bnd_some hf
    refine v_callStr (pc := 14) (As := []) F cl_J0_505 dJ0_indexOf_7cf53_14 (kJ0_length_8abf5 hs_k0_ e7) hs_k0_ rfl rfl rfl (Nat.le_of_ble_eq_true rfl) (by decide) (Nat.zero_le _) ?_
    obtain ⟨r8, e9, hf⟩ := bnd_some hf
    refine v_callSi (pc := 17) (As := [.ref (gV g k0_), .int a1, .int a2, .int r6]) F cl_J0_637 dJ0_indexOf_7cf53_17 (kJ1_indexOf_4cfef hs_k0_ e9) rfl rfl (Nat.le_of_ble_eq_true rfl) (by decide) (Nat.zero_le _) ?_
    refine v_goto (pc := 20) (tgt := 36) F dJ0_indexOf_7cf53_20 (by decide) ?_
    refine V.sub (lv' := []) [] rfl ?_
    exact tJ0_indexOf_7cf53_36 F hr hf
def fJ0_indexOf_0f7a4 (h : ST) (k0_ : Nat) (a1 : Int32) : Option (Int32) :=
  bnd (fJ0_indexOf_7cf53 h k0_ a1 0) fun r1 =>
  some r1
set_option maxRecDepth 100000 in
set_option maxHeartbeats 4000000 in
theorem kJ0_indexOf_0f7a4 {KD : Nat → Nat × Nat} {n : Nat} {l : Launch} {g : GE} {B : Nat} {h : ST} {k0_ : Nat} (hs_k0_ : k0_ < SN) {a1 : Int32} {y : Int32} (hf : fJ0_indexOf_0f7a4 h k0_ a1 = some y) : CT l yJ0_indexOf_0f7a4 cJ0_indexOf_0f7a4 2 (some .int) 4 KD n g B [.ref (gK g k0_), .int a1] h (some (.int y)) h := by
  refine CT.of pn_J0 (Nat.le_of_ble_eq_true rfl) ?_
  intro p e s m below meth c hr F
  have F : Fx p s m _ meth c cJ0_indexOf_0f7a4 2 "java/lang/String" n g B := F
  refine V_lv (lv' := [(0, .ref (gK g k0_)), (1, .int a1)]) rfl ?_
  unfold fJ0_indexOf_0f7a4 at hf
  refine v_aload_n (pc := 0) (j := 0) F dJ0_indexOf_0f7a4_0 rfl rfl ?_
  refine v_iload_n (pc := 1) (j := 1) F dJ0_indexOf_0f7a4_1 rfl rfl ?_
  refine v_iconst (pc := 2) (v := 0) F dJ0_indexOf_0f7a4_2 ic_0 ?_
  obtain ⟨r1, e2, hf⟩ := bnd_some hf
  refine v_callStr (pc := 3) (As := [.int a1, .int 0]) F cl_J0_633 dJ0_indexOf_0f7a4_3 (kJ0_indexOf_7cf53 hs_k0_ e2) hs_k0_ rfl rfl rfl (Nat.le_of_ble_eq_true rfl) (by decide) (Nat.zero_le _) ?_
  exact v_iret (pc := 6) F hr dJ0_indexOf_0f7a4_6 (Option.some.inj hf) rfl (Nat.zero_le _)
