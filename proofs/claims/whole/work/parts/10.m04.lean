def fX11_image (h : ST) : Option (ST) :=
  bnd (pw h 0 2 0) fun h1 =>
  bnd (pw h1 0 54 1) fun h3 =>
  bnd (pw h3 0 55 (h3 0 36)) fun h5 =>
  bnd (pw h5 0 56 (h5 0 37)) fun h7 =>
  bnd (fX11_pack h7 37 31 0) fun r9 =>
  bnd (fX11_be r9 38 1240 22 1240) fun r11 =>
  bnd (fX11_be r11 39 8 33 8) fun r13 =>
  bnd (fX11_be r13 40 8 34 8) fun r15 =>
  bnd (fX11_be r15 41 8 35 8) fun r17 =>
  bnd (fX11_be r17 42 3 17 3) fun r19 =>
  some r19
set_option maxRecDepth 100000 in
set_option maxHeartbeats 4000000 in
theorem kX11_image {l : Launch} {g : GE} {B : Nat} {h : ST} {y : ST} (hf : fX11_image h = some y) : CT l yX11_image cX11_image 1 none 2 KM 43 g B [.ref (gA g 0)] h none y := by
  refine CT.of pn_X11 (Nat.le_of_ble_eq_true rfl) ?_
  intro p e s m below meth c hr F
  have F : Fx p s m _ meth c cX11_image 1 "DustParishModel" 43 g B := F
  refine V_lv (lv' := [(0, .ref (gA g 0))]) rfl ?_
  unfold fX11_image at hf
  refine v_aload_n (pc := 0) (j := 0) F dX11_image_0 rfl rfl ?_
  refine v_iconst (pc := 1) (v := 0) F dX11_image_1 ic_0 ?_
  obtain ⟨h1, e2, hf⟩ := bnd_some hf
  refine v_pfl (pc := 2) F fl_X11_157 pl_10_2 dX11_image_2 km_0.1 km_0.2 fv_10_2 rfl rfl e2 ?_
  refine v_aload_n (pc := 5) (j := 0) F dX11_image_5 rfl rfl ?_
  refine v_iconst (pc := 6) (v := 1) F dX11_image_6 ic_1 ?_
  obtain ⟨h3, e4, hf⟩ := bnd_some hf
  refine v_pfl (pc := 7) F fl_X11_347 pl_10_54 dX11_image_7 km_0.1 km_0.2 fv_10_54 rfl rfl e4 ?_
  refine v_aload_n (pc := 10) (j := 0) F dX11_image_10 rfl rfl ?_
  refine v_aload_n (pc := 11) (j := 0) F dX11_image_11 rfl rfl ?_
  refine v_ifl (pc := 12) F fl_X11_341 dX11_image_12 km_0.1 km_0.2 fv_10_36 ?_
  obtain ⟨h5, e6, hf⟩ := bnd_some hf
  refine v_pfl (pc := 15) F fl_X11_489 pl_10_55 dX11_image_15 km_0.1 km_0.2 fv_10_55 rfl rfl e6 ?_
  refine v_aload_n (pc := 18) (j := 0) F dX11_image_18 rfl rfl ?_
  refine v_aload_n (pc := 19) (j := 0) F dX11_image_19 rfl rfl ?_
  refine v_ifl (pc := 20) F fl_X11_344 dX11_image_20 km_0.1 km_0.2 fv_10_37 ?_
  obtain ⟨h7, e8, hf⟩ := bnd_some hf
  refine v_pfl (pc := 23) F fl_X11_492 pl_10_56 dX11_image_23 km_0.1 km_0.2 fv_10_56 rfl rfl e8 ?_
  refine v_aload_n (pc := 26) (j := 0) F dX11_image_26 rfl rfl ?_
  refine v_aload_n (pc := 27) (j := 0) F dX11_image_27 rfl rfl ?_
  refine v_ifl (pc := 28) F fl_X11_139 dX11_image_28 km_0.1 km_0.2 fv_10_57 ?_
  refine v_iconst (pc := 31) (v := 0) F dX11_image_31 ic_0 ?_
  obtain ⟨r9, e10, hf⟩ := bnd_some hf
  refine v_callVv (pc := 32) (As := [.ref (gA g 37), .int 0]) F cl_X11_403 dX11_image_32 (kX11_pack km_37.1 km_37.2 e10) km_0.1 km_0.2 rc_10 rfl rfl (Nat.le_of_ble_eq_true rfl) (by decide) (Nat.zero_le _) ?_
  refine v_aload_n (pc := 35) (j := 0) F dX11_image_35 rfl rfl ?_
  refine v_ifl (pc := 36) F fl_X11_142 dX11_image_36 km_0.1 km_0.2 fv_10_58 ?_
  refine v_aload_n (pc := 39) (j := 0) F dX11_image_39 rfl rfl ?_
  refine v_ifl (pc := 40) F fl_X11_94 dX11_image_40 km_0.1 km_0.2 fv_10_32 ?_
  obtain ⟨r11, e12, hf⟩ := bnd_some hf
  refine v_callSv (pc := 43) (As := [.ref (gA g 38), .ref (gA g 22)]) F cl_X11_495 dX11_image_43 (kX11_be km_38.1 km_38.2 km_22.1 km_22.2 e12) rfl rfl (Nat.le_of_ble_eq_true rfl) (by decide) (Nat.zero_le _) ?_
  refine v_aload_n (pc := 46) (j := 0) F dX11_image_46 rfl rfl ?_
  refine v_ifl (pc := 47) F fl_X11_145 dX11_image_47 km_0.1 km_0.2 fv_10_59 ?_
  refine v_aload_n (pc := 50) (j := 0) F dX11_image_50 rfl rfl ?_
  refine v_ifl (pc := 51) F fl_X11_127 dX11_image_51 km_0.1 km_0.2 fv_10_49 ?_
  obtain ⟨r13, e14, hf⟩ := bnd_some hf
  refine v_callSv (pc := 54) (As := [.ref (gA g 39), .ref (gA g 33)]) F cl_X11_495 dX11_image_54 (kX11_be km_39.1 km_39.2 km_33.1 km_33.2 e14) rfl rfl (Nat.le_of_ble_eq_true rfl) (by decide) (Nat.zero_le _) ?_
  refine v_aload_n (pc := 57) (j := 0) F dX11_image_57 rfl rfl ?_
  refine v_ifl (pc := 58) F fl_X11_148 dX11_image_58 km_0.1 km_0.2 fv_10_60 ?_
  refine v_aload_n (pc := 61) (j := 0) F dX11_image_61 rfl rfl ?_
  refine v_ifl (pc := 62) F fl_X11_130 dX11_image_62 km_0.1 km_0.2 fv_10_50 ?_
  obtain ⟨r15, e16, hf⟩ := bnd_some hf
  refine v_callSv (pc := 65) (As := [.ref (gA g 40), .ref (gA g 34)]) F cl_X11_495 dX11_image_65 (kX11_be km_40.1 km_40.2 km_34.1 km_34.2 e16) rfl rfl (Nat.le_of_ble_eq_true rfl) (by decide) (Nat.zero_le _) ?_
  refine v_aload_n (pc := 68) (j := 0) F dX11_image_68 rfl rfl ?_
  refine v_ifl (pc := 69) F fl_X11_151 dX11_image_69 km_0.1 km_0.2 fv_10_61 ?_
  refine v_aload_n (pc := 72) (j := 0) F dX11_image_72 rfl rfl ?_
  refine v_ifl (pc := 73) F fl_X11_133 dX11_image_73 km_0.1 km_0.2 fv_10_51 ?_
  obtain ⟨r17, e18, hf⟩ := bnd_some hf
  refine v_callSv (pc := 76) (As := [.ref (gA g 41), .ref (gA g 35)]) F cl_X11_495 dX11_image_76 (kX11_be km_41.1 km_41.2 km_35.1 km_35.2 e18) rfl rfl (Nat.le_of_ble_eq_true rfl) (by decide) (Nat.zero_le _) ?_
  refine v_aload_n (pc := 79) (j := 0) F dX11_image_79 rfl rfl ?_
  refine v_ifl (pc := 80) F fl_X11_154 dX11_image_80 km_0.1 km_0.2 fv_10_62 ?_
  refine v_aload_n (pc := 83) (j := 0) F dX11_image_83 rfl rfl ?_
  refine v_ifl (pc := 84) F fl_X11_77 dX11_image_84 km_0.1 km_0.2 fv_10_17 ?_
  obtain ⟨r19, e20, hf⟩ := bnd_some hf
  refine v_callSv (pc := 87) (As := [.ref (gA g 42), .ref (gA g 17)]) F cl_X11_495 dX11_image_87 (kX11_be km_42.1 km_42.2 km_17.1 km_17.2 e20) rfl rfl (Nat.le_of_ble_eq_true rfl) (by decide) (Nat.zero_le _) ?_
  exact v_vret (pc := 90) F hr dX11_image_90 (Option.some.inj hf) (Nat.zero_le _)
def fX11_is_75 (h : ST) (k1_ : Nat) (l3 : Int32) (q0 : Int32) : Option ((Int32 × Int32) ⊕ Int32) :=
  some (.inl (q0, l3 + 1))
def fX11_is_39 (h : ST) (k1_ : Nat) (s1 : (Int32 × Int32)) : Option ((Int32 × Int32) ⊕ Int32) :=
  if s1.1 = 0 then
  some (.inr s1.1)
  else
  bnd (fJ0_length_8abf5 h k1_ ) fun r3 =>
    if r3 ≤ s1.2 then
    some (.inr s1.1)
    else
    bnd (fJ0_charAt_5068e h k1_ s1.2) fun r6 =>
      bnd (rd 700 (h 18) ((h 0 24) + s1.2)) fun v8 =>
      if r6 = v8 then
      fX11_is_75 h k1_ s1.2 1
      else
      fX11_is_75 h k1_ s1.2 0
def fX11_is_82 (h : ST) (l2 : Int32) : Option (Int32) :=
  bnd (zb l2) fun z13 =>
  some z13
def fX11_is_36 (h : ST) (k1_ : Nat) (q0 : Int32) : Option (Int32) :=
  bnd (lp FU (fX11_is_39 h k1_) (q0, 0)) fun x11 =>
  fX11_is_82 h x11
def fX11_is_35 (h : ST) (k1_ : Nat)  : Option (Int32) :=
  fX11_is_36 h k1_ 0
def fX11_is (h : ST) (k1_ : Nat) : Option (Int32) :=
  if (h 0 26) = 0 then
  if (h 0 22) = 1 then
    bnd (fJ0_length_8abf5 h k1_ ) fun r16 =>
      if r16 = ((h 0 25) - (h 0 24)) then
      fX11_is_36 h k1_ 1
      else
      fX11_is_35 h k1_ 
    else
    fX11_is_35 h k1_ 
  else
  fX11_is_35 h k1_ 
set_option maxRecDepth 100000 in
set_option maxHeartbeats 4000000 in
theorem tX11_is_75 {p : Program} {l : Launch} {e : Env} {s : State} {m : MethodId} {args : Array Value} {below : List Frame} {meth : Method} {c : Code} {g : GE} {B : Nat} {h : ST} {k1_ : Nat} (hs_k1_ : k1_ < SN) {l3 : Int32} {q0 : Int32} (F : Fx p s m args meth c cX11_is 4 "DustParishModel" 43 g B)
    {Q : State → Prop} {y : (Int32 × Int32) ⊕ Int32} (hk : ∀ v : (Int32 × Int32), y = Sum.inl v → V p l e 12 0 s m args below meth c Q KM 43 g B 4 0 h 39 [(0, .ref (gA g 0)), (1, .ref (gK g k1_)), (2, .int v.1), (3, .int v.2)] []) (hx0 : ∀ v : Int32, y = Sum.inr v → V p l e 12 0 s m args below meth c Q KM 43 g B 4 0 h 82 [(2, .int v)] []) (hf : fX11_is_75 h k1_ l3 q0 = some y) : V p l e 12 0 s m args below meth c Q KM 43 g B 4 0 h 75 [(0, .ref (gA g 0)), (1, .ref (gK g k1_)), (3, .int l3)] [.int q0] := by
  unfold fX11_is_75 at hf
  refine v_istore_n (pc := 75) (lv' := [(0, .ref (gA g 0)), (1, .ref (gK g k1_)), (2, .int q0), (3, .int l3)]) F dX11_is_75 rfl (by decide) rfl ?_
  refine v_iinc (pc := 76) (j := 3) (v := l3 + 1) (lv' := [(0, .ref (gA g 0)), (1, .ref (gK g k1_)), (2, .int q0), (3, .int (l3 + 1))]) F dX11_is_76 rfl (congrArg (fun z => l3 + z) ic_1) (by decide) rfl ?_
  refine v_goto (pc := 79) (tgt := 39) F dX11_is_79 (by decide) ?_
  exact hk (q0, l3 + 1) (Option.some.inj hf).symm
set_option maxRecDepth 100000 in
set_option maxHeartbeats 4000000 in
theorem tX11_is_39 {p : Program} {l : Launch} {e : Env} {s : State} {m : MethodId} {args : Array Value} {below : List Frame} {meth : Method} {c : Code} {g : GE} {B : Nat}  {h : ST} {k1_ : Nat} (hs_k1_ : k1_ < SN) {Q : State → Prop} {x : Int32} {nf : Nat} {s0 : (Int32 × Int32)} (F : Fx p s m args meth c cX11_is 4 "DustParishModel" 43 g B) (hX0 : V p l e 12 0 s m args below meth c Q KM 43 g B 4 0 h 82 [(2, .int x)] []) (hl : lp nf (fX11_is_39 h k1_) s0 = some x) : V p l e 12 0 s m args below meth c Q KM 43 g B 4 0 h 39 [(0, .ref (gA g 0)), (1, .ref (gK g k1_)), (2, .int s0.1), (3, .int s0.2)] [] := by
  refine lp_ind (P := fun s0 => V p l e 12 0 s m args below meth c Q KM 43 g B 4 0 h 39 [(0, .ref (gA g 0)), (1, .ref (gK g k1_)), (2, .int s0.1), (3, .int s0.2)] []) ?_ nf s0 hl
  intro s1 y hf hk hx
  have hx0 : ∀ v : Int32, y = Sum.inr v → V p l e 12 0 s m args below meth c Q KM 43 g B 4 0 h 82 [(2, .int v)] [] := fun v e9 => by rw [hx v e9]; exact hX0
  unfold fX11_is_39 at hf
  refine v_iload_n (pc := 39) (j := 2) F dX11_is_39 rfl rfl ?_
  refine v_if_eq (pc := 40) (tgt := 82) F dX11_is_40 (by decide) (fun c2 => ?_) (fun c2 => ?_)
  · have hf := ite_t hf c2
    refine V.sub (lv' := [(2, .int s1.1)]) [2] rfl ?_
    exact hx0 s1.1 (Option.some.inj hf).symm
  · have hf := ite_f hf c2
    refine v_iload_n (pc := 43) (j := 3) F dX11_is_43 rfl rfl ?_
    refine v_aload_n (pc := 44) (j := 1) F dX11_is_44 rfl rfl ?_
    obtain ⟨r3, e4, hf⟩ := bnd_some hf
    refine v_callStr (pc := 45) (As := []) F cl_X11_214 dX11_is_45 (kJ0_length_8abf5 hs_k1_ e4) hs_k1_ rfl rfl rfl (Nat.le_of_ble_eq_true rfl) (by decide) (Nat.zero_le _) ?_
    refine v_icmp_ge (pc := 48) (tgt := 82) F dX11_is_48 (by decide) (fun c5 => ?_) (fun c5 => ?_)
    · have hf := ite_t hf c5
      refine V.sub (lv' := [(2, .int s1.1)]) [2] rfl ?_
      exact hx0 s1.1 (Option.some.inj hf).symm
    · have hf := ite_f hf c5
      refine v_aload_n (pc := 51) (j := 1) F dX11_is_51 rfl rfl ?_
      refine v_iload_n (pc := 52) (j := 3) F dX11_is_52 rfl rfl ?_
      obtain ⟨r6, e7, hf⟩ := bnd_some hf
      refine v_callStr (pc := 53) (As := [.int s1.2]) F cl_X11_218 dX11_is_53 (kJ0_charAt_5068e hs_k1_ e7) hs_k1_ rfl rfl rfl (Nat.le_of_ble_eq_true rfl) (by decide) (Nat.zero_le _) ?_
      refine v_aload_n (pc := 56) (j := 0) F dX11_is_56 rfl rfl ?_
      refine v_ifl (pc := 57) F fl_X11_80 dX11_is_57 km_0.1 km_0.2 fv_10_18 ?_
      refine v_aload_n (pc := 60) (j := 0) F dX11_is_60 rfl rfl ?_
      refine v_ifl (pc := 61) F fl_X11_179 dX11_is_61 km_0.1 km_0.2 fv_10_24 ?_
      refine v_iload_n (pc := 64) (j := 3) F dX11_is_64 rfl rfl ?_
      refine v_iadd (pc := 65) F dX11_is_65 ?_
      obtain ⟨v8, e9, hf⟩ := bnd_some hf
      refine v_iald (pc := 66) F dX11_is_66 km_18.1 km_18.2 e9 ?_
      refine v_icmp_ne (pc := 67) (tgt := 74) F dX11_is_67 (by decide) (fun c10 => ?_) (fun c10 => ?_)
      · have hf := ite_f hf c10
        refine v_iconst (pc := 74) (v := 0) F dX11_is_74 ic_0 ?_
        refine V.sub (lv' := [(0, .ref (gA g 0)), (1, .ref (gK g k1_)), (3, .int s1.2)]) [0, 1, 3] rfl ?_
        exact tX11_is_75 hs_k1_ F hk hx0 hf
      · have hf := ite_t hf c10
        refine v_iconst (pc := 70) (v := 1) F dX11_is_70 ic_1 ?_
        refine v_goto (pc := 71) (tgt := 75) F dX11_is_71 (by decide) ?_
        refine V.sub (lv' := [(0, .ref (gA g 0)), (1, .ref (gK g k1_)), (3, .int s1.2)]) [0, 1, 3] rfl ?_
        exact tX11_is_75 hs_k1_ F hk hx0 hf
set_option maxRecDepth 100000 in
set_option maxHeartbeats 4000000 in
theorem tX11_is_82 {p : Program} {l : Launch} {e : Env} {s : State} {m : MethodId} {args : Array Value} {below : List Frame} {meth : Method} {c : Code} {g : GE} {B : Nat} {h : ST}  {l2 : Int32} (F : Fx p s m args meth c cX11_is 4 "DustParishModel" 43 g B)
    {y : Int32} (hr : meth.sig.returnType = (some .boolean)) (hf : fX11_is_82 h l2 = some y) : V p l e 12 0 s m args below meth c (MQ below (QO KM 43 g (some (.int y)) h) args s 0 (6 * 0) (WA 43 g)) KM 43 g B 4 0 h 82 [(2, .int l2)] [] := by
  unfold fX11_is_82 at hf
  refine v_iload_n (pc := 82) (j := 0) F dX11_is_82 rfl rfl ?_
  obtain ⟨z13, e14, hf⟩ := bnd_some hf
  exact v_zret (pc := 83) F hr dX11_is_83 (zb_in e14).2 ((zb_in e14).1.symm.trans (Option.some.inj hf)) rfl (Nat.zero_le _)
set_option maxRecDepth 100000 in
set_option maxHeartbeats 4000000 in
theorem tX11_is_36 {p : Program} {l : Launch} {e : Env} {s : State} {m : MethodId} {args : Array Value} {below : List Frame} {meth : Method} {c : Code} {g : GE} {B : Nat} {h : ST} {k1_ : Nat} (hs_k1_ : k1_ < SN) {q0 : Int32} (F : Fx p s m args meth c cX11_is 4 "DustParishModel" 43 g B)
    {y : Int32} (hr : meth.sig.returnType = (some .boolean)) (hf : fX11_is_36 h k1_ q0 = some y) : V p l e 12 0 s m args below meth c (MQ below (QO KM 43 g (some (.int y)) h) args s 0 (6 * 0) (WA 43 g)) KM 43 g B 4 0 h 36 [(0, .ref (gA g 0)), (1, .ref (gK g k1_))] [.int q0] := by
  unfold fX11_is_36 at hf
  refine v_istore_n (pc := 36) (lv' := [(0, .ref (gA g 0)), (1, .ref (gK g k1_)), (2, .int q0)]) F dX11_is_36 rfl (by decide) rfl ?_
  refine v_iconst (pc := 37) (v := 0) F dX11_is_37 ic_0 ?_
  refine v_istore_n (pc := 38) (lv' := [(0, .ref (gA g 0)), (1, .ref (gK g k1_)), (2, .int q0), (3, .int 0)]) F dX11_is_38 rfl (by decide) rfl ?_
  obtain ⟨x11, e12, hf⟩ := bnd_some hf
  refine tX11_is_39 (s0 := (q0, 0)) hs_k1_ F ?_ e12
  exact tX11_is_82 F hr hf
set_option maxRecDepth 100000 in
set_option maxHeartbeats 4000000 in
theorem tX11_is_35 {p : Program} {l : Launch} {e : Env} {s : State} {m : MethodId} {args : Array Value} {below : List Frame} {meth : Method} {c : Code} {g : GE} {B : Nat} {h : ST} {k1_ : Nat} (hs_k1_ : k1_ < SN) (F : Fx p s m args meth c cX11_is 4 "DustParishModel" 43 g B)
    {y : Int32} (hr : meth.sig.returnType = (some .boolean)) (hf : fX11_is_35 h k1_  = some y) : V p l e 12 0 s m args below meth c (MQ below (QO KM 43 g (some (.int y)) h) args s 0 (6 * 0) (WA 43 g)) KM 43 g B 4 0 h 35 [(0, .ref (gA g 0)), (1, .ref (gK g k1_))] [] := by
  unfold fX11_is_35 at hf
  refine v_iconst (pc := 35) (v := 0) F dX11_is_35 ic_0 ?_
  exact tX11_is_36 hs_k1_ F hr hf
set_option maxRecDepth 100000 in
set_option maxHeartbeats 4000000 in
theorem kX11_is {l : Launch} {g : GE} {B : Nat} {h : ST} {k1_ : Nat} (hs_k1_ : k1_ < SN) {y : Int32} (hf : fX11_is h k1_ = some y) : CT l yX11_is cX11_is 4 (some .boolean) 12 KM 43 g B [.ref (gA g 0), .ref (gK g k1_)] h (some (.int y)) h := by
  refine CT.of pn_X11 (Nat.le_of_ble_eq_true rfl) ?_
  intro p e s m below meth c hr F
  have F : Fx p s m _ meth c cX11_is 4 "DustParishModel" 43 g B := F
  refine V_lv (lv' := [(0, .ref (gA g 0)), (1, .ref (gK g k1_))]) rfl ?_
  unfold fX11_is at hf
  refine v_aload_n (pc := 0) (j := 0) F dX11_is_0 rfl rfl ?_
  refine v_ifl (pc := 1) F fl_X11_208 dX11_is_1 km_0.1 km_0.2 fv_10_26 ?_
  refine v_if_ne (pc := 4) (tgt := 35) F dX11_is_4 (by decide) (fun c1 => ?_) (fun c1 => ?_)
  · have hf := ite_f hf c1
    exact tX11_is_35 hs_k1_ F hr hf
  · have hf := ite_t hf c1
    refine v_aload_n (pc := 7) (j := 0) F dX11_is_7 rfl rfl ?_
    refine v_ifl (pc := 8) F fl_X11_182 dX11_is_8 km_0.1 km_0.2 fv_10_22 ?_
    refine v_iconst (pc := 11) (v := 1) F dX11_is_11 ic_1 ?_
    refine v_icmp_ne (pc := 12) (tgt := 35) F dX11_is_12 (by decide) (fun c15 => ?_) (fun c15 => ?_)
    · have hf := ite_f hf c15
      exact tX11_is_35 hs_k1_ F hr hf
    · have hf := ite_t hf c15
      refine v_aload_n (pc := 15) (j := 1) F dX11_is_15 rfl rfl ?_
      obtain ⟨r16, e17, hf⟩ := bnd_some hf
      refine v_callStr (pc := 16) (As := []) F cl_X11_214 dX11_is_16 (kJ0_length_8abf5 hs_k1_ e17) hs_k1_ rfl rfl rfl (Nat.le_of_ble_eq_true rfl) (by decide) (Nat.zero_le _) ?_
      refine v_aload_n (pc := 19) (j := 0) F dX11_is_19 rfl rfl ?_
      refine v_ifl (pc := 20) F fl_X11_205 dX11_is_20 km_0.1 km_0.2 fv_10_25 ?_
      refine v_aload_n (pc := 23) (j := 0) F dX11_is_23 rfl rfl ?_
      refine v_ifl (pc := 24) F fl_X11_179 dX11_is_24 km_0.1 km_0.2 fv_10_24 ?_
      refine v_isub (pc := 27) F dX11_is_27 ?_
      refine v_icmp_ne (pc := 28) (tgt := 35) F dX11_is_28 (by decide) (fun c18 => ?_) (fun c18 => ?_)
      · have hf := ite_f hf c18
        exact tX11_is_35 hs_k1_ F hr hf
      · have hf := ite_t hf c18
        refine v_iconst (pc := 31) (v := 1) F dX11_is_31 ic_1 ?_
        refine v_goto (pc := 32) (tgt := 36) F dX11_is_32 (by decide) ?_
        exact tX11_is_36 hs_k1_ F hr hf
def fX11_isDoor_59 (h : ST) (l1 : Int32) (l2 : Int32) (l3 : Int32) : Option (Int32 ⊕ (Unit ⊕ Unit)) :=
  some (.inl (l3 + 1))
def fX11_isDoor_37 (h : ST) (l1 : Int32) (l2 : Int32) (l3 : Int32) : Option (Int32 ⊕ (Unit ⊕ Unit)) :=
  bnd (rd 28 (h 8) l3) fun v7 =>
  if v7 = l2 then
  bnd (rd 28 (h 9) l3) fun v10 =>
    if v10 = l1 then
    some (.inr (.inl ()))
    else
    fX11_isDoor_59 h l1 l2 l3
  else
  fX11_isDoor_59 h l1 l2 l3
def fX11_isDoor_3 (h : ST) (l1 : Int32) (l2 : Int32) (s1 : Int32) : Option (Int32 ⊕ (Unit ⊕ Unit)) :=
  bnd (rd 14 (h 3) 8) fun v1 =>
  if (14 + v1) ≤ s1 then
  some (.inr (.inr ()))
  else
  bnd (rd 28 (h 8) s1) fun v4 =>
    if v4 = l1 then
    bnd (rd 28 (h 9) s1) fun v13 =>
      if v13 = l2 then
      some (.inr (.inl ()))
      else
      fX11_isDoor_37 h l1 l2 s1
    else
    fX11_isDoor_37 h l1 l2 s1
def fX11_isDoor_57 (h : ST)  : Option (Int32) :=
  some 1
def fX11_isDoor (h : ST) (a1 : Int32) (a2 : Int32) : Option (Int32) :=
  bnd (lp FU (fX11_isDoor_3 h a1 a2) 14) fun x16 =>
  sm x16 (fun v => fX11_isDoor_57 h ) (fun v => some 0)
set_option maxRecDepth 100000 in
set_option maxHeartbeats 4000000 in
theorem tX11_isDoor_59 {p : Program} {l : Launch} {e : Env} {s : State} {m : MethodId} {args : Array Value} {below : List Frame} {meth : Method} {c : Code} {g : GE} {B : Nat} {h : ST}  {l1 : Int32} {l2 : Int32} {l3 : Int32} (F : Fx p s m args meth c cX11_isDoor 4 "DustParishModel" 43 g B)
    {Q : State → Prop} {y : Int32 ⊕ (Unit ⊕ Unit)} (hk : ∀ v : Int32, y = Sum.inl v → V p l e 1 0 s m args below meth c Q KM 43 g B 4 0 h 3 [(0, .ref (gA g 0)), (1, .int l1), (2, .int l2), (3, .int v)] []) (hx0 : ∀ v : Unit, y = Sum.inr (.inl v) → V p l e 1 0 s m args below meth c Q KM 43 g B 4 0 h 57 [] []) (hx1 : ∀ v : Unit, y = Sum.inr (.inr v) → V p l e 1 0 s m args below meth c Q KM 43 g B 4 0 h 65 [] []) (hf : fX11_isDoor_59 h l1 l2 l3 = some y) : V p l e 1 0 s m args below meth c Q KM 43 g B 4 0 h 59 [(0, .ref (gA g 0)), (1, .int l1), (2, .int l2), (3, .int l3)] [] := by
  unfold fX11_isDoor_59 at hf
  refine v_iinc (pc := 59) (j := 3) (v := l3 + 1) (lv' := [(0, .ref (gA g 0)), (1, .int l1), (2, .int l2), (3, .int (l3 + 1))]) F dX11_isDoor_59 rfl (congrArg (fun z => l3 + z) ic_1) (by decide) rfl ?_
  refine v_goto (pc := 62) (tgt := 3) F dX11_isDoor_62 (by decide) ?_
  exact hk (l3 + 1) (Option.some.inj hf).symm
set_option maxRecDepth 100000 in
set_option maxHeartbeats 4000000 in
theorem tX11_isDoor_37 {p : Program} {l : Launch} {e : Env} {s : State} {m : MethodId} {args : Array Value} {below : List Frame} {meth : Method} {c : Code} {g : GE} {B : Nat} {h : ST}  {l1 : Int32} {l2 : Int32} {l3 : Int32} (F : Fx p s m args meth c cX11_isDoor 4 "DustParishModel" 43 g B)
    {Q : State → Prop} {y : Int32 ⊕ (Unit ⊕ Unit)} (hk : ∀ v : Int32, y = Sum.inl v → V p l e 1 0 s m args below meth c Q KM 43 g B 4 0 h 3 [(0, .ref (gA g 0)), (1, .int l1), (2, .int l2), (3, .int v)] []) (hx0 : ∀ v : Unit, y = Sum.inr (.inl v) → V p l e 1 0 s m args below meth c Q KM 43 g B 4 0 h 57 [] []) (hx1 : ∀ v : Unit, y = Sum.inr (.inr v) → V p l e 1 0 s m args below meth c Q KM 43 g B 4 0 h 65 [] []) (hf : fX11_isDoor_37 h l1 l2 l3 = some y) : V p l e 1 0 s m args below meth c Q KM 43 g B 4 0 h 37 [(0, .ref (gA g 0)), (1, .int l1), (2, .int l2), (3, .int l3)] [] := by
  unfold fX11_isDoor_37 at hf
  refine v_aload_n (pc := 37) (j := 0) F dX11_isDoor_37 rfl rfl ?_
  refine v_ifl (pc := 38) F fl_X11_50 dX11_isDoor_38 km_0.1 km_0.2 fv_10_8 ?_
  refine v_iload_n (pc := 41) (j := 3) F dX11_isDoor_41 rfl rfl ?_
  obtain ⟨v7, e8, hf⟩ := bnd_some hf
  refine v_iald (pc := 42) F dX11_isDoor_42 km_8.1 km_8.2 e8 ?_
  refine v_iload_n (pc := 43) (j := 2) F dX11_isDoor_43 rfl rfl ?_
  refine v_icmp_ne (pc := 44) (tgt := 59) F dX11_isDoor_44 (by decide) (fun c9 => ?_) (fun c9 => ?_)
  · have hf := ite_f hf c9
    exact tX11_isDoor_59 F hk hx0 hx1 hf
  · have hf := ite_t hf c9
    refine v_aload_n (pc := 47) (j := 0) F dX11_isDoor_47 rfl rfl ?_
    refine v_ifl (pc := 48) F fl_X11_53 dX11_isDoor_48 km_0.1 km_0.2 fv_10_9 ?_
    refine v_iload_n (pc := 51) (j := 3) F dX11_isDoor_51 rfl rfl ?_
    obtain ⟨v10, e11, hf⟩ := bnd_some hf
    refine v_iald (pc := 52) F dX11_isDoor_52 km_9.1 km_9.2 e11 ?_
    refine v_iload_n (pc := 53) (j := 1) F dX11_isDoor_53 rfl rfl ?_
    refine v_icmp_ne (pc := 54) (tgt := 59) F dX11_isDoor_54 (by decide) (fun c12 => ?_) (fun c12 => ?_)
    · have hf := ite_f hf c12
      exact tX11_isDoor_59 F hk hx0 hx1 hf
    · have hf := ite_t hf c12
      refine V.sub (lv' := []) [] rfl ?_
      exact hx0 () (Option.some.inj hf).symm
set_option maxRecDepth 100000 in
set_option maxHeartbeats 4000000 in
theorem tX11_isDoor_3 {p : Program} {l : Launch} {e : Env} {s : State} {m : MethodId} {args : Array Value} {below : List Frame} {meth : Method} {c : Code} {g : GE} {B : Nat}  {h : ST}  {l1 : Int32} {l2 : Int32} {Q : State → Prop} {x : (Unit ⊕ Unit)} {nf : Nat} {s0 : Int32} (F : Fx p s m args meth c cX11_isDoor 4 "DustParishModel" 43 g B) (hX0 : ∀ v : Unit, x = (.inl v) → V p l e 1 0 s m args below meth c Q KM 43 g B 4 0 h 57 [] []) (hX1 : ∀ v : Unit, x = (.inr v) → V p l e 1 0 s m args below meth c Q KM 43 g B 4 0 h 65 [] []) (hl : lp nf (fX11_isDoor_3 h l1 l2) s0 = some x) : V p l e 1 0 s m args below meth c Q KM 43 g B 4 0 h 3 [(0, .ref (gA g 0)), (1, .int l1), (2, .int l2), (3, .int s0)] [] := by
  refine lp_ind (P := fun s0 => V p l e 1 0 s m args below meth c Q KM 43 g B 4 0 h 3 [(0, .ref (gA g 0)), (1, .int l1), (2, .int l2), (3, .int s0)] []) ?_ nf s0 hl
  intro s1 y hf hk hx
  have hx0 : ∀ v : Unit, y = Sum.inr (.inl v) → V p l e 1 0 s m args below meth c Q KM 43 g B 4 0 h 57 [] [] := fun v e9 => hX0 v (hx _ e9).symm
  have hx1 : ∀ v : Unit, y = Sum.inr (.inr v) → V p l e 1 0 s m args below meth c Q KM 43 g B 4 0 h 65 [] [] := fun v e9 => hX1 v (hx _ e9).symm
  unfold fX11_isDoor_3 at hf
  refine v_iload_n (pc := 3) (j := 3) F dX11_isDoor_3 rfl rfl ?_
  refine v_bipush (pc := 4) (v := 14) F dX11_isDoor_4 bp_14 ?_
  refine v_aload_n (pc := 6) (j := 0) F dX11_isDoor_6 rfl rfl ?_
  refine v_ifl (pc := 7) F fl_X11_36 dX11_isDoor_7 km_0.1 km_0.2 fv_10_3 ?_
  refine v_bipush (pc := 10) (v := 8) F dX11_isDoor_10 bp_8 ?_
  obtain ⟨v1, e2, hf⟩ := bnd_some hf
  refine v_iald (pc := 12) F dX11_isDoor_12 km_3.1 km_3.2 e2 ?_
  refine v_iadd (pc := 13) F dX11_isDoor_13 ?_
  refine v_icmp_ge (pc := 14) (tgt := 65) F dX11_isDoor_14 (by decide) (fun c3 => ?_) (fun c3 => ?_)
  · have hf := ite_t hf c3
    refine V.sub (lv' := []) [] rfl ?_
    exact hx1 () (Option.some.inj hf).symm
  · have hf := ite_f hf c3
    refine v_aload_n (pc := 17) (j := 0) F dX11_isDoor_17 rfl rfl ?_
    refine v_ifl (pc := 18) F fl_X11_50 dX11_isDoor_18 km_0.1 km_0.2 fv_10_8 ?_
    refine v_iload_n (pc := 21) (j := 3) F dX11_isDoor_21 rfl rfl ?_
    obtain ⟨v4, e5, hf⟩ := bnd_some hf
    refine v_iald (pc := 22) F dX11_isDoor_22 km_8.1 km_8.2 e5 ?_
    refine v_iload_n (pc := 23) (j := 1) F dX11_isDoor_23 rfl rfl ?_
    refine v_icmp_ne (pc := 24) (tgt := 37) F dX11_isDoor_24 (by decide) (fun c6 => ?_) (fun c6 => ?_)
    · have hf := ite_f hf c6
      exact tX11_isDoor_37 F hk hx0 hx1 hf
    · have hf := ite_t hf c6
      refine v_aload_n (pc := 27) (j := 0) F dX11_isDoor_27 rfl rfl ?_
      refine v_ifl (pc := 28) F fl_X11_53 dX11_isDoor_28 km_0.1 km_0.2 fv_10_9 ?_
      refine v_iload_n (pc := 31) (j := 3) F dX11_isDoor_31 rfl rfl ?_
      obtain ⟨v13, e14, hf⟩ := bnd_some hf
      refine v_iald (pc := 32) F dX11_isDoor_32 km_9.1 km_9.2 e14 ?_
      refine v_iload_n (pc := 33) (j := 2) F dX11_isDoor_33 rfl rfl ?_
      refine v_icmp_eq (pc := 34) (tgt := 57) F dX11_isDoor_34 (by decide) (fun c15 => ?_) (fun c15 => ?_)
      · have hf := ite_t hf c15
        refine V.sub (lv' := []) [] rfl ?_
        exact hx0 () (Option.some.inj hf).symm
      · have hf := ite_f hf c15
        exact tX11_isDoor_37 F hk hx0 hx1 hf
set_option maxRecDepth 100000 in
set_option maxHeartbeats 4000000 in
theorem tX11_isDoor_57 {p : Program} {l : Launch} {e : Env} {s : State} {m : MethodId} {args : Array Value} {below : List Frame} {meth : Method} {c : Code} {g : GE} {B : Nat} {h : ST}  (F : Fx p s m args meth c cX11_isDoor 4 "DustParishModel" 43 g B)
    {y : Int32} (hr : meth.sig.returnType = (some .boolean)) (hf : fX11_isDoor_57 h  = some y) : V p l e 1 0 s m args below meth c (MQ below (QO KM 43 g (some (.int y)) h) args s 0 (6 * 0) (WA 43 g)) KM 43 g B 4 0 h 57 [] [] := by
  unfold fX11_isDoor_57 at hf
  refine v_iconst (pc := 57) (v := 1) F dX11_isDoor_57 ic_1 ?_
  exact v_zret (pc := 58) F hr dX11_isDoor_58 rfl (Option.some.inj hf) rfl (Nat.zero_le _)
set_option maxRecDepth 100000 in
set_option maxHeartbeats 4000000 in
theorem kX11_isDoor {l : Launch} {g : GE} {B : Nat} {h : ST} {a1 : Int32} {a2 : Int32} {y : Int32} (hf : fX11_isDoor h a1 a2 = some y) : CT l yX11_isDoor cX11_isDoor 4 (some .boolean) 1 KM 43 g B [.ref (gA g 0), .int a1, .int a2] h (some (.int y)) h := by
  refine CT.of pn_X11 (Nat.le_of_ble_eq_true rfl) ?_
  intro p e s m below meth c hr F
  have F : Fx p s m _ meth c cX11_isDoor 4 "DustParishModel" 43 g B := F
  refine V_lv (lv' := [(0, .ref (gA g 0)), (1, .int a1), (2, .int a2)]) rfl ?_
  unfold fX11_isDoor at hf
  refine v_bipush (pc := 0) (v := 14) F dX11_isDoor_0 bp_14 ?_
  refine v_istore_n (pc := 2) (lv' := [(0, .ref (gA g 0)), (1, .int a1), (2, .int a2), (3, .int 14)]) F dX11_isDoor_2 rfl (by decide) rfl ?_
  obtain ⟨x16, e17, hf⟩ := bnd_some hf
  refine tX11_isDoor_3 (s0 := 14) F (fun v e9 => ?_) (fun v e9 => ?_) e17
  · subst e9
    have hf := sm_l hf
    exact tX11_isDoor_57 F hr hf
  · subst e9
    have hf := sm_r hf
    refine v_iconst (pc := 65) (v := 0) F dX11_isDoor_65 ic_0 ?_
    exact v_zret (pc := 66) F hr dX11_isDoor_66 rfl (Option.some.inj hf) rfl (Nat.zero_le _)
def fX11_isMarked_33 (h : ST) (q0 : Int32) : Option (Int32) :=
  bnd (zb q0) fun z2 =>
  some z2
def fX11_isMarked_32 (h : ST)  : Option (Int32) :=
  fX11_isMarked_33 h 0
def fX11_isMarked (h : ST) (a1 : Int32) : Option (Int32) :=
  if (h 0 26) = 0 then
  if (h 0 22) = 3 then
    bnd (rd 700 (h 18) (h 0 24)) fun v5 =>
      if v5 = a1 then
      fX11_isMarked_33 h 1
      else
      fX11_isMarked_32 h 
    else
    fX11_isMarked_32 h 
  else
  fX11_isMarked_32 h 
set_option maxRecDepth 100000 in
set_option maxHeartbeats 4000000 in
theorem tX11_isMarked_33 {p : Program} {l : Launch} {e : Env} {s : State} {m : MethodId} {args : Array Value} {below : List Frame} {meth : Method} {c : Code} {g : GE} {B : Nat} {h : ST}  {q0 : Int32} (F : Fx p s m args meth c cX11_isMarked 2 "DustParishModel" 43 g B)
    {y : Int32} (hr : meth.sig.returnType = (some .boolean)) (hf : fX11_isMarked_33 h q0 = some y) : V p l e 1 0 s m args below meth c (MQ below (QO KM 43 g (some (.int y)) h) args s 0 (6 * 0) (WA 43 g)) KM 43 g B 2 0 h 33 [] [.int q0] := by
  unfold fX11_isMarked_33 at hf
  obtain ⟨z2, e3, hf⟩ := bnd_some hf
  exact v_zret (pc := 33) F hr dX11_isMarked_33 (zb_in e3).2 ((zb_in e3).1.symm.trans (Option.some.inj hf)) rfl (Nat.zero_le _)
set_option maxRecDepth 100000 in
set_option maxHeartbeats 4000000 in
theorem tX11_isMarked_32 {p : Program} {l : Launch} {e : Env} {s : State} {m : MethodId} {args : Array Value} {below : List Frame} {meth : Method} {c : Code} {g : GE} {B : Nat} {h : ST}  (F : Fx p s m args meth c cX11_isMarked 2 "DustParishModel" 43 g B)
    {y : Int32} (hr : meth.sig.returnType = (some .boolean)) (hf : fX11_isMarked_32 h  = some y) : V p l e 1 0 s m args below meth c (MQ below (QO KM 43 g (some (.int y)) h) args s 0 (6 * 0) (WA 43 g)) KM 43 g B 2 0 h 32 [] [] := by
  unfold fX11_isMarked_32 at hf
  refine v_iconst (pc := 32) (v := 0) F dX11_isMarked_32 ic_0 ?_
  exact tX11_isMarked_33 F hr hf
set_option maxRecDepth 100000 in
set_option maxHeartbeats 4000000 in
theorem kX11_isMarked {l : Launch} {g : GE} {B : Nat} {h : ST} {a1 : Int32} {y : Int32} (hf : fX11_isMarked h a1 = some y) : CT l yX11_isMarked cX11_isMarked 2 (some .boolean) 1 KM 43 g B [.ref (gA g 0), .int a1] h (some (.int y)) h := by
  refine CT.of pn_X11 (Nat.le_of_ble_eq_true rfl) ?_
  intro p e s m below meth c hr F
  have F : Fx p s m _ meth c cX11_isMarked 2 "DustParishModel" 43 g B := F
  refine V_lv (lv' := [(0, .ref (gA g 0)), (1, .int a1)]) rfl ?_
  unfold fX11_isMarked at hf
  refine v_aload_n (pc := 0) (j := 0) F dX11_isMarked_0 rfl rfl ?_
  refine v_ifl (pc := 1) F fl_X11_208 dX11_isMarked_1 km_0.1 km_0.2 fv_10_26 ?_
  refine v_if_ne (pc := 4) (tgt := 32) F dX11_isMarked_4 (by decide) (fun c1 => ?_) (fun c1 => ?_)
  · have hf := ite_f hf c1
    refine V.sub (lv' := []) [] rfl ?_
    exact tX11_isMarked_32 F hr hf
  · have hf := ite_t hf c1
    refine v_aload_n (pc := 7) (j := 0) F dX11_isMarked_7 rfl rfl ?_
    refine v_ifl (pc := 8) F fl_X11_182 dX11_isMarked_8 km_0.1 km_0.2 fv_10_22 ?_
    refine v_iconst (pc := 11) (v := 3) F dX11_isMarked_11 ic_3 ?_
    refine v_icmp_ne (pc := 12) (tgt := 32) F dX11_isMarked_12 (by decide) (fun c4 => ?_) (fun c4 => ?_)
    · have hf := ite_f hf c4
      refine V.sub (lv' := []) [] rfl ?_
      exact tX11_isMarked_32 F hr hf
    · have hf := ite_t hf c4
      refine v_aload_n (pc := 15) (j := 0) F dX11_isMarked_15 rfl rfl ?_
      refine v_ifl (pc := 16) F fl_X11_80 dX11_isMarked_16 km_0.1 km_0.2 fv_10_18 ?_
      refine v_aload_n (pc := 19) (j := 0) F dX11_isMarked_19 rfl rfl ?_
      refine v_ifl (pc := 20) F fl_X11_179 dX11_isMarked_20 km_0.1 km_0.2 fv_10_24 ?_
      obtain ⟨v5, e6, hf⟩ := bnd_some hf
      refine v_iald (pc := 23) F dX11_isMarked_23 km_18.1 km_18.2 e6 ?_
      refine v_iload_n (pc := 24) (j := 1) F dX11_isMarked_24 rfl rfl ?_
      refine v_icmp_ne (pc := 25) (tgt := 32) F dX11_isMarked_25 (by decide) (fun c7 => ?_) (fun c7 => ?_)
      · have hf := ite_f hf c7
        refine V.sub (lv' := []) [] rfl ?_
        exact tX11_isMarked_32 F hr hf
      · have hf := ite_t hf c7
        refine v_iconst (pc := 28) (v := 1) F dX11_isMarked_28 ic_1 ?_
        refine v_goto (pc := 29) (tgt := 33) F dX11_isMarked_29 (by decide) ?_
        refine V.sub (lv' := []) [] rfl ?_
        exact tX11_isMarked_33 F hr hf
def fX11_lay (h : ST) (a1 : Int32) : Option (ST) :=
  if (h 0 26) = 0 then
  bnd (rd 14 (h 3) 13) fun v2 =>
    bnd (wr 1400 h 16 (700 + v2) a1) fun h4 =>
    bnd (rd 14 (h4 3) 13) fun v6 =>
    bnd (wr 14 h4 3 13 (v6 + 1)) fun h8 =>
    some h8
  else
  some h
set_option maxRecDepth 100000 in
set_option maxHeartbeats 4000000 in
theorem kX11_lay {l : Launch} {g : GE} {B : Nat} {h : ST} {a1 : Int32} {y : ST} (hf : fX11_lay h a1 = some y) : CT l yX11_lay cX11_lay 2 none 1 KM 43 g B [.ref (gA g 0), .int a1] h none y := by
  refine CT.of pn_X11 (Nat.le_of_ble_eq_true rfl) ?_
  intro p e s m below meth c hr F
  have F : Fx p s m _ meth c cX11_lay 2 "DustParishModel" 43 g B := F
  refine V_lv (lv' := [(0, .ref (gA g 0)), (1, .int a1)]) rfl ?_
  unfold fX11_lay at hf
  refine v_aload_n (pc := 0) (j := 0) F dX11_lay_0 rfl rfl ?_
  refine v_ifl (pc := 1) F fl_X11_208 dX11_lay_1 km_0.1 km_0.2 fv_10_26 ?_
  refine v_if_eq (pc := 4) (tgt := 8) F dX11_lay_4 (by decide) (fun c1 => ?_) (fun c1 => ?_)
  · have hf := ite_t hf c1
    refine v_aload_n (pc := 8) (j := 0) F dX11_lay_8 rfl rfl ?_
    refine v_ifl (pc := 9) F fl_X11_74 dX11_lay_9 km_0.1 km_0.2 fv_10_16 ?_
    refine v_sipush (pc := 12) (v := 700) F dX11_lay_12 sp_700 ?_
    refine v_aload_n (pc := 15) (j := 0) F dX11_lay_15 rfl rfl ?_
    refine v_ifl (pc := 16) F fl_X11_36 dX11_lay_16 km_0.1 km_0.2 fv_10_3 ?_
    refine v_bipush (pc := 19) (v := 13) F dX11_lay_19 bp_13 ?_
    obtain ⟨v2, e3, hf⟩ := bnd_some hf
    refine v_iald (pc := 21) F dX11_lay_21 km_3.1 km_3.2 e3 ?_
    refine v_iadd (pc := 22) F dX11_lay_22 ?_
    refine v_iload_n (pc := 23) (j := 1) F dX11_lay_23 rfl rfl ?_
    obtain ⟨h4, e5, hf⟩ := bnd_some hf
    refine v_iast (pc := 24) F dX11_lay_24 km_16.1 km_16.2 e5 ?_
    refine v_aload_n (pc := 25) (j := 0) F dX11_lay_25 rfl rfl ?_
    refine v_ifl (pc := 26) F fl_X11_36 dX11_lay_26 km_0.1 km_0.2 fv_10_3 ?_
    refine v_bipush (pc := 29) (v := 13) F dX11_lay_29 bp_13 ?_
    refine v_dup2_11 (pc := 31) F dX11_lay_31 rfl rfl ?_
    obtain ⟨v6, e7, hf⟩ := bnd_some hf
    refine v_iald (pc := 32) F dX11_lay_32 km_3.1 km_3.2 e7 ?_
    refine v_iconst (pc := 33) (v := 1) F dX11_lay_33 ic_1 ?_
    refine v_iadd (pc := 34) F dX11_lay_34 ?_
    obtain ⟨h8, e9, hf⟩ := bnd_some hf
    refine v_iast (pc := 35) F dX11_lay_35 km_3.1 km_3.2 e9 ?_
    exact v_vret (pc := 36) F hr dX11_lay_36 (Option.some.inj hf) (Nat.zero_le _)
  · have hf := ite_f hf c1
    exact v_vret (pc := 7) F hr dX11_lay_7 (Option.some.inj hf) (Nat.zero_le _)
def fX11_lend_77 (h : ST) (l1 : Int32) (l2 : Int32) (l3 : Int32) : Option (Int32 ⊕ (Int32 ⊕ Unit)) :=
  some (.inl (l3 + 1))
def fX11_lend_35 (h : ST) (l1 : Int32) (l2 : Int32) (s1 : Int32) : Option (Int32 ⊕ (Int32 ⊕ Unit)) :=
  bnd (rd 14 (h 3) 0) fun v10 =>
  if v10 ≤ s1 then
  some (.inr (.inr ()))
  else
  if l2 ≤ 0 then
    some (.inr (.inr ()))
    else
    bnd (fX11_hasDoor h s1 l1) fun r14 =>
      if r14 = 0 then
      fX11_lend_77 h l1 l2 s1
      else
      bnd (rd 9 (h 19) s1) fun v17 =>
        bnd (rd 14 (h 3) 5) fun v19 =>
        if (v17 - l2) < v19 then
        fX11_lend_77 h l1 l2 s1
        else
        some (.inr (.inl s1))
def fX11_lend_83 (h : ST)  : Option (Int32 × ST) :=
  some ((-1), h)
def fX11_lend (h : ST) (a1 : Int32) : Option (Int32 × ST) :=
  bnd (pw h 0 2 0) fun h1 =>
  bnd (fX11_isRoom h1 a1) fun r3 =>
  if r3 = 0 then
  bnd (fX11_fail h1 1) fun r24 =>
    some (r24.1, r24.2)
  else
  bnd (rd 14 (h1 3) 5) fun v6 =>
    bnd (rd 9 (h1 19) a1) fun v8 =>
    bnd (lp FU (fX11_lend_35 h1 a1 (v6 - v8)) 0) fun x22 =>
    sm x22 (fun v => some (v, h1)) (fun v => fX11_lend_83 h1 )
set_option maxRecDepth 100000 in
set_option maxHeartbeats 4000000 in
theorem tX11_lend_77 {p : Program} {l : Launch} {e : Env} {s : State} {m : MethodId} {args : Array Value} {below : List Frame} {meth : Method} {c : Code} {g : GE} {B : Nat} {h : ST}  {l1 : Int32} {l2 : Int32} {l3 : Int32} (F : Fx p s m args meth c cX11_lend 4 "DustParishModel" 43 g B)
    {Q : State → Prop} {y : Int32 ⊕ (Int32 ⊕ Unit)} (hk : ∀ v : Int32, y = Sum.inl v → V p l e 3 0 s m args below meth c Q KM 43 g B 4 0 h 35 [(0, .ref (gA g 0)), (1, .int l1), (2, .int l2), (3, .int v)] []) (hx0 : ∀ v : Int32, y = Sum.inr (.inl v) → V p l e 3 0 s m args below meth c Q KM 43 g B 4 0 h 75 [(3, .int v)] []) (hx1 : ∀ v : Unit, y = Sum.inr (.inr v) → V p l e 3 0 s m args below meth c Q KM 43 g B 4 0 h 83 [] []) (hf : fX11_lend_77 h l1 l2 l3 = some y) : V p l e 3 0 s m args below meth c Q KM 43 g B 4 0 h 77 [(0, .ref (gA g 0)), (1, .int l1), (2, .int l2), (3, .int l3)] [] := by
  unfold fX11_lend_77 at hf
  refine v_iinc (pc := 77) (j := 3) (v := l3 + 1) (lv' := [(0, .ref (gA g 0)), (1, .int l1), (2, .int l2), (3, .int (l3 + 1))]) F dX11_lend_77 rfl (congrArg (fun z => l3 + z) ic_1) (by decide) rfl ?_
  refine v_goto (pc := 80) (tgt := 35) F dX11_lend_80 (by decide) ?_
  exact hk (l3 + 1) (Option.some.inj hf).symm
set_option maxRecDepth 100000 in
set_option maxHeartbeats 4000000 in
theorem tX11_lend_35 {p : Program} {l : Launch} {e : Env} {s : State} {m : MethodId} {args : Array Value} {below : List Frame} {meth : Method} {c : Code} {g : GE} {B : Nat}  {h : ST}  {l1 : Int32} {l2 : Int32} {Q : State → Prop} {x : (Int32 ⊕ Unit)} {nf : Nat} {s0 : Int32} (F : Fx p s m args meth c cX11_lend 4 "DustParishModel" 43 g B) (hX0 : ∀ v : Int32, x = (.inl v) → V p l e 3 0 s m args below meth c Q KM 43 g B 4 0 h 75 [(3, .int v)] []) (hX1 : ∀ v : Unit, x = (.inr v) → V p l e 3 0 s m args below meth c Q KM 43 g B 4 0 h 83 [] []) (hl : lp nf (fX11_lend_35 h l1 l2) s0 = some x) : V p l e 3 0 s m args below meth c Q KM 43 g B 4 0 h 35 [(0, .ref (gA g 0)), (1, .int l1), (2, .int l2), (3, .int s0)] [] := by
  refine lp_ind (P := fun s0 => V p l e 3 0 s m args below meth c Q KM 43 g B 4 0 h 35 [(0, .ref (gA g 0)), (1, .int l1), (2, .int l2), (3, .int s0)] []) ?_ nf s0 hl
  intro s1 y hf hk hx
  have hx0 : ∀ v : Int32, y = Sum.inr (.inl v) → V p l e 3 0 s m args below meth c Q KM 43 g B 4 0 h 75 [(3, .int v)] [] := fun v e9 => hX0 v (hx _ e9).symm
  have hx1 : ∀ v : Unit, y = Sum.inr (.inr v) → V p l e 3 0 s m args below meth c Q KM 43 g B 4 0 h 83 [] [] := fun v e9 => hX1 v (hx _ e9).symm
  unfold fX11_lend_35 at hf
  refine v_iload_n (pc := 35) (j := 3) F dX11_lend_35 rfl rfl ?_
  refine v_aload_n (pc := 36) (j := 0) F dX11_lend_36 rfl rfl ?_
  refine v_ifl (pc := 37) F fl_X11_36 dX11_lend_37 km_0.1 km_0.2 fv_10_3 ?_
  refine v_iconst (pc := 40) (v := 0) F dX11_lend_40 ic_0 ?_
  obtain ⟨v10, e11, hf⟩ := bnd_some hf
  refine v_iald (pc := 41) F dX11_lend_41 km_3.1 km_3.2 e11 ?_
  refine v_icmp_ge (pc := 42) (tgt := 83) F dX11_lend_42 (by decide) (fun c12 => ?_) (fun c12 => ?_)
  · have hf := ite_t hf c12
    refine V.sub (lv' := []) [] rfl ?_
    exact hx1 () (Option.some.inj hf).symm
  · have hf := ite_f hf c12
    refine v_iload_n (pc := 45) (j := 2) F dX11_lend_45 rfl rfl ?_
    refine v_if_le (pc := 46) (tgt := 83) F dX11_lend_46 (by decide) (fun c13 => ?_) (fun c13 => ?_)
    · have hf := ite_t hf c13
      refine V.sub (lv' := []) [] rfl ?_
      exact hx1 () (Option.some.inj hf).symm
    · have hf := ite_f hf c13
      refine v_aload_n (pc := 49) (j := 0) F dX11_lend_49 rfl rfl ?_
      refine v_iload_n (pc := 50) (j := 3) F dX11_lend_50 rfl rfl ?_
      refine v_iload_n (pc := 51) (j := 1) F dX11_lend_51 rfl rfl ?_
      obtain ⟨r14, e15, hf⟩ := bnd_some hf
      refine v_callVi (pc := 52) (As := [.int s1, .int l1]) F cl_X11_418 dX11_lend_52 (kX11_hasDoor e15) km_0.1 km_0.2 rc_10 rfl rfl (Nat.le_of_ble_eq_true rfl) (by decide) (Nat.zero_le _) ?_
      refine v_if_eq (pc := 55) (tgt := 77) F dX11_lend_55 (by decide) (fun c16 => ?_) (fun c16 => ?_)
      · have hf := ite_t hf c16
        exact tX11_lend_77 F hk hx0 hx1 hf
      · have hf := ite_f hf c16
        refine v_aload_n (pc := 58) (j := 0) F dX11_lend_58 rfl rfl ?_
        refine v_ifl (pc := 59) F fl_X11_87 dX11_lend_59 km_0.1 km_0.2 fv_10_29 ?_
        refine v_iload_n (pc := 62) (j := 3) F dX11_lend_62 rfl rfl ?_
        obtain ⟨v17, e18, hf⟩ := bnd_some hf
        refine v_iald (pc := 63) F dX11_lend_63 km_19.1 km_19.2 e18 ?_
        refine v_iload_n (pc := 64) (j := 2) F dX11_lend_64 rfl rfl ?_
        refine v_isub (pc := 65) F dX11_lend_65 ?_
        refine v_aload_n (pc := 66) (j := 0) F dX11_lend_66 rfl rfl ?_
        refine v_ifl (pc := 67) F fl_X11_36 dX11_lend_67 km_0.1 km_0.2 fv_10_3 ?_
        refine v_iconst (pc := 70) (v := 5) F dX11_lend_70 ic_5 ?_
        obtain ⟨v19, e20, hf⟩ := bnd_some hf
        refine v_iald (pc := 71) F dX11_lend_71 km_3.1 km_3.2 e20 ?_
        refine v_icmp_lt (pc := 72) (tgt := 77) F dX11_lend_72 (by decide) (fun c21 => ?_) (fun c21 => ?_)
        · have hf := ite_t hf c21
          exact tX11_lend_77 F hk hx0 hx1 hf
        · have hf := ite_f hf c21
          refine V.sub (lv' := [(3, .int s1)]) [3] rfl ?_
          exact hx0 s1 (Option.some.inj hf).symm
set_option maxRecDepth 100000 in
set_option maxHeartbeats 4000000 in
theorem tX11_lend_83 {p : Program} {l : Launch} {e : Env} {s : State} {m : MethodId} {args : Array Value} {below : List Frame} {meth : Method} {c : Code} {g : GE} {B : Nat} {h : ST}  (F : Fx p s m args meth c cX11_lend 4 "DustParishModel" 43 g B)
    {y : Int32 × ST} (hr : meth.sig.returnType = (some .int)) (hf : fX11_lend_83 h  = some y) : V p l e 3 0 s m args below meth c (MQ below (QO KM 43 g (some (.int y.1)) y.2) args s 0 (6 * 0) (WA 43 g)) KM 43 g B 4 0 h 83 [] [] := by
  unfold fX11_lend_83 at hf
  refine v_iconst (pc := 83) (v := (-1)) F dX11_lend_83 ic_m1 ?_
  exact v_iret (pc := 84) F hr dX11_lend_84 (some_fst hf) (some_snd hf) (Nat.zero_le _)
set_option maxRecDepth 100000 in
set_option maxHeartbeats 4000000 in
theorem kX11_lend {l : Launch} {g : GE} {B : Nat} {h : ST} {a1 : Int32} {y : Int32 × ST} (hf : fX11_lend h a1 = some y) : CT l yX11_lend cX11_lend 4 (some .int) 3 KM 43 g B [.ref (gA g 0), .int a1] h (some (.int y.1)) y.2 := by
  refine CT.of pn_X11 (Nat.le_of_ble_eq_true rfl) ?_
  intro p e s m below meth c hr F
  have F : Fx p s m _ meth c cX11_lend 4 "DustParishModel" 43 g B := F
  refine V_lv (lv' := [(0, .ref (gA g 0)), (1, .int a1)]) rfl ?_
  unfold fX11_lend at hf
  refine v_aload_n (pc := 0) (j := 0) F dX11_lend_0 rfl rfl ?_
  refine v_iconst (pc := 1) (v := 0) F dX11_lend_1 ic_0 ?_
  obtain ⟨h1, e2, hf⟩ := bnd_some hf
  refine v_pfl (pc := 2) F fl_X11_157 pl_10_2 dX11_lend_2 km_0.1 km_0.2 fv_10_2 rfl rfl e2 ?_
  refine v_aload_n (pc := 5) (j := 0) F dX11_lend_5 rfl rfl ?_
  refine v_iload_n (pc := 6) (j := 1) F dX11_lend_6 rfl rfl ?_
  obtain ⟨r3, e4, hf⟩ := bnd_some hf
  refine v_callVi (pc := 7) (As := [.int a1]) F cl_X11_387 dX11_lend_7 (kX11_isRoom e4) km_0.1 km_0.2 rc_10 rfl rfl (Nat.le_of_ble_eq_true rfl) (by decide) (Nat.zero_le _) ?_
  refine v_if_ne (pc := 10) (tgt := 19) F dX11_lend_10 (by decide) (fun c5 => ?_) (fun c5 => ?_)
  · have hf := ite_f hf c5
    refine v_aload_n (pc := 19) (j := 0) F dX11_lend_19 rfl rfl ?_
    refine v_ifl (pc := 20) F fl_X11_36 dX11_lend_20 km_0.1 km_0.2 fv_10_3 ?_
    refine v_iconst (pc := 23) (v := 5) F dX11_lend_23 ic_5 ?_
    obtain ⟨v6, e7, hf⟩ := bnd_some hf
    refine v_iald (pc := 24) F dX11_lend_24 km_3.1 km_3.2 e7 ?_
    refine v_aload_n (pc := 25) (j := 0) F dX11_lend_25 rfl rfl ?_
    refine v_ifl (pc := 26) F fl_X11_87 dX11_lend_26 km_0.1 km_0.2 fv_10_29 ?_
    refine v_iload_n (pc := 29) (j := 1) F dX11_lend_29 rfl rfl ?_
    obtain ⟨v8, e9, hf⟩ := bnd_some hf
    refine v_iald (pc := 30) F dX11_lend_30 km_19.1 km_19.2 e9 ?_
    refine v_isub (pc := 31) F dX11_lend_31 ?_
    refine v_istore_n (pc := 32) (lv' := [(0, .ref (gA g 0)), (1, .int a1), (2, .int (v6 - v8))]) F dX11_lend_32 rfl (by decide) rfl ?_
    refine v_iconst (pc := 33) (v := 0) F dX11_lend_33 ic_0 ?_
    refine v_istore_n (pc := 34) (lv' := [(0, .ref (gA g 0)), (1, .int a1), (2, .int (v6 - v8)), (3, .int 0)]) F dX11_lend_34 rfl (by decide) rfl ?_
    obtain ⟨x22, e23, hf⟩ := bnd_some hf
    refine tX11_lend_35 (s0 := 0) F (fun v e9 => ?_) (fun v e9 => ?_) e23
    · subst e9
      have hf := sm_l hf
      refine v_iload_n (pc := 75) (j := 0) F dX11_lend_75 rfl rfl ?_
      exact v_iret (pc := 76) F hr dX11_lend_76 (some_fst hf) (some_snd hf) (Nat.zero_le _)
    · subst e9
      have hf := sm_r hf
      exact tX11_lend_83 F hr hf
  · have hf := ite_t hf c5
    refine v_aload_n (pc := 13) (j := 0) F dX11_lend_13 rfl rfl ?_
    refine v_iconst (pc := 14) (v := 1) F dX11_lend_14 ic_1 ?_
    obtain ⟨r24, e25, hf⟩ := bnd_some hf
    refine v_callVi (pc := 15) (As := [.int 1]) F cl_X11_320 dX11_lend_15 (kX11_fail e25) km_0.1 km_0.2 rc_10 rfl rfl (Nat.le_of_ble_eq_true rfl) (by decide) (Nat.zero_le _) ?_
    exact v_iret (pc := 18) F hr dX11_lend_18 (some_fst hf) (some_snd hf) (Nat.zero_le _)
def fX11_lost_61 (h : ST) (l1 : Int32) (l3 : Int32) (q0 : Int32) (q1 : Int32) (q2 : Int32) : Option ((Int32 × Int32) ⊕ Int32) :=
  some (.inl (q0 + (q1 * q2), l3 + 1))
def fX11_lost_22 (h : ST) (l1 : Int32) (s1 : (Int32 × Int32)) : Option ((Int32 × Int32) ⊕ Int32) :=
  bnd (rd 14 (h 3) 0) fun v6 =>
  if v6 ≤ s1.2 then
  some (.inr s1.1)
  else
  bnd (rd 18 (h 4) s1.2) fun v9 =>
    if v9 = 2 then
    bnd (rd 18 (h 7) s1.2) fun v14 =>
      fX11_lost_61 h l1 s1.2 s1.1 l1 (2 * v14)
    else
    bnd (rd 18 (h 7) s1.2) fun v12 =>
      fX11_lost_61 h l1 s1.2 s1.1 l1 v12
def fX11_lost (h : ST) (a1 : Int32) : Option (Int32 × ST) :=
  bnd (pw h 0 2 0) fun h1 =>
  bnd (fX11_isAhead h1 a1) fun r3 =>
  if r3 = 0 then
  bnd (fX11_fail h1 1) fun r28 =>
    some (r28.1, r28.2)
  else
  bnd (lp FU (fX11_lost_22 h1 a1) (0, 0)) fun x16 =>
    bnd (fX11_pack h1 27 31 0) fun r18 =>
    bnd (fX11_allDust r18) fun r20 =>
    bnd (fX11_goOn r18 a1) fun r22 =>
    bnd (fX11_allDust r22) fun r24 =>
    bnd (fX11_unpack r22 27 31 0) fun r26 =>
    some ((x16 + (r20 + (r18 0 34))) - (r24 + (r22 0 34)), r26)
set_option maxRecDepth 100000 in
set_option maxHeartbeats 4000000 in
theorem tX11_lost_61 {p : Program} {l : Launch} {e : Env} {s : State} {m : MethodId} {args : Array Value} {below : List Frame} {meth : Method} {c : Code} {g : GE} {B : Nat} {h : ST}  {l1 : Int32} {l3 : Int32} {q0 : Int32} {q1 : Int32} {q2 : Int32} (F : Fx p s m args meth c cX11_lost 5 "DustParishModel" 43 g B)
    {Q : State → Prop} {y : (Int32 × Int32) ⊕ Int32} (hk : ∀ v : (Int32 × Int32), y = Sum.inl v → V p l e 8 0 s m args below meth c Q KM 43 g B 5 0 h 22 [(0, .ref (gA g 0)), (1, .int l1), (2, .int v.1), (3, .int v.2)] []) (hx0 : ∀ v : Int32, y = Sum.inr v → V p l e 8 0 s m args below meth c Q KM 43 g B 5 0 h 70 [(0, .ref (gA g 0)), (1, .int l1), (2, .int v)] []) (hf : fX11_lost_61 h l1 l3 q0 q1 q2 = some y) : V p l e 8 0 s m args below meth c Q KM 43 g B 5 0 h 61 [(0, .ref (gA g 0)), (1, .int l1), (3, .int l3)] [.int q2, .int q1, .int q0] := by
  unfold fX11_lost_61 at hf
  refine v_imul (pc := 61) F dX11_lost_61 ?_
  refine v_iadd (pc := 62) F dX11_lost_62 ?_
  refine v_istore_n (pc := 63) (lv' := [(0, .ref (gA g 0)), (1, .int l1), (2, .int (q0 + (q1 * q2))), (3, .int l3)]) F dX11_lost_63 rfl (by decide) rfl ?_
  refine v_iinc (pc := 64) (j := 3) (v := l3 + 1) (lv' := [(0, .ref (gA g 0)), (1, .int l1), (2, .int (q0 + (q1 * q2))), (3, .int (l3 + 1))]) F dX11_lost_64 rfl (congrArg (fun z => l3 + z) ic_1) (by decide) rfl ?_
  refine v_goto (pc := 67) (tgt := 22) F dX11_lost_67 (by decide) ?_
  exact hk (q0 + (q1 * q2), l3 + 1) (Option.some.inj hf).symm
set_option maxRecDepth 100000 in
set_option maxHeartbeats 4000000 in
theorem tX11_lost_22 {p : Program} {l : Launch} {e : Env} {s : State} {m : MethodId} {args : Array Value} {below : List Frame} {meth : Method} {c : Code} {g : GE} {B : Nat}  {h : ST}  {l1 : Int32} {Q : State → Prop} {x : Int32} {nf : Nat} {s0 : (Int32 × Int32)} (F : Fx p s m args meth c cX11_lost 5 "DustParishModel" 43 g B) (hX0 : V p l e 8 0 s m args below meth c Q KM 43 g B 5 0 h 70 [(0, .ref (gA g 0)), (1, .int l1), (2, .int x)] []) (hl : lp nf (fX11_lost_22 h l1) s0 = some x) : V p l e 8 0 s m args below meth c Q KM 43 g B 5 0 h 22 [(0, .ref (gA g 0)), (1, .int l1), (2, .int s0.1), (3, .int s0.2)] [] := by
  refine lp_ind (P := fun s0 => V p l e 8 0 s m args below meth c Q KM 43 g B 5 0 h 22 [(0, .ref (gA g 0)), (1, .int l1), (2, .int s0.1), (3, .int s0.2)] []) ?_ nf s0 hl
  intro s1 y hf hk hx
  have hx0 : ∀ v : Int32, y = Sum.inr v → V p l e 8 0 s m args below meth c Q KM 43 g B 5 0 h 70 [(0, .ref (gA g 0)), (1, .int l1), (2, .int v)] [] := fun v e9 => by rw [hx v e9]; exact hX0
  unfold fX11_lost_22 at hf
  refine v_iload_n (pc := 22) (j := 3) F dX11_lost_22 rfl rfl ?_
  refine v_aload_n (pc := 23) (j := 0) F dX11_lost_23 rfl rfl ?_
  refine v_ifl (pc := 24) F fl_X11_36 dX11_lost_24 km_0.1 km_0.2 fv_10_3 ?_
  refine v_iconst (pc := 27) (v := 0) F dX11_lost_27 ic_0 ?_
  obtain ⟨v6, e7, hf⟩ := bnd_some hf
  refine v_iald (pc := 28) F dX11_lost_28 km_3.1 km_3.2 e7 ?_
  refine v_icmp_ge (pc := 29) (tgt := 70) F dX11_lost_29 (by decide) (fun c8 => ?_) (fun c8 => ?_)
  · have hf := ite_t hf c8
    refine V.sub (lv' := [(0, .ref (gA g 0)), (1, .int l1), (2, .int s1.1)]) [0, 1, 2] rfl ?_
    exact hx0 s1.1 (Option.some.inj hf).symm
  · have hf := ite_f hf c8
    refine v_iload_n (pc := 32) (j := 2) F dX11_lost_32 rfl rfl ?_
    refine v_iload_n (pc := 33) (j := 1) F dX11_lost_33 rfl rfl ?_
    refine v_aload_n (pc := 34) (j := 0) F dX11_lost_34 rfl rfl ?_
    refine v_ifl (pc := 35) F fl_X11_40 dX11_lost_35 km_0.1 km_0.2 fv_10_4 ?_
    refine v_iload_n (pc := 38) (j := 3) F dX11_lost_38 rfl rfl ?_
    obtain ⟨v9, e10, hf⟩ := bnd_some hf
    refine v_iald (pc := 39) F dX11_lost_39 km_4.1 km_4.2 e10 ?_
    refine v_iconst (pc := 40) (v := 2) F dX11_lost_40 ic_2 ?_
    refine v_icmp_ne (pc := 41) (tgt := 55) F dX11_lost_41 (by decide) (fun c11 => ?_) (fun c11 => ?_)
    · have hf := ite_f hf c11
      refine v_aload_n (pc := 55) (j := 0) F dX11_lost_55 rfl rfl ?_
      refine v_ifl (pc := 56) F fl_X11_47 dX11_lost_56 km_0.1 km_0.2 fv_10_7 ?_
      refine v_iload_n (pc := 59) (j := 3) F dX11_lost_59 rfl rfl ?_
      obtain ⟨v12, e13, hf⟩ := bnd_some hf
      refine v_iald (pc := 60) F dX11_lost_60 km_7.1 km_7.2 e13 ?_
      refine V.sub (lv' := [(0, .ref (gA g 0)), (1, .int l1), (3, .int s1.2)]) [0, 1, 3] rfl ?_
      exact tX11_lost_61 F hk hx0 hf
    · have hf := ite_t hf c11
      refine v_iconst (pc := 44) (v := 2) F dX11_lost_44 ic_2 ?_
      refine v_aload_n (pc := 45) (j := 0) F dX11_lost_45 rfl rfl ?_
      refine v_ifl (pc := 46) F fl_X11_47 dX11_lost_46 km_0.1 km_0.2 fv_10_7 ?_
      refine v_iload_n (pc := 49) (j := 3) F dX11_lost_49 rfl rfl ?_
      obtain ⟨v14, e15, hf⟩ := bnd_some hf
      refine v_iald (pc := 50) F dX11_lost_50 km_7.1 km_7.2 e15 ?_
      refine v_imul (pc := 51) F dX11_lost_51 ?_
      refine v_goto (pc := 52) (tgt := 61) F dX11_lost_52 (by decide) ?_
      refine V.sub (lv' := [(0, .ref (gA g 0)), (1, .int l1), (3, .int s1.2)]) [0, 1, 3] rfl ?_
      exact tX11_lost_61 F hk hx0 hf
set_option maxRecDepth 100000 in
set_option maxHeartbeats 4000000 in
theorem kX11_lost {l : Launch} {g : GE} {B : Nat} {h : ST} {a1 : Int32} {y : Int32 × ST} (hf : fX11_lost h a1 = some y) : CT l yX11_lost cX11_lost 5 (some .int) 8 KM 43 g B [.ref (gA g 0), .int a1] h (some (.int y.1)) y.2 := by
  refine CT.of pn_X11 (Nat.le_of_ble_eq_true rfl) ?_
  intro p e s m below meth c hr F
  have F : Fx p s m _ meth c cX11_lost 5 "DustParishModel" 43 g B := F
  refine V_lv (lv' := [(0, .ref (gA g 0)), (1, .int a1)]) rfl ?_
  unfold fX11_lost at hf
  refine v_aload_n (pc := 0) (j := 0) F dX11_lost_0 rfl rfl ?_
  refine v_iconst (pc := 1) (v := 0) F dX11_lost_1 ic_0 ?_
  obtain ⟨h1, e2, hf⟩ := bnd_some hf
  refine v_pfl (pc := 2) F fl_X11_157 pl_10_2 dX11_lost_2 km_0.1 km_0.2 fv_10_2 rfl rfl e2 ?_
  refine v_iload_n (pc := 5) (j := 1) F dX11_lost_5 rfl rfl ?_
  obtain ⟨r3, e4, hf⟩ := bnd_some hf
  refine v_callSi (pc := 6) (As := [.int a1]) F cl_X11_433 dX11_lost_6 (kX11_isAhead e4) rfl rfl (Nat.le_of_ble_eq_true rfl) (by decide) (Nat.zero_le _) ?_
  refine v_if_ne (pc := 9) (tgt := 18) F dX11_lost_9 (by decide) (fun c5 => ?_) (fun c5 => ?_)
  · have hf := ite_f hf c5
    refine v_iconst (pc := 18) (v := 0) F dX11_lost_18 ic_0 ?_
    refine v_istore_n (pc := 19) (lv' := [(0, .ref (gA g 0)), (1, .int a1), (2, .int 0)]) F dX11_lost_19 rfl (by decide) rfl ?_
    refine v_iconst (pc := 20) (v := 0) F dX11_lost_20 ic_0 ?_
    refine v_istore_n (pc := 21) (lv' := [(0, .ref (gA g 0)), (1, .int a1), (2, .int 0), (3, .int 0)]) F dX11_lost_21 rfl (by decide) rfl ?_
    obtain ⟨x16, e17, hf⟩ := bnd_some hf
    refine tX11_lost_22 (s0 := (0, 0)) F ?_ e17
    refine v_aload_n (pc := 70) (j := 0) F dX11_lost_70 rfl rfl ?_
    refine v_aload_n (pc := 71) (j := 0) F dX11_lost_71 rfl rfl ?_
    refine v_ifl (pc := 72) F fl_X11_109 dX11_lost_72 km_0.1 km_0.2 fv_10_42 ?_
    refine v_iconst (pc := 75) (v := 0) F dX11_lost_75 ic_0 ?_
    obtain ⟨r18, e19, hf⟩ := bnd_some hf
    refine v_callVv (pc := 76) (As := [.ref (gA g 27), .int 0]) F cl_X11_403 dX11_lost_76 (kX11_pack km_27.1 km_27.2 e19) km_0.1 km_0.2 rc_10 rfl rfl (Nat.le_of_ble_eq_true rfl) (by decide) (Nat.zero_le _) ?_
    refine v_aload_n (pc := 79) (j := 0) F dX11_lost_79 rfl rfl ?_
    obtain ⟨r20, e21, hf⟩ := bnd_some hf
    refine v_callVi (pc := 80) (As := []) F cl_X11_381 dX11_lost_80 (kX11_allDust e21) km_0.1 km_0.2 rc_10 rfl rfl (Nat.le_of_ble_eq_true rfl) (by decide) (Nat.zero_le _) ?_
    refine v_aload_n (pc := 83) (j := 0) F dX11_lost_83 rfl rfl ?_
    refine v_ifl (pc := 84) F fl_X11_335 dX11_lost_84 km_0.1 km_0.2 fv_10_34 ?_
    refine v_iadd (pc := 87) F dX11_lost_87 ?_
    refine v_istore_n (pc := 88) (lv' := [(0, .ref (gA g 0)), (1, .int a1), (2, .int x16), (3, .int (r20 + (r18 0 34)))]) F dX11_lost_88 rfl (by decide) rfl ?_
    refine v_aload_n (pc := 89) (j := 0) F dX11_lost_89 rfl rfl ?_
    refine v_iload_n (pc := 90) (j := 1) F dX11_lost_90 rfl rfl ?_
    obtain ⟨r22, e23, hf⟩ := bnd_some hf
    refine v_callVv (pc := 91) (As := [.int a1]) F cl_X11_415 dX11_lost_91 (kX11_goOn e23) km_0.1 km_0.2 rc_10 rfl rfl (Nat.le_of_ble_eq_true rfl) (by decide) (Nat.zero_le _) ?_
    refine v_aload_n (pc := 94) (j := 0) F dX11_lost_94 rfl rfl ?_
    obtain ⟨r24, e25, hf⟩ := bnd_some hf
    refine v_callVi (pc := 95) (As := []) F cl_X11_381 dX11_lost_95 (kX11_allDust e25) km_0.1 km_0.2 rc_10 rfl rfl (Nat.le_of_ble_eq_true rfl) (by decide) (Nat.zero_le _) ?_
    refine v_aload_n (pc := 98) (j := 0) F dX11_lost_98 rfl rfl ?_
    refine v_ifl (pc := 99) F fl_X11_335 dX11_lost_99 km_0.1 km_0.2 fv_10_34 ?_
    refine v_iadd (pc := 102) F dX11_lost_102 ?_
    refine v_istore (pc := 103) (lv' := [(0, .ref (gA g 0)), (1, .int a1), (2, .int x16), (3, .int (r20 + (r18 0 34))), (4, .int (r24 + (r22 0 34)))]) F dX11_lost_103 (by decide) rfl ?_
    refine v_aload_n (pc := 105) (j := 0) F dX11_lost_105 rfl rfl ?_
    refine v_aload_n (pc := 106) (j := 0) F dX11_lost_106 rfl rfl ?_
    refine v_ifl (pc := 107) F fl_X11_109 dX11_lost_107 km_0.1 km_0.2 fv_10_42 ?_
    refine v_iconst (pc := 110) (v := 0) F dX11_lost_110 ic_0 ?_
    obtain ⟨r26, e27, hf⟩ := bnd_some hf
    refine v_callVv (pc := 111) (As := [.ref (gA g 27), .int 0]) F cl_X11_430 dX11_lost_111 (kX11_unpack km_27.1 km_27.2 e27) km_0.1 km_0.2 rc_10 rfl rfl (Nat.le_of_ble_eq_true rfl) (by decide) (Nat.zero_le _) ?_
    refine v_iload_n (pc := 114) (j := 2) F dX11_lost_114 rfl rfl ?_
    refine v_iload_n (pc := 115) (j := 3) F dX11_lost_115 rfl rfl ?_
    refine v_iadd (pc := 116) F dX11_lost_116 ?_
    refine v_iload (pc := 117) (j := 4) F dX11_lost_117 rfl ?_
    refine v_isub (pc := 119) F dX11_lost_119 ?_
    exact v_iret (pc := 120) F hr dX11_lost_120 (some_fst hf) (some_snd hf) (Nat.zero_le _)
  · have hf := ite_t hf c5
    refine v_aload_n (pc := 12) (j := 0) F dX11_lost_12 rfl rfl ?_
    refine v_iconst (pc := 13) (v := 1) F dX11_lost_13 ic_1 ?_
    obtain ⟨r28, e29, hf⟩ := bnd_some hf
    refine v_callVi (pc := 14) (As := [.int 1]) F cl_X11_320 dX11_lost_14 (kX11_fail e29) km_0.1 km_0.2 rc_10 rfl rfl (Nat.le_of_ble_eq_true rfl) (by decide) (Nat.zero_le _) ?_
    exact v_iret (pc := 17) F hr dX11_lost_17 (some_fst hf) (some_snd hf) (Nat.zero_le _)
def fX11_mark_31 (h : ST)  : Option (ST) :=
  some h
def fX11_mark_20 (h : ST)  : Option (ST) :=
  if (h 0 26) = 0 then
  bnd (fX11_stepOn h) fun r3 =>
    fX11_mark_31 r3 
  else
  fX11_mark_31 h 
def fX11_mark (h : ST) (a1 : Int32) : Option (ST) :=
  if (h 0 26) = 0 then
  bnd (fX11_isMarked h a1) fun r5 =>
    if r5 = 0 then
    bnd (fX11_wrong h 1) fun r8 =>
      fX11_mark_20 r8 
    else
    fX11_mark_20 h 
  else
  fX11_mark_20 h 
set_option maxRecDepth 100000 in
set_option maxHeartbeats 4000000 in
theorem tX11_mark_31 {p : Program} {l : Launch} {e : Env} {s : State} {m : MethodId} {args : Array Value} {below : List Frame} {meth : Method} {c : Code} {g : GE} {B : Nat} {h : ST}  (F : Fx p s m args meth c cX11_mark 2 "DustParishModel" 43 g B)
    {y : ST} (hr : meth.sig.returnType = none) (hf : fX11_mark_31 h  = some y) : V p l e 3 0 s m args below meth c (MQ below (QO KM 43 g none y) args s 0 (6 * 0) (WA 43 g)) KM 43 g B 2 0 h 31 [] [] := by
  unfold fX11_mark_31 at hf
  exact v_vret (pc := 31) F hr dX11_mark_31 (Option.some.inj hf) (Nat.zero_le _)
set_option maxRecDepth 100000 in
set_option maxHeartbeats 4000000 in
theorem tX11_mark_20 {p : Program} {l : Launch} {e : Env} {s : State} {m : MethodId} {args : Array Value} {below : List Frame} {meth : Method} {c : Code} {g : GE} {B : Nat} {h : ST}  (F : Fx p s m args meth c cX11_mark 2 "DustParishModel" 43 g B)
    {y : ST} (hr : meth.sig.returnType = none) (hf : fX11_mark_20 h  = some y) : V p l e 3 0 s m args below meth c (MQ below (QO KM 43 g none y) args s 0 (6 * 0) (WA 43 g)) KM 43 g B 2 0 h 20 [(0, .ref (gA g 0))] [] := by
  unfold fX11_mark_20 at hf
  refine v_aload_n (pc := 20) (j := 0) F dX11_mark_20 rfl rfl ?_
  refine v_ifl (pc := 21) F fl_X11_208 dX11_mark_21 km_0.1 km_0.2 fv_10_26 ?_
  refine v_if_ne (pc := 24) (tgt := 31) F dX11_mark_24 (by decide) (fun c2 => ?_) (fun c2 => ?_)
  · have hf := ite_f hf c2
    refine V.sub (lv' := []) [] rfl ?_
    exact tX11_mark_31 F hr hf
  · have hf := ite_t hf c2
    refine v_aload_n (pc := 27) (j := 0) F dX11_mark_27 rfl rfl ?_
    obtain ⟨r3, e4, hf⟩ := bnd_some hf
    refine v_callVv (pc := 28) (As := []) F cl_X11_233 dX11_mark_28 (kX11_stepOn e4) km_0.1 km_0.2 rc_10 rfl rfl (Nat.le_of_ble_eq_true rfl) (by decide) (Nat.zero_le _) ?_
    refine V.sub (lv' := []) [] rfl ?_
    exact tX11_mark_31 F hr hf
set_option maxRecDepth 100000 in
set_option maxHeartbeats 4000000 in
theorem kX11_mark {l : Launch} {g : GE} {B : Nat} {h : ST} {a1 : Int32} {y : ST} (hf : fX11_mark h a1 = some y) : CT l yX11_mark cX11_mark 2 none 3 KM 43 g B [.ref (gA g 0), .int a1] h none y := by
  refine CT.of pn_X11 (Nat.le_of_ble_eq_true rfl) ?_
  intro p e s m below meth c hr F
  have F : Fx p s m _ meth c cX11_mark 2 "DustParishModel" 43 g B := F
  refine V_lv (lv' := [(0, .ref (gA g 0)), (1, .int a1)]) rfl ?_
  unfold fX11_mark at hf
  refine v_aload_n (pc := 0) (j := 0) F dX11_mark_0 rfl rfl ?_
  refine v_ifl (pc := 1) F fl_X11_208 dX11_mark_1 km_0.1 km_0.2 fv_10_26 ?_
  refine v_if_ne (pc := 4) (tgt := 20) F dX11_mark_4 (by decide) (fun c1 => ?_) (fun c1 => ?_)
  · have hf := ite_f hf c1
    refine V.sub (lv' := [(0, .ref (gA g 0))]) [0] rfl ?_
    exact tX11_mark_20 F hr hf
  · have hf := ite_t hf c1
    refine v_aload_n (pc := 7) (j := 0) F dX11_mark_7 rfl rfl ?_
    refine v_iload_n (pc := 8) (j := 1) F dX11_mark_8 rfl rfl ?_
    obtain ⟨r5, e6, hf⟩ := bnd_some hf
    refine v_callVi (pc := 9) (As := [.int a1]) F cl_X11_226 dX11_mark_9 (kX11_isMarked e6) km_0.1 km_0.2 rc_10 rfl rfl (Nat.le_of_ble_eq_true rfl) (by decide) (Nat.zero_le _) ?_
    refine v_if_ne (pc := 12) (tgt := 20) F dX11_mark_12 (by decide) (fun c7 => ?_) (fun c7 => ?_)
    · have hf := ite_f hf c7
      refine V.sub (lv' := [(0, .ref (gA g 0))]) [0] rfl ?_
      exact tX11_mark_20 F hr hf
    · have hf := ite_t hf c7
      refine v_aload_n (pc := 15) (j := 0) F dX11_mark_15 rfl rfl ?_
      refine v_iconst (pc := 16) (v := 1) F dX11_mark_16 ic_1 ?_
      obtain ⟨r8, e9, hf⟩ := bnd_some hf
      refine v_callVv (pc := 17) (As := [.int 1]) F cl_X11_229 dX11_mark_17 (kX11_wrong e9) km_0.1 km_0.2 rc_10 rfl rfl (Nat.le_of_ble_eq_true rfl) (by decide) (Nat.zero_le _) ?_
      refine V.sub (lv' := [(0, .ref (gA g 0))]) [0] rfl ?_
      exact tX11_mark_20 F hr hf
def fX11_near_82 (h : ST) (l1 : Int32) (l2 : Int32) (l4 : Int32) (q0 : Int32) (q1 : Int32) : Option ((Int32 × Int32) ⊕ Int32) :=
  some (.inl (q0 ||| q1, l4 + 1))
def fX11_near_81 (h : ST) (l1 : Int32) (l2 : Int32) (l4 : Int32) (q0 : Int32) : Option ((Int32 × Int32) ⊕ Int32) :=
  fX11_near_82 h l1 l2 l4 q0 0
def fX11_near_28 (h : ST) (l1 : Int32) (l2 : Int32) (s1 : (Int32 × Int32)) : Option ((Int32 × Int32) ⊕ Int32) :=
  bnd (rd 14 (h 3) 0) fun v8 =>
  if v8 ≤ s1.2 then
  some (.inr s1.1)
  else
  bnd (rd 81 (h 26) ((9 * l1) + s1.2)) fun v11 =>
    if 1000000 ≤ v11 then
    fX11_near_81 h l1 l2 s1.2 s1.1
    else
    bnd (rd 81 (h 26) ((9 * l1) + s1.2)) fun v14 =>
      if l2 < v14 then
      fX11_near_81 h l1 l2 s1.2 s1.1
      else
      fX11_near_82 h l1 l2 s1.2 s1.1 ((1 : Int32) <<< (s1.2 &&& 31))
def fX11_near (h : ST) (a1 : Int32) (a2 : Int32) : Option (Int32 × ST) :=
  bnd (pw h 0 2 0) fun h1 =>
  bnd (fX11_isRoom h1 a1) fun r3 =>
  if r3 = 0 then
  bnd (fX11_fail h1 1) fun r19 =>
    some (r19.1, r19.2)
  else
  bnd (fX11_tellWays h1) fun r6 =>
    bnd (lp FU (fX11_near_28 r6 a1 a2) (0, 0)) fun x17 =>
    some (x17, r6)
set_option maxRecDepth 100000 in
set_option maxHeartbeats 4000000 in
theorem tX11_near_82 {p : Program} {l : Launch} {e : Env} {s : State} {m : MethodId} {args : Array Value} {below : List Frame} {meth : Method} {c : Code} {g : GE} {B : Nat} {h : ST}  {l1 : Int32} {l2 : Int32} {l4 : Int32} {q0 : Int32} {q1 : Int32} (F : Fx p s m args meth c cX11_near 5 "DustParishModel" 43 g B)
    {Q : State → Prop} {y : (Int32 × Int32) ⊕ Int32} (hk : ∀ v : (Int32 × Int32), y = Sum.inl v → V p l e 3 0 s m args below meth c Q KM 43 g B 5 0 h 28 [(0, .ref (gA g 0)), (1, .int l1), (2, .int l2), (3, .int v.1), (4, .int v.2)] []) (hx0 : ∀ v : Int32, y = Sum.inr v → V p l e 3 0 s m args below meth c Q KM 43 g B 5 0 h 90 [(3, .int v)] []) (hf : fX11_near_82 h l1 l2 l4 q0 q1 = some y) : V p l e 3 0 s m args below meth c Q KM 43 g B 5 0 h 82 [(0, .ref (gA g 0)), (1, .int l1), (2, .int l2), (4, .int l4)] [.int q1, .int q0] := by
  unfold fX11_near_82 at hf
  refine v_ior (pc := 82) F dX11_near_82 ?_
  refine v_istore_n (pc := 83) (lv' := [(0, .ref (gA g 0)), (1, .int l1), (2, .int l2), (3, .int (q0 ||| q1)), (4, .int l4)]) F dX11_near_83 rfl (by decide) rfl ?_
  refine v_iinc (pc := 84) (j := 4) (v := l4 + 1) (lv' := [(0, .ref (gA g 0)), (1, .int l1), (2, .int l2), (3, .int (q0 ||| q1)), (4, .int (l4 + 1))]) F dX11_near_84 rfl (congrArg (fun z => l4 + z) ic_1) (by decide) rfl ?_
  refine v_goto (pc := 87) (tgt := 28) F dX11_near_87 (by decide) ?_
  exact hk (q0 ||| q1, l4 + 1) (Option.some.inj hf).symm
set_option maxRecDepth 100000 in
set_option maxHeartbeats 4000000 in
theorem tX11_near_81 {p : Program} {l : Launch} {e : Env} {s : State} {m : MethodId} {args : Array Value} {below : List Frame} {meth : Method} {c : Code} {g : GE} {B : Nat} {h : ST}  {l1 : Int32} {l2 : Int32} {l4 : Int32} {q0 : Int32} (F : Fx p s m args meth c cX11_near 5 "DustParishModel" 43 g B)
    {Q : State → Prop} {y : (Int32 × Int32) ⊕ Int32} (hk : ∀ v : (Int32 × Int32), y = Sum.inl v → V p l e 3 0 s m args below meth c Q KM 43 g B 5 0 h 28 [(0, .ref (gA g 0)), (1, .int l1), (2, .int l2), (3, .int v.1), (4, .int v.2)] []) (hx0 : ∀ v : Int32, y = Sum.inr v → V p l e 3 0 s m args below meth c Q KM 43 g B 5 0 h 90 [(3, .int v)] []) (hf : fX11_near_81 h l1 l2 l4 q0 = some y) : V p l e 3 0 s m args below meth c Q KM 43 g B 5 0 h 81 [(0, .ref (gA g 0)), (1, .int l1), (2, .int l2), (4, .int l4)] [.int q0] := by
  unfold fX11_near_81 at hf
  refine v_iconst (pc := 81) (v := 0) F dX11_near_81 ic_0 ?_
  exact tX11_near_82 F hk hx0 hf
set_option maxRecDepth 100000 in
set_option maxHeartbeats 4000000 in
theorem tX11_near_28 {p : Program} {l : Launch} {e : Env} {s : State} {m : MethodId} {args : Array Value} {below : List Frame} {meth : Method} {c : Code} {g : GE} {B : Nat}  {h : ST}  {l1 : Int32} {l2 : Int32} {Q : State → Prop} {x : Int32} {nf : Nat} {s0 : (Int32 × Int32)} (F : Fx p s m args meth c cX11_near 5 "DustParishModel" 43 g B) (hX0 : V p l e 3 0 s m args below meth c Q KM 43 g B 5 0 h 90 [(3, .int x)] []) (hl : lp nf (fX11_near_28 h l1 l2) s0 = some x) : V p l e 3 0 s m args below meth c Q KM 43 g B 5 0 h 28 [(0, .ref (gA g 0)), (1, .int l1), (2, .int l2), (3, .int s0.1), (4, .int s0.2)] [] := by
  refine lp_ind (P := fun s0 => V p l e 3 0 s m args below meth c Q KM 43 g B 5 0 h 28 [(0, .ref (gA g 0)), (1, .int l1), (2, .int l2), (3, .int s0.1), (4, .int s0.2)] []) ?_ nf s0 hl
  intro s1 y hf hk hx
  have hx0 : ∀ v : Int32, y = Sum.inr v → V p l e 3 0 s m args below meth c Q KM 43 g B 5 0 h 90 [(3, .int v)] [] := fun v e9 => by rw [hx v e9]; exact hX0
  unfold fX11_near_28 at hf
  refine v_iload (pc := 28) (j := 4) F dX11_near_28 rfl ?_
  refine v_aload_n (pc := 30) (j := 0) F dX11_near_30 rfl rfl ?_
  refine v_ifl (pc := 31) F fl_X11_36 dX11_near_31 km_0.1 km_0.2 fv_10_3 ?_
  refine v_iconst (pc := 34) (v := 0) F dX11_near_34 ic_0 ?_
  obtain ⟨v8, e9, hf⟩ := bnd_some hf
  refine v_iald (pc := 35) F dX11_near_35 km_3.1 km_3.2 e9 ?_
  refine v_icmp_ge (pc := 36) (tgt := 90) F dX11_near_36 (by decide) (fun c10 => ?_) (fun c10 => ?_)
  · have hf := ite_t hf c10
    refine V.sub (lv' := [(3, .int s1.1)]) [3] rfl ?_
    exact hx0 s1.1 (Option.some.inj hf).symm
  · have hf := ite_f hf c10
    refine v_iload_n (pc := 39) (j := 3) F dX11_near_39 rfl rfl ?_
    refine v_aload_n (pc := 40) (j := 0) F dX11_near_40 rfl rfl ?_
    refine v_ifl (pc := 41) F fl_X11_106 dX11_near_41 km_0.1 km_0.2 fv_10_41 ?_
    refine v_bipush (pc := 44) (v := 9) F dX11_near_44 bp_9 ?_
    refine v_iload_n (pc := 46) (j := 1) F dX11_near_46 rfl rfl ?_
    refine v_imul (pc := 47) F dX11_near_47 ?_
    refine v_iload (pc := 48) (j := 4) F dX11_near_48 rfl ?_
    refine v_iadd (pc := 50) F dX11_near_50 ?_
    obtain ⟨v11, e12, hf⟩ := bnd_some hf
    refine v_iald (pc := 51) F dX11_near_51 km_26.1 km_26.2 e12 ?_
    refine v_ldcw (pc := 52) F tw_1656 dX11_near_52 ?_
    refine v_icmp_ge (pc := 55) (tgt := 81) F dX11_near_55 (by decide) (fun c13 => ?_) (fun c13 => ?_)
    · have hf := ite_t hf c13
      refine V.sub (lv' := [(0, .ref (gA g 0)), (1, .int l1), (2, .int l2), (4, .int s1.2)]) [0, 1, 2, 4] rfl ?_
      exact tX11_near_81 F hk hx0 hf
    · have hf := ite_f hf c13
      refine v_aload_n (pc := 58) (j := 0) F dX11_near_58 rfl rfl ?_
      refine v_ifl (pc := 59) F fl_X11_106 dX11_near_59 km_0.1 km_0.2 fv_10_41 ?_
      refine v_bipush (pc := 62) (v := 9) F dX11_near_62 bp_9 ?_
      refine v_iload_n (pc := 64) (j := 1) F dX11_near_64 rfl rfl ?_
      refine v_imul (pc := 65) F dX11_near_65 ?_
      refine v_iload (pc := 66) (j := 4) F dX11_near_66 rfl ?_
      refine v_iadd (pc := 68) F dX11_near_68 ?_
      obtain ⟨v14, e15, hf⟩ := bnd_some hf
      refine v_iald (pc := 69) F dX11_near_69 km_26.1 km_26.2 e15 ?_
      refine v_iload_n (pc := 70) (j := 2) F dX11_near_70 rfl rfl ?_
      refine v_icmp_gt (pc := 71) (tgt := 81) F dX11_near_71 (by decide) (fun c16 => ?_) (fun c16 => ?_)
      · have hf := ite_t hf c16
        refine V.sub (lv' := [(0, .ref (gA g 0)), (1, .int l1), (2, .int l2), (4, .int s1.2)]) [0, 1, 2, 4] rfl ?_
        exact tX11_near_81 F hk hx0 hf
      · have hf := ite_f hf c16
        refine v_iconst (pc := 74) (v := 1) F dX11_near_74 ic_1 ?_
        refine v_iload (pc := 75) (j := 4) F dX11_near_75 rfl ?_
        refine v_ishl (pc := 77) F dX11_near_77 ?_
        refine v_goto (pc := 78) (tgt := 82) F dX11_near_78 (by decide) ?_
        refine V.sub (lv' := [(0, .ref (gA g 0)), (1, .int l1), (2, .int l2), (4, .int s1.2)]) [0, 1, 2, 4] rfl ?_
        exact tX11_near_82 F hk hx0 hf
set_option maxRecDepth 100000 in
set_option maxHeartbeats 4000000 in
theorem kX11_near {l : Launch} {g : GE} {B : Nat} {h : ST} {a1 : Int32} {a2 : Int32} {y : Int32 × ST} (hf : fX11_near h a1 a2 = some y) : CT l yX11_near cX11_near 5 (some .int) 3 KM 43 g B [.ref (gA g 0), .int a1, .int a2] h (some (.int y.1)) y.2 := by
  refine CT.of pn_X11 (Nat.le_of_ble_eq_true rfl) ?_
  intro p e s m below meth c hr F
  have F : Fx p s m _ meth c cX11_near 5 "DustParishModel" 43 g B := F
  refine V_lv (lv' := [(0, .ref (gA g 0)), (1, .int a1), (2, .int a2)]) rfl ?_
  unfold fX11_near at hf
  refine v_aload_n (pc := 0) (j := 0) F dX11_near_0 rfl rfl ?_
  refine v_iconst (pc := 1) (v := 0) F dX11_near_1 ic_0 ?_
  obtain ⟨h1, e2, hf⟩ := bnd_some hf
  refine v_pfl (pc := 2) F fl_X11_157 pl_10_2 dX11_near_2 km_0.1 km_0.2 fv_10_2 rfl rfl e2 ?_
  refine v_aload_n (pc := 5) (j := 0) F dX11_near_5 rfl rfl ?_
  refine v_iload_n (pc := 6) (j := 1) F dX11_near_6 rfl rfl ?_
  obtain ⟨r3, e4, hf⟩ := bnd_some hf
  refine v_callVi (pc := 7) (As := [.int a1]) F cl_X11_387 dX11_near_7 (kX11_isRoom e4) km_0.1 km_0.2 rc_10 rfl rfl (Nat.le_of_ble_eq_true rfl) (by decide) (Nat.zero_le _) ?_
  refine v_if_ne (pc := 10) (tgt := 19) F dX11_near_10 (by decide) (fun c5 => ?_) (fun c5 => ?_)
  · have hf := ite_f hf c5
    refine v_aload_n (pc := 19) (j := 0) F dX11_near_19 rfl rfl ?_
    obtain ⟨r6, e7, hf⟩ := bnd_some hf
    refine v_callVv (pc := 20) (As := []) F cl_X11_391 dX11_near_20 (kX11_tellWays e7) km_0.1 km_0.2 rc_10 rfl rfl (Nat.le_of_ble_eq_true rfl) (by decide) (Nat.zero_le _) ?_
    refine v_iconst (pc := 23) (v := 0) F dX11_near_23 ic_0 ?_
    refine v_istore_n (pc := 24) (lv' := [(0, .ref (gA g 0)), (1, .int a1), (2, .int a2), (3, .int 0)]) F dX11_near_24 rfl (by decide) rfl ?_
    refine v_iconst (pc := 25) (v := 0) F dX11_near_25 ic_0 ?_
    refine v_istore (pc := 26) (lv' := [(0, .ref (gA g 0)), (1, .int a1), (2, .int a2), (3, .int 0), (4, .int 0)]) F dX11_near_26 (by decide) rfl ?_
    obtain ⟨x17, e18, hf⟩ := bnd_some hf
    refine tX11_near_28 (s0 := (0, 0)) F ?_ e18
    refine v_iload_n (pc := 90) (j := 0) F dX11_near_90 rfl rfl ?_
    exact v_iret (pc := 91) F hr dX11_near_91 (some_fst hf) (some_snd hf) (Nat.zero_le _)
  · have hf := ite_t hf c5
    refine v_aload_n (pc := 13) (j := 0) F dX11_near_13 rfl rfl ?_
    refine v_iconst (pc := 14) (v := 1) F dX11_near_14 ic_1 ?_
    obtain ⟨r19, e20, hf⟩ := bnd_some hf
    refine v_callVi (pc := 15) (As := [.int 1]) F cl_X11_320 dX11_near_15 (kX11_fail e20) km_0.1 km_0.2 rc_10 rfl rfl (Nat.le_of_ble_eq_true rfl) (by decide) (Nat.zero_le _) ?_
    exact v_iret (pc := 18) F hr dX11_near_18 (some_fst hf) (some_snd hf) (Nat.zero_le _)
def fX11_numberNow_74 (h : ST) (q0 : Int32) : Option (Int32 × ST) :=
  some (q0, h)
def fX11_numberNow_59 (h : ST)  : Option (Int32 × ST) :=
  if (h 0 26) = 0 then
  fX11_numberNow_74 h (h 0 23)
  else
  fX11_numberNow_74 h 0
def fX11_numberNow_54 (h : ST)  : Option (Int32 × ST) :=
  bnd (fX11_wrong h 2) fun r4 =>
  fX11_numberNow_59 r4 
def fX11_numberNow (h : ST) (a1 : Int32) (a2 : Int32) : Option (Int32 × ST) :=
  if (h 0 26) = 0 then
  if (h 0 22) = 2 then
    if 4 < ((h 0 25) - (h 0 24)) then
      fX11_numberNow_54 h 
      else
      if (h 0 23) < a1 then
        fX11_numberNow_54 h 
        else
        if (h 0 23) ≤ a2 then
          fX11_numberNow_59 h 
          else
          fX11_numberNow_54 h 
    else
    bnd (fX11_wrong h 1) fun r9 =>
      fX11_numberNow_59 r9 
  else
  some (0, h)
set_option maxRecDepth 100000 in
set_option maxHeartbeats 4000000 in
theorem tX11_numberNow_74 {p : Program} {l : Launch} {e : Env} {s : State} {m : MethodId} {args : Array Value} {below : List Frame} {meth : Method} {c : Code} {g : GE} {B : Nat} {h : ST}  {q0 : Int32} (F : Fx p s m args meth c cX11_numberNow 3 "DustParishModel" 43 g B)
    {y : Int32 × ST} (hr : meth.sig.returnType = (some .int)) (hf : fX11_numberNow_74 h q0 = some y) : V p l e 2 0 s m args below meth c (MQ below (QO KM 43 g (some (.int y.1)) y.2) args s 0 (6 * 0) (WA 43 g)) KM 43 g B 3 0 h 74 [] [.int q0] := by
  unfold fX11_numberNow_74 at hf
  exact v_iret (pc := 74) F hr dX11_numberNow_74 (some_fst hf) (some_snd hf) (Nat.zero_le _)
set_option maxRecDepth 100000 in
set_option maxHeartbeats 4000000 in
theorem tX11_numberNow_59 {p : Program} {l : Launch} {e : Env} {s : State} {m : MethodId} {args : Array Value} {below : List Frame} {meth : Method} {c : Code} {g : GE} {B : Nat} {h : ST}  (F : Fx p s m args meth c cX11_numberNow 3 "DustParishModel" 43 g B)
    {y : Int32 × ST} (hr : meth.sig.returnType = (some .int)) (hf : fX11_numberNow_59 h  = some y) : V p l e 2 0 s m args below meth c (MQ below (QO KM 43 g (some (.int y.1)) y.2) args s 0 (6 * 0) (WA 43 g)) KM 43 g B 3 0 h 59 [(0, .ref (gA g 0))] [] := by
  unfold fX11_numberNow_59 at hf
  refine v_aload_n (pc := 59) (j := 0) F dX11_numberNow_59 rfl rfl ?_
  refine v_ifl (pc := 60) F fl_X11_208 dX11_numberNow_60 km_0.1 km_0.2 fv_10_26 ?_
  refine v_if_ne (pc := 63) (tgt := 73) F dX11_numberNow_63 (by decide) (fun c6 => ?_) (fun c6 => ?_)
  · have hf := ite_f hf c6
    refine v_iconst (pc := 73) (v := 0) F dX11_numberNow_73 ic_0 ?_
    refine V.sub (lv' := []) [] rfl ?_
    exact tX11_numberNow_74 F hr hf
  · have hf := ite_t hf c6
    refine v_aload_n (pc := 66) (j := 0) F dX11_numberNow_66 rfl rfl ?_
    refine v_ifl (pc := 67) F fl_X11_192 dX11_numberNow_67 km_0.1 km_0.2 fv_10_23 ?_
    refine v_goto (pc := 70) (tgt := 74) F dX11_numberNow_70 (by decide) ?_
    refine V.sub (lv' := []) [] rfl ?_
    exact tX11_numberNow_74 F hr hf
set_option maxRecDepth 100000 in
set_option maxHeartbeats 4000000 in
theorem tX11_numberNow_54 {p : Program} {l : Launch} {e : Env} {s : State} {m : MethodId} {args : Array Value} {below : List Frame} {meth : Method} {c : Code} {g : GE} {B : Nat} {h : ST}  (F : Fx p s m args meth c cX11_numberNow 3 "DustParishModel" 43 g B)
    {y : Int32 × ST} (hr : meth.sig.returnType = (some .int)) (hf : fX11_numberNow_54 h  = some y) : V p l e 2 0 s m args below meth c (MQ below (QO KM 43 g (some (.int y.1)) y.2) args s 0 (6 * 0) (WA 43 g)) KM 43 g B 3 0 h 54 [(0, .ref (gA g 0))] [] := by
  unfold fX11_numberNow_54 at hf
  refine v_aload_n (pc := 54) (j := 0) F dX11_numberNow_54 rfl rfl ?_
  refine v_iconst (pc := 55) (v := 2) F dX11_numberNow_55 ic_2 ?_
  obtain ⟨r4, e5, hf⟩ := bnd_some hf
  refine v_callVv (pc := 56) (As := [.int 2]) F cl_X11_229 dX11_numberNow_56 (kX11_wrong e5) km_0.1 km_0.2 rc_10 rfl rfl (Nat.le_of_ble_eq_true rfl) (by decide) (Nat.zero_le _) ?_
  exact tX11_numberNow_59 F hr hf
set_option maxRecDepth 100000 in
set_option maxHeartbeats 4000000 in
theorem kX11_numberNow {l : Launch} {g : GE} {B : Nat} {h : ST} {a1 : Int32} {a2 : Int32} {y : Int32 × ST} (hf : fX11_numberNow h a1 a2 = some y) : CT l yX11_numberNow cX11_numberNow 3 (some .int) 2 KM 43 g B [.ref (gA g 0), .int a1, .int a2] h (some (.int y.1)) y.2 := by
  refine CT.of pn_X11 (Nat.le_of_ble_eq_true rfl) ?_
  intro p e s m below meth c hr F
  have F : Fx p s m _ meth c cX11_numberNow 3 "DustParishModel" 43 g B := F
  refine V_lv (lv' := [(0, .ref (gA g 0)), (1, .int a1), (2, .int a2)]) rfl ?_
  unfold fX11_numberNow at hf
  refine v_aload_n (pc := 0) (j := 0) F dX11_numberNow_0 rfl rfl ?_
  refine v_ifl (pc := 1) F fl_X11_208 dX11_numberNow_1 km_0.1 km_0.2 fv_10_26 ?_
  refine v_if_eq (pc := 4) (tgt := 9) F dX11_numberNow_4 (by decide) (fun c1 => ?_) (fun c1 => ?_)
  · have hf := ite_t hf c1
    refine v_aload_n (pc := 9) (j := 0) F dX11_numberNow_9 rfl rfl ?_
    refine v_ifl (pc := 10) F fl_X11_182 dX11_numberNow_10 km_0.1 km_0.2 fv_10_22 ?_
    refine v_iconst (pc := 13) (v := 2) F dX11_numberNow_13 ic_2 ?_
    refine v_icmp_eq (pc := 14) (tgt := 25) F dX11_numberNow_14 (by decide) (fun c2 => ?_) (fun c2 => ?_)
    · have hf := ite_t hf c2
      refine v_aload_n (pc := 25) (j := 0) F dX11_numberNow_25 rfl rfl ?_
      refine v_ifl (pc := 26) F fl_X11_205 dX11_numberNow_26 km_0.1 km_0.2 fv_10_25 ?_
      refine v_aload_n (pc := 29) (j := 0) F dX11_numberNow_29 rfl rfl ?_
      refine v_ifl (pc := 30) F fl_X11_179 dX11_numberNow_30 km_0.1 km_0.2 fv_10_24 ?_
      refine v_isub (pc := 33) F dX11_numberNow_33 ?_
      refine v_iconst (pc := 34) (v := 4) F dX11_numberNow_34 ic_4 ?_
      refine v_icmp_gt (pc := 35) (tgt := 54) F dX11_numberNow_35 (by decide) (fun c3 => ?_) (fun c3 => ?_)
      · have hf := ite_t hf c3
        refine V.sub (lv' := [(0, .ref (gA g 0))]) [0] rfl ?_
        exact tX11_numberNow_54 F hr hf
      · have hf := ite_f hf c3
        refine v_aload_n (pc := 38) (j := 0) F dX11_numberNow_38 rfl rfl ?_
        refine v_ifl (pc := 39) F fl_X11_192 dX11_numberNow_39 km_0.1 km_0.2 fv_10_23 ?_
        refine v_iload_n (pc := 42) (j := 1) F dX11_numberNow_42 rfl rfl ?_
        refine v_icmp_lt (pc := 43) (tgt := 54) F dX11_numberNow_43 (by decide) (fun c7 => ?_) (fun c7 => ?_)
        · have hf := ite_t hf c7
          refine V.sub (lv' := [(0, .ref (gA g 0))]) [0] rfl ?_
          exact tX11_numberNow_54 F hr hf
        · have hf := ite_f hf c7
          refine v_aload_n (pc := 46) (j := 0) F dX11_numberNow_46 rfl rfl ?_
          refine v_ifl (pc := 47) F fl_X11_192 dX11_numberNow_47 km_0.1 km_0.2 fv_10_23 ?_
          refine v_iload_n (pc := 50) (j := 2) F dX11_numberNow_50 rfl rfl ?_
          refine v_icmp_le (pc := 51) (tgt := 59) F dX11_numberNow_51 (by decide) (fun c8 => ?_) (fun c8 => ?_)
          · have hf := ite_t hf c8
            refine V.sub (lv' := [(0, .ref (gA g 0))]) [0] rfl ?_
            exact tX11_numberNow_59 F hr hf
          · have hf := ite_f hf c8
            refine V.sub (lv' := [(0, .ref (gA g 0))]) [0] rfl ?_
            exact tX11_numberNow_54 F hr hf
    · have hf := ite_f hf c2
      refine v_aload_n (pc := 17) (j := 0) F dX11_numberNow_17 rfl rfl ?_
      refine v_iconst (pc := 18) (v := 1) F dX11_numberNow_18 ic_1 ?_
      obtain ⟨r9, e10, hf⟩ := bnd_some hf
      refine v_callVv (pc := 19) (As := [.int 1]) F cl_X11_229 dX11_numberNow_19 (kX11_wrong e10) km_0.1 km_0.2 rc_10 rfl rfl (Nat.le_of_ble_eq_true rfl) (by decide) (Nat.zero_le _) ?_
      refine v_goto (pc := 22) (tgt := 59) F dX11_numberNow_22 (by decide) ?_
      refine V.sub (lv' := [(0, .ref (gA g 0))]) [0] rfl ?_
      exact tX11_numberNow_59 F hr hf
  · have hf := ite_f hf c1
    refine v_iconst (pc := 7) (v := 0) F dX11_numberNow_7 ic_0 ?_
    exact v_iret (pc := 8) F hr dX11_numberNow_8 (some_fst hf) (some_snd hf) (Nat.zero_le _)
def fX11_often_56 (h : ST) (l1 : Int32) (l2 : Int32) (l3 : Int32) (l4 : Int32) : Option ((ST × Int32 × Int32 × Int32) ⊕ (ST × Int32)) :=
  some (.inl (h, l2, l3, l4 + 1))
def fX11_often_25 (l1 : Int32) (s1 : (ST × Int32 × Int32 × Int32)) : Option ((ST × Int32 × Int32 × Int32) ⊕ (ST × Int32)) :=
  if 30 < s1.2.2.2 then
  some (.inr (s1.1, s1.2.1))
  else
  bnd (fX11_takenIn s1.1 l1 s1.2.2.2) fun r7 =>
    if s1.2.2.1 < r7.1 then
    fX11_often_56 r7.2 l1 s1.2.2.2 r7.1 s1.2.2.2
    else
    fX11_often_56 r7.2 l1 s1.2.1 s1.2.2.1 s1.2.2.2
def fX11_often (h : ST) (a1 : Int32) : Option (Int32 × ST) :=
  bnd (pw h 0 2 0) fun h1 =>
  bnd (fX11_isAhead h1 a1) fun r3 =>
  if r3 = 0 then
  bnd (fX11_fail h1 1) fun r12 =>
    some (r12.1, r12.2)
  else
  bnd (lp FU (fX11_often_25 a1) (h1, 0, (-1), 1)) fun x10 =>
    some (x10.2, x10.1)
set_option maxRecDepth 100000 in
set_option maxHeartbeats 4000000 in
theorem tX11_often_56 {p : Program} {l : Launch} {e : Env} {s : State} {m : MethodId} {args : Array Value} {below : List Frame} {meth : Method} {c : Code} {g : GE} {B : Nat} {h : ST}  {l1 : Int32} {l2 : Int32} {l3 : Int32} {l4 : Int32} (F : Fx p s m args meth c cX11_often 6 "DustParishModel" 43 g B)
    {Q : State → Prop} {y : (ST × Int32 × Int32 × Int32) ⊕ (ST × Int32)} (hk : ∀ v : (ST × Int32 × Int32 × Int32), y = Sum.inl v → V p l e 7 0 s m args below meth c Q KM 43 g B 6 0 v.1 25 [(0, .ref (gA g 0)), (1, .int l1), (2, .int v.2.1), (3, .int v.2.2.1), (4, .int v.2.2.2)] []) (hx0 : ∀ v : (ST × Int32), y = Sum.inr v → V p l e 7 0 s m args below meth c Q KM 43 g B 6 0 v.1 62 [(2, .int v.2)] []) (hf : fX11_often_56 h l1 l2 l3 l4 = some y) : V p l e 7 0 s m args below meth c Q KM 43 g B 6 0 h 56 [(0, .ref (gA g 0)), (1, .int l1), (2, .int l2), (3, .int l3), (4, .int l4)] [] := by
  unfold fX11_often_56 at hf
  refine v_iinc (pc := 56) (j := 4) (v := l4 + 1) (lv' := [(0, .ref (gA g 0)), (1, .int l1), (2, .int l2), (3, .int l3), (4, .int (l4 + 1))]) F dX11_often_56 rfl (congrArg (fun z => l4 + z) ic_1) (by decide) rfl ?_
  refine v_goto (pc := 59) (tgt := 25) F dX11_often_59 (by decide) ?_
  exact hk (h, l2, l3, l4 + 1) (Option.some.inj hf).symm
set_option maxRecDepth 100000 in
set_option maxHeartbeats 4000000 in
theorem tX11_often_25 {p : Program} {l : Launch} {e : Env} {s : State} {m : MethodId} {args : Array Value} {below : List Frame} {meth : Method} {c : Code} {g : GE} {B : Nat}   {l1 : Int32} {Q : State → Prop} {x : (ST × Int32)} {nf : Nat} {s0 : (ST × Int32 × Int32 × Int32)} (F : Fx p s m args meth c cX11_often 6 "DustParishModel" 43 g B) (hX0 : V p l e 7 0 s m args below meth c Q KM 43 g B 6 0 x.1 62 [(2, .int x.2)] []) (hl : lp nf (fX11_often_25 l1) s0 = some x) : V p l e 7 0 s m args below meth c Q KM 43 g B 6 0 s0.1 25 [(0, .ref (gA g 0)), (1, .int l1), (2, .int s0.2.1), (3, .int s0.2.2.1), (4, .int s0.2.2.2)] [] := by
  refine lp_ind (P := fun s0 => V p l e 7 0 s m args below meth c Q KM 43 g B 6 0 s0.1 25 [(0, .ref (gA g 0)), (1, .int l1), (2, .int s0.2.1), (3, .int s0.2.2.1), (4, .int s0.2.2.2)] []) ?_ nf s0 hl
  intro s1 y hf hk hx
  have hx0 : ∀ v : (ST × Int32), y = Sum.inr v → V p l e 7 0 s m args below meth c Q KM 43 g B 6 0 v.1 62 [(2, .int v.2)] [] := fun v e9 => by rw [hx v e9]; exact hX0
  unfold fX11_often_25 at hf
  refine v_iload (pc := 25) (j := 4) F dX11_often_25 rfl ?_
  refine v_bipush (pc := 27) (v := 30) F dX11_often_27 bp_30 ?_
  refine v_icmp_gt (pc := 29) (tgt := 62) F dX11_often_29 (by decide) (fun c6 => ?_) (fun c6 => ?_)
  · have hf := ite_t hf c6
    refine V.sub (lv' := [(2, .int s1.2.1)]) [2] rfl ?_
    exact hx0 (s1.1, s1.2.1) (Option.some.inj hf).symm
  · have hf := ite_f hf c6
    refine v_aload_n (pc := 32) (j := 0) F dX11_often_32 rfl rfl ?_
    refine v_iload_n (pc := 33) (j := 1) F dX11_often_33 rfl rfl ?_
    refine v_iload (pc := 34) (j := 4) F dX11_often_34 rfl ?_
    obtain ⟨r7, e8, hf⟩ := bnd_some hf
    refine v_callVi (pc := 36) (As := [.int l1, .int s1.2.2.2]) F cl_X11_436 dX11_often_36 (kX11_takenIn e8) km_0.1 km_0.2 rc_10 rfl rfl (Nat.le_of_ble_eq_true rfl) (by decide) (Nat.zero_le _) ?_
    refine v_istore (pc := 39) (lv' := [(0, .ref (gA g 0)), (1, .int l1), (2, .int s1.2.1), (3, .int s1.2.2.1), (4, .int s1.2.2.2), (5, .int r7.1)]) F dX11_often_39 (by decide) rfl ?_
    refine v_iload (pc := 41) (j := 5) F dX11_often_41 rfl ?_
    refine v_iload_n (pc := 43) (j := 3) F dX11_often_43 rfl rfl ?_
    refine v_icmp_gt (pc := 44) (tgt := 50) F dX11_often_44 (by decide) (fun c9 => ?_) (fun c9 => ?_)
    · have hf := ite_t hf c9
      refine v_iload (pc := 50) (j := 4) F dX11_often_50 rfl ?_
      refine v_istore_n (pc := 52) (lv' := [(0, .ref (gA g 0)), (1, .int l1), (2, .int s1.2.2.2), (3, .int s1.2.2.1), (4, .int s1.2.2.2), (5, .int r7.1)]) F dX11_often_52 rfl (by decide) rfl ?_
      refine v_iload (pc := 53) (j := 5) F dX11_often_53 rfl ?_
      refine v_istore_n (pc := 55) (lv' := [(0, .ref (gA g 0)), (1, .int l1), (2, .int s1.2.2.2), (3, .int r7.1), (4, .int s1.2.2.2), (5, .int r7.1)]) F dX11_often_55 rfl (by decide) rfl ?_
      refine V.sub (lv' := [(0, .ref (gA g 0)), (1, .int l1), (2, .int s1.2.2.2), (3, .int r7.1), (4, .int s1.2.2.2)]) [0, 1, 2, 3, 4] rfl ?_
      exact tX11_often_56 F hk hx0 hf
    · have hf := ite_f hf c9
      refine v_goto (pc := 47) (tgt := 56) F dX11_often_47 (by decide) ?_
      refine V.sub (lv' := [(0, .ref (gA g 0)), (1, .int l1), (2, .int s1.2.1), (3, .int s1.2.2.1), (4, .int s1.2.2.2)]) [0, 1, 2, 3, 4] rfl ?_
      exact tX11_often_56 F hk hx0 hf
set_option maxRecDepth 100000 in
set_option maxHeartbeats 4000000 in
theorem kX11_often {l : Launch} {g : GE} {B : Nat} {h : ST} {a1 : Int32} {y : Int32 × ST} (hf : fX11_often h a1 = some y) : CT l yX11_often cX11_often 6 (some .int) 7 KM 43 g B [.ref (gA g 0), .int a1] h (some (.int y.1)) y.2 := by
  refine CT.of pn_X11 (Nat.le_of_ble_eq_true rfl) ?_
  intro p e s m below meth c hr F
  have F : Fx p s m _ meth c cX11_often 6 "DustParishModel" 43 g B := F
  refine V_lv (lv' := [(0, .ref (gA g 0)), (1, .int a1)]) rfl ?_
  unfold fX11_often at hf
  refine v_aload_n (pc := 0) (j := 0) F dX11_often_0 rfl rfl ?_
  refine v_iconst (pc := 1) (v := 0) F dX11_often_1 ic_0 ?_
  obtain ⟨h1, e2, hf⟩ := bnd_some hf
  refine v_pfl (pc := 2) F fl_X11_157 pl_10_2 dX11_often_2 km_0.1 km_0.2 fv_10_2 rfl rfl e2 ?_
  refine v_iload_n (pc := 5) (j := 1) F dX11_often_5 rfl rfl ?_
  obtain ⟨r3, e4, hf⟩ := bnd_some hf
  refine v_callSi (pc := 6) (As := [.int a1]) F cl_X11_433 dX11_often_6 (kX11_isAhead e4) rfl rfl (Nat.le_of_ble_eq_true rfl) (by decide) (Nat.zero_le _) ?_
  refine v_if_ne (pc := 9) (tgt := 18) F dX11_often_9 (by decide) (fun c5 => ?_) (fun c5 => ?_)
  · have hf := ite_f hf c5
    refine v_iconst (pc := 18) (v := 0) F dX11_often_18 ic_0 ?_
    refine v_istore_n (pc := 19) (lv' := [(0, .ref (gA g 0)), (1, .int a1), (2, .int 0)]) F dX11_often_19 rfl (by decide) rfl ?_
    refine v_iconst (pc := 20) (v := (-1)) F dX11_often_20 ic_m1 ?_
    refine v_istore_n (pc := 21) (lv' := [(0, .ref (gA g 0)), (1, .int a1), (2, .int 0), (3, .int (-1))]) F dX11_often_21 rfl (by decide) rfl ?_
    refine v_iconst (pc := 22) (v := 1) F dX11_often_22 ic_1 ?_
    refine v_istore (pc := 23) (lv' := [(0, .ref (gA g 0)), (1, .int a1), (2, .int 0), (3, .int (-1)), (4, .int 1)]) F dX11_often_23 (by decide) rfl ?_
    obtain ⟨x10, e11, hf⟩ := bnd_some hf
    refine tX11_often_25 (s0 := (h1, 0, (-1), 1)) F ?_ e11
    refine v_iload_n (pc := 62) (j := 0) F dX11_often_62 rfl rfl ?_
    exact v_iret (pc := 63) F hr dX11_often_63 (some_fst hf) (some_snd hf) (Nat.zero_le _)
  · have hf := ite_t hf c5
    refine v_aload_n (pc := 12) (j := 0) F dX11_often_12 rfl rfl ?_
    refine v_iconst (pc := 13) (v := 1) F dX11_often_13 ic_1 ?_
    obtain ⟨r12, e13, hf⟩ := bnd_some hf
    refine v_callVi (pc := 14) (As := [.int 1]) F cl_X11_320 dX11_often_14 (kX11_fail e13) km_0.1 km_0.2 rc_10 rfl rfl (Nat.le_of_ble_eq_true rfl) (by decide) (Nat.zero_le _) ?_
    exact v_iret (pc := 17) F hr dX11_often_17 (some_fst hf) (some_snd hf) (Nat.zero_le _)
def fX11_order_33 (h : ST)  : Option (Int32 × ST) :=
  bnd (fX11_fail h 1) fun r6 =>
  some (r6.1, r6.2)
def fX11_order_69 (h : ST) (q0 : Int32) : Option (Int32 × ST) :=
  some (q0, h)
def fX11_order (h : ST) (a1 : Int32) (a2 : Int32) : Option (Int32 × ST) :=
  bnd (pw h 0 2 0) fun h1 =>
  bnd (fX11_isRoom h1 a1) fun r3 =>
  if r3 = 0 then
  fX11_order_33 h1 
  else
  bnd (rd 14 (h1 3) 2) fun v8 =>
    bnd (fX11_isIn h1 a2.toInt64 ((-1) : Int64) ((v8 - 1).toInt64)) fun r10 =>
    if r10 = 0 then
    fX11_order_33 h1 
    else
    bnd (pw h1 0 45 (-1)) fun h13 =>
      bnd (fX11_goOrders 8 h13 a1 0 0) fun r15 =>
      if a2 = (-1) then
      fX11_order_69 r15 (r15 0 45)
      else
      bnd (rd 5 (r15 29) a2) fun v18 =>
        fX11_order_69 r15 v18
set_option maxRecDepth 100000 in
set_option maxHeartbeats 4000000 in
theorem tX11_order_33 {p : Program} {l : Launch} {e : Env} {s : State} {m : MethodId} {args : Array Value} {below : List Frame} {meth : Method} {c : Code} {g : GE} {B : Nat} {h : ST}  (F : Fx p s m args meth c cX11_order 3 "DustParishModel" 43 g B)
    {y : Int32 × ST} (hr : meth.sig.returnType = (some .int)) (hf : fX11_order_33 h  = some y) : V p l e 16 0 s m args below meth c (MQ below (QO KM 43 g (some (.int y.1)) y.2) args s 0 (6 * 0) (WA 43 g)) KM 43 g B 3 0 h 33 [(0, .ref (gA g 0))] [] := by
  unfold fX11_order_33 at hf
  refine v_aload_n (pc := 33) (j := 0) F dX11_order_33 rfl rfl ?_
  refine v_iconst (pc := 34) (v := 1) F dX11_order_34 ic_1 ?_
  obtain ⟨r6, e7, hf⟩ := bnd_some hf
  refine v_callVi (pc := 35) (As := [.int 1]) F cl_X11_320 dX11_order_35 (kX11_fail e7) km_0.1 km_0.2 rc_10 rfl rfl (Nat.le_of_ble_eq_true rfl) (by decide) (Nat.zero_le _) ?_
  exact v_iret (pc := 38) F hr dX11_order_38 (some_fst hf) (some_snd hf) (Nat.zero_le _)
set_option maxRecDepth 100000 in
set_option maxHeartbeats 4000000 in
theorem tX11_order_69 {p : Program} {l : Launch} {e : Env} {s : State} {m : MethodId} {args : Array Value} {below : List Frame} {meth : Method} {c : Code} {g : GE} {B : Nat} {h : ST}  {q0 : Int32} (F : Fx p s m args meth c cX11_order 3 "DustParishModel" 43 g B)
    {y : Int32 × ST} (hr : meth.sig.returnType = (some .int)) (hf : fX11_order_69 h q0 = some y) : V p l e 16 0 s m args below meth c (MQ below (QO KM 43 g (some (.int y.1)) y.2) args s 0 (6 * 0) (WA 43 g)) KM 43 g B 3 0 h 69 [] [.int q0] := by
  unfold fX11_order_69 at hf
  exact v_iret (pc := 69) F hr dX11_order_69 (some_fst hf) (some_snd hf) (Nat.zero_le _)
set_option maxRecDepth 100000 in
set_option maxHeartbeats 4000000 in
theorem kX11_order {l : Launch} {g : GE} {B : Nat} {h : ST} {a1 : Int32} {a2 : Int32} {y : Int32 × ST} (hf : fX11_order h a1 a2 = some y) : CT l yX11_order cX11_order 3 (some .int) 16 KM 43 g B [.ref (gA g 0), .int a1, .int a2] h (some (.int y.1)) y.2 := by
  refine CT.of pn_X11 (Nat.le_of_ble_eq_true rfl) ?_
  intro p e s m below meth c hr F
  have F : Fx p s m _ meth c cX11_order 3 "DustParishModel" 43 g B := F
  refine V_lv (lv' := [(0, .ref (gA g 0)), (1, .int a1), (2, .int a2)]) rfl ?_
  unfold fX11_order at hf
  refine v_aload_n (pc := 0) (j := 0) F dX11_order_0 rfl rfl ?_
  refine v_iconst (pc := 1) (v := 0) F dX11_order_1 ic_0 ?_
  obtain ⟨h1, e2, hf⟩ := bnd_some hf
  refine v_pfl (pc := 2) F fl_X11_157 pl_10_2 dX11_order_2 km_0.1 km_0.2 fv_10_2 rfl rfl e2 ?_
  refine v_aload_n (pc := 5) (j := 0) F dX11_order_5 rfl rfl ?_
  refine v_iload_n (pc := 6) (j := 1) F dX11_order_6 rfl rfl ?_
  obtain ⟨r3, e4, hf⟩ := bnd_some hf
  refine v_callVi (pc := 7) (As := [.int a1]) F cl_X11_387 dX11_order_7 (kX11_isRoom e4) km_0.1 km_0.2 rc_10 rfl rfl (Nat.le_of_ble_eq_true rfl) (by decide) (Nat.zero_le _) ?_
  refine v_if_eq (pc := 10) (tgt := 33) F dX11_order_10 (by decide) (fun c5 => ?_) (fun c5 => ?_)
  · have hf := ite_t hf c5
    refine V.sub (lv' := [(0, .ref (gA g 0))]) [0] rfl ?_
    exact tX11_order_33 F hr hf
  · have hf := ite_f hf c5
    refine v_iload_n (pc := 13) (j := 2) F dX11_order_13 rfl rfl ?_
    refine v_i2l (pc := 14) F dX11_order_14 rfl ?_
    refine v_ldc2 (pc := 15) F tw_1669 dX11_order_15 ?_
    refine v_aload_n (pc := 18) (j := 0) F dX11_order_18 rfl rfl ?_
    refine v_ifl (pc := 19) F fl_X11_36 dX11_order_19 km_0.1 km_0.2 fv_10_3 ?_
    refine v_iconst (pc := 22) (v := 2) F dX11_order_22 ic_2 ?_
    obtain ⟨v8, e9, hf⟩ := bnd_some hf
    refine v_iald (pc := 23) F dX11_order_23 km_3.1 km_3.2 e9 ?_
    refine v_iconst (pc := 24) (v := 1) F dX11_order_24 ic_1 ?_
    refine v_isub (pc := 25) F dX11_order_25 ?_
    refine v_i2l (pc := 26) F dX11_order_26 rfl ?_
    obtain ⟨r10, e11, hf⟩ := bnd_some hf
    refine v_callSi (pc := 27) (As := [.long a2.toInt64, .long ((-1) : Int64), .long ((v8 - 1).toInt64)]) F cl_X11_160 dX11_order_27 (kX11_isIn e11) rfl rfl (Nat.le_of_ble_eq_true rfl) (by decide) (Nat.zero_le _) ?_
    refine v_if_ne (pc := 30) (tgt := 39) F dX11_order_30 (by decide) (fun c12 => ?_) (fun c12 => ?_)
    · have hf := ite_f hf c12
      refine v_aload_n (pc := 39) (j := 0) F dX11_order_39 rfl rfl ?_
      refine v_iconst (pc := 40) (v := (-1)) F dX11_order_40 ic_m1 ?_
      obtain ⟨h13, e14, hf⟩ := bnd_some hf
      refine v_pfl (pc := 41) F fl_X11_442 pl_10_45 dX11_order_41 km_0.1 km_0.2 fv_10_45 rfl rfl e14 ?_
      refine v_aload_n (pc := 44) (j := 0) F dX11_order_44 rfl rfl ?_
      refine v_iload_n (pc := 45) (j := 1) F dX11_order_45 rfl rfl ?_
      refine v_iconst (pc := 46) (v := 0) F dX11_order_46 ic_0 ?_
      refine v_iconst (pc := 47) (v := 0) F dX11_order_47 ic_0 ?_
      obtain ⟨r15, e16, hf⟩ := bnd_some hf
      refine v_callVv (pc := 48) (As := [.int a1, .int 0, .int 0]) F cl_X11_448 dX11_order_48 (kX11_goOrders (dd := 8) e16) km_0.1 km_0.2 rc_10 rfl rfl (Nat.le_of_ble_eq_true rfl) (by decide) (Nat.zero_le _) ?_
      refine v_iload_n (pc := 51) (j := 2) F dX11_order_51 rfl rfl ?_
      refine v_iconst (pc := 52) (v := (-1)) F dX11_order_52 ic_m1 ?_
      refine v_icmp_ne (pc := 53) (tgt := 63) F dX11_order_53 (by decide) (fun c17 => ?_) (fun c17 => ?_)
      · have hf := ite_f hf c17
        refine v_aload_n (pc := 63) (j := 0) F dX11_order_63 rfl rfl ?_
        refine v_ifl (pc := 64) F fl_X11_115 dX11_order_64 km_0.1 km_0.2 fv_10_44 ?_
        refine v_iload_n (pc := 67) (j := 2) F dX11_order_67 rfl rfl ?_
        obtain ⟨v18, e19, hf⟩ := bnd_some hf
        refine v_iald (pc := 68) F dX11_order_68 km_29.1 km_29.2 e19 ?_
        refine V.sub (lv' := []) [] rfl ?_
        exact tX11_order_69 F hr hf
      · have hf := ite_t hf c17
        refine v_aload_n (pc := 56) (j := 0) F dX11_order_56 rfl rfl ?_
        refine v_ifl (pc := 57) F fl_X11_442 dX11_order_57 km_0.1 km_0.2 fv_10_45 ?_
        refine v_goto (pc := 60) (tgt := 69) F dX11_order_60 (by decide) ?_
        refine V.sub (lv' := []) [] rfl ?_
        exact tX11_order_69 F hr hf
    · have hf := ite_t hf c12
      refine V.sub (lv' := [(0, .ref (gA g 0))]) [0] rfl ?_
      exact tX11_order_33 F hr hf
def fX11_which_2 (h : ST) (o1 : Nat) (n_o1 : Nat) (s1 : Int32) : Option (Int32 ⊕ (Int32 ⊕ Unit)) :=
  if (Int32.ofNat n_o1) ≤ s1 then
  some (.inr (.inr ()))
  else
  grd (¬ (s1 < 0 ∨ n_o1 ≤ s1.toNatClampNeg)) (
    bnd (sk (h o1 s1.toNatClampNeg)) fun k3 =>
    bnd (fX11_is h k3) fun r5 =>
    if r5 = 0 then
    some (.inl (s1 + 1))
    else
    some (.inr (.inl s1)))
def fX11_which (h : ST) (o1 : Nat) (n_o1 : Nat) : Option (Int32) :=
  bnd (lp FU (fX11_which_2 h o1 n_o1) 0) fun x8 =>
  sm x8 (fun v => some v) (fun v => some (-1))
set_option maxRecDepth 100000 in
set_option maxHeartbeats 4000000 in
theorem tX11_which_2 {p : Program} {l : Launch} {e : Env} {s : State} {m : MethodId} {args : Array Value} {below : List Frame} {meth : Method} {c : Code} {g : GE} {B : Nat}  {h : ST} {o1 n_o1 : Nat} (ho_o1 : o1 < 43) (hk_o1 : KM o1 = (24, n_o1)) {Q : State → Prop} {x : (Int32 ⊕ Unit)} {nf : Nat} {s0 : Int32} (F : Fx p s m args meth c cX11_which 3 "DustParishModel" 43 g B) (hX0 : ∀ v : Int32, x = (.inl v) → V p l e 13 0 s m args below meth c Q KM 43 g B 3 0 h 18 [(2, .int v)] []) (hX1 : ∀ v : Unit, x = (.inr v) → V p l e 13 0 s m args below meth c Q KM 43 g B 3 0 h 26 [] []) (hl : lp nf (fX11_which_2 h o1 n_o1) s0 = some x) : V p l e 13 0 s m args below meth c Q KM 43 g B 3 0 h 2 [(0, .ref (gA g 0)), (1, .ref (gA g o1)), (2, .int s0)] [] := by
  refine lp_ind (P := fun s0 => V p l e 13 0 s m args below meth c Q KM 43 g B 3 0 h 2 [(0, .ref (gA g 0)), (1, .ref (gA g o1)), (2, .int s0)] []) ?_ nf s0 hl
  intro s1 y hf hk hx
  have hx0 : ∀ v : Int32, y = Sum.inr (.inl v) → V p l e 13 0 s m args below meth c Q KM 43 g B 3 0 h 18 [(2, .int v)] [] := fun v e9 => hX0 v (hx _ e9).symm
  have hx1 : ∀ v : Unit, y = Sum.inr (.inr v) → V p l e 13 0 s m args below meth c Q KM 43 g B 3 0 h 26 [] [] := fun v e9 => hX1 v (hx _ e9).symm
  unfold fX11_which_2 at hf
  refine v_iload_n (pc := 2) (j := 2) F dX11_which_2 rfl rfl ?_
  refine v_aload_n (pc := 3) (j := 1) F dX11_which_3 rfl rfl ?_
  refine v_alen (pc := 4) (v := Int32.ofNat n_o1) F dX11_which_4 ho_o1 hk_o1 (by decide) (by decide) rfl ?_
  refine v_icmp_ge (pc := 5) (tgt := 26) F dX11_which_5 (by decide) (fun c1 => ?_) (fun c1 => ?_)
  · have hf := ite_t hf c1
    refine V.sub (lv' := []) [] rfl ?_
    exact hx1 () (Option.some.inj hf).symm
  · have hf := ite_f hf c1
    refine v_aload_n (pc := 8) (j := 0) F dX11_which_8 rfl rfl ?_
    refine v_aload_n (pc := 9) (j := 1) F dX11_which_9 rfl rfl ?_
    refine v_iload_n (pc := 10) (j := 2) F dX11_which_10 rfl rfl ?_
    obtain ⟨g2, hf⟩ := grd_some hf
    obtain ⟨k3, e4, hf⟩ := bnd_some hf
    obtain ⟨hs_k3, e4⟩ := sk_in e4
    refine v_aald (pc := 11) (v := .ref (gK g k3)) F dX11_which_11 ho_o1 hk_o1 (by decide) (by decide) g2 (av24 e4) ?_
    obtain ⟨r5, e6, hf⟩ := bnd_some hf
    refine v_callVi (pc := 12) (As := [.ref (gK g k3)]) F cl_X11_222 dX11_which_12 (kX11_is hs_k3 e6) km_0.1 km_0.2 rc_10 rfl rfl (Nat.le_of_ble_eq_true rfl) (by decide) (Nat.zero_le _) ?_
    refine v_if_eq (pc := 15) (tgt := 20) F dX11_which_15 (by decide) (fun c7 => ?_) (fun c7 => ?_)
    · have hf := ite_t hf c7
      refine v_iinc (pc := 20) (j := 2) (v := s1 + 1) (lv' := [(0, .ref (gA g 0)), (1, .ref (gA g o1)), (2, .int (s1 + 1))]) F dX11_which_20 rfl (congrArg (fun z => s1 + z) ic_1) (by decide) rfl ?_
      refine v_goto (pc := 23) (tgt := 2) F dX11_which_23 (by decide) ?_
      exact hk (s1 + 1) (Option.some.inj hf).symm
    · have hf := ite_f hf c7
      refine V.sub (lv' := [(2, .int s1)]) [2] rfl ?_
      exact hx0 s1 (Option.some.inj hf).symm
set_option maxRecDepth 100000 in
set_option maxHeartbeats 4000000 in
theorem kX11_which {l : Launch} {g : GE} {B : Nat} {h : ST} {o1 n_o1 : Nat} (ho_o1 : o1 < 43) (hk_o1 : KM o1 = (24, n_o1)) {y : Int32} (hf : fX11_which h o1 n_o1 = some y) : CT l yX11_which cX11_which 3 (some .int) 13 KM 43 g B [.ref (gA g 0), .ref (gA g o1)] h (some (.int y)) h := by
  refine CT.of pn_X11 (Nat.le_of_ble_eq_true rfl) ?_
  intro p e s m below meth c hr F
  have F : Fx p s m _ meth c cX11_which 3 "DustParishModel" 43 g B := F
  refine V_lv (lv' := [(0, .ref (gA g 0)), (1, .ref (gA g o1))]) rfl ?_
  unfold fX11_which at hf
  refine v_iconst (pc := 0) (v := 0) F dX11_which_0 ic_0 ?_
  refine v_istore_n (pc := 1) (lv' := [(0, .ref (gA g 0)), (1, .ref (gA g o1)), (2, .int 0)]) F dX11_which_1 rfl (by decide) rfl ?_
  obtain ⟨x8, e9, hf⟩ := bnd_some hf
  refine tX11_which_2 (s0 := 0) ho_o1 hk_o1 F (fun v e9 => ?_) (fun v e9 => ?_) e9
  · subst e9
    have hf := sm_l hf
    refine v_iload_n (pc := 18) (j := 0) F dX11_which_18 rfl rfl ?_
    exact v_iret (pc := 19) F hr dX11_which_19 (Option.some.inj hf) rfl (Nat.zero_le _)
  · subst e9
    have hf := sm_r hf
    refine v_iconst (pc := 26) (v := (-1)) F dX11_which_26 ic_m1 ?_
    exact v_iret (pc := 27) F hr dX11_which_27 (Option.some.inj hf) rfl (Nat.zero_le _)
