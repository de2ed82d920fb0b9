def fX11_far_21 (h : ST)  : Option (Int32 × ST) :=
  bnd (fX11_fail h 1) fun r6 =>
  some (r6.1, r6.2)
def fX11_far (h : ST) (a1 : Int32) (a2 : Int32) : Option (Int32 × ST) :=
  bnd (pw h 0 2 0) fun h1 =>
  bnd (fX11_isRoom h1 a1) fun r3 =>
  if r3 = 0 then
  fX11_far_21 h1 
  else
  bnd (fX11_isRoom h1 a2) fun r8 =>
    if r8 = 0 then
    fX11_far_21 h1 
    else
    bnd (fX11_tellWays h1) fun r11 =>
      bnd (rd 81 (r11 26) ((9 * a1) + a2)) fun v13 =>
      bnd (fX11_orNone r11 v13) fun r15 =>
      some (r15, r11)
set_option maxRecDepth 100000 in
set_option maxHeartbeats 4000000 in
theorem tX11_far_21 {p : Program} {l : Launch} {e : Env} {s : State} {m : MethodId} {args : Array Value} {below : List Frame} {meth : Method} {c : Code} {g : GE} {B : Nat} {h : ST}  (F : Fx p s m args meth c cX11_far 3 "DustParishModel" 43 g B)
    {y : Int32 × ST} (hr : meth.sig.returnType = (some .int)) (hf : fX11_far_21 h  = some y) : V p l e 3 0 s m args below meth c (MQ below (QO KM 43 g (some (.int y.1)) y.2) args s 0 (6 * 0) (fun q => B ≤ q)) KM 43 g B 3 0 h 21 [(0, .ref (gA g 0))] [] := by
  unfold fX11_far_21 at hf
  refine v_aload_n (pc := 21) (j := 0) F dX11_far_21 rfl rfl ?_
  refine v_iconst (pc := 22) (v := 1) F dX11_far_22 ic_1 ?_
  obtain ⟨r6, e7, hf⟩ := bnd_some hf
  refine v_callVi (pc := 23) (As := [.int 1]) F cl_X11_320 dX11_far_23 (kX11_fail e7) km_0.1 km_0.2 rc_10 rfl rfl (Nat.le_of_ble_eq_true rfl) (by decide) (Nat.zero_le _) ?_
  exact v_iret (pc := 26) F hr dX11_far_26 (some_fst hf) (some_snd hf) (Nat.zero_le _)
set_option maxRecDepth 100000 in
set_option maxHeartbeats 4000000 in
theorem kX11_far {l : Launch} {g : GE} {B : Nat} {h : ST} {a1 : Int32} {a2 : Int32} {y : Int32 × ST} (hf : fX11_far h a1 a2 = some y) : CT l yX11_far cX11_far 3 (some .int) 3 KM 43 g B [.ref (gA g 0), .int a1, .int a2] h (some (.int y.1)) y.2 := by
  refine CT.of pn_X11 (Nat.le_of_ble_eq_true rfl) ?_
  intro p e s m below meth c hr F
  have F : Fx p s m _ meth c cX11_far 3 "DustParishModel" 43 g B := F
  refine V_lv (lv' := [(0, .ref (gA g 0)), (1, .int a1), (2, .int a2)]) rfl ?_
  unfold fX11_far at hf
  refine v_aload_n (pc := 0) (j := 0) F dX11_far_0 rfl rfl ?_
  refine v_iconst (pc := 1) (v := 0) F dX11_far_1 ic_0 ?_
  obtain ⟨h1, e2, hf⟩ := bnd_some hf
  refine v_pfl (pc := 2) F fl_X11_157 pl_10_2 dX11_far_2 km_0.1 km_0.2 fv_10_2 rfl rfl e2 ?_
  refine v_aload_n (pc := 5) (j := 0) F dX11_far_5 rfl rfl ?_
  refine v_iload_n (pc := 6) (j := 1) F dX11_far_6 rfl rfl ?_
  obtain ⟨r3, e4, hf⟩ := bnd_some hf
  refine v_callVi (pc := 7) (As := [.int a1]) F cl_X11_387 dX11_far_7 (kX11_isRoom e4) km_0.1 km_0.2 rc_10 rfl rfl (Nat.le_of_ble_eq_true rfl) (by decide) (Nat.zero_le _) ?_
  refine v_if_eq (pc := 10) (tgt := 21) F dX11_far_10 (by decide) (fun c5 => ?_) (fun c5 => ?_)
  · have hf := ite_t hf c5
    refine V.sub (lv' := [(0, .ref (gA g 0))]) [0] rfl ?_
    exact tX11_far_21 F hr hf
  · have hf := ite_f hf c5
    refine v_aload_n (pc := 13) (j := 0) F dX11_far_13 rfl rfl ?_
    refine v_iload_n (pc := 14) (j := 2) F dX11_far_14 rfl rfl ?_
    obtain ⟨r8, e9, hf⟩ := bnd_some hf
    refine v_callVi (pc := 15) (As := [.int a2]) F cl_X11_387 dX11_far_15 (kX11_isRoom e9) km_0.1 km_0.2 rc_10 rfl rfl (Nat.le_of_ble_eq_true rfl) (by decide) (Nat.zero_le _) ?_
    refine v_if_ne (pc := 18) (tgt := 27) F dX11_far_18 (by decide) (fun c10 => ?_) (fun c10 => ?_)
    · have hf := ite_f hf c10
      refine v_aload_n (pc := 27) (j := 0) F dX11_far_27 rfl rfl ?_
      obtain ⟨r11, e12, hf⟩ := bnd_some hf
      refine v_callVv (pc := 28) (As := []) F cl_X11_391 dX11_far_28 (kX11_tellWays e12) km_0.1 km_0.2 rc_10 rfl rfl (Nat.le_of_ble_eq_true rfl) (by decide) (Nat.zero_le _) ?_
      refine v_aload_n (pc := 31) (j := 0) F dX11_far_31 rfl rfl ?_
      refine v_ifl (pc := 32) F fl_X11_106 dX11_far_32 km_0.1 km_0.2 fv_10_41 ?_
      refine v_bipush (pc := 35) (v := 9) F dX11_far_35 bp_9 ?_
      refine v_iload_n (pc := 37) (j := 1) F dX11_far_37 rfl rfl ?_
      refine v_imul (pc := 38) F dX11_far_38 ?_
      refine v_iload_n (pc := 39) (j := 2) F dX11_far_39 rfl rfl ?_
      refine v_iadd (pc := 40) F dX11_far_40 ?_
      obtain ⟨v13, e14, hf⟩ := bnd_some hf
      refine v_iald (pc := 41) F dX11_far_41 km_26.1 km_26.2 e14 ?_
      obtain ⟨r15, e16, hf⟩ := bnd_some hf
      refine v_callSi (pc := 42) (As := [.int v13]) F cl_X11_394 dX11_far_42 (kX11_orNone e16) rfl rfl (Nat.le_of_ble_eq_true rfl) (by decide) (Nat.zero_le _) ?_
      exact v_iret (pc := 45) F hr dX11_far_45 (some_fst hf) (some_snd hf) (Nat.zero_le _)
    · have hf := ite_t hf c10
      refine V.sub (lv' := [(0, .ref (gA g 0))]) [0] rfl ?_
      exact tX11_far_21 F hr hf
def fX11_fault (h : ST) : Option (Int32 × ST) :=
  bnd (pw h 0 2 0) fun h1 =>
  some (h1 0 28, h1)
set_option maxRecDepth 100000 in
set_option maxHeartbeats 4000000 in
theorem kX11_fault {l : Launch} {g : GE} {B : Nat} {h : ST} {y : Int32 × ST} (hf : fX11_fault h = some y) : CT l yX11_fault cX11_fault 1 (some .int) 1 KM 43 g B [.ref (gA g 0)] h (some (.int y.1)) y.2 := by
  refine CT.of pn_X11 (Nat.le_of_ble_eq_true rfl) ?_
  intro p e s m below meth c hr F
  have F : Fx p s m _ meth c cX11_fault 1 "DustParishModel" 43 g B := F
  refine V_lv (lv' := [(0, .ref (gA g 0))]) rfl ?_
  unfold fX11_fault at hf
  refine v_aload_n (pc := 0) (j := 0) F dX11_fault_0 rfl rfl ?_
  refine v_iconst (pc := 1) (v := 0) F dX11_fault_1 ic_0 ?_
  obtain ⟨h1, e2, hf⟩ := bnd_some hf
  refine v_pfl (pc := 2) F fl_X11_157 pl_10_2 dX11_fault_2 km_0.1 km_0.2 fv_10_2 rfl rfl e2 ?_
  refine v_aload_n (pc := 5) (j := 0) F dX11_fault_5 rfl rfl ?_
  refine v_ifl (pc := 6) F fl_X11_83 dX11_fault_6 km_0.1 km_0.2 fv_10_28 ?_
  exact v_iret (pc := 9) F hr dX11_fault_9 (some_fst hf) (some_snd hf) (Nat.zero_le _)
def fX11_feed_76 (h : ST) (l1 : Int32) (l2 : Int32) (l3 : Int32) (l4 : Int32) (l5 : Int32) (l6 : Int32) (q0 : Int32) : Option ((ST × Int32) ⊕ ST) :=
  bnd (wr 700 h 18 (h 0 19) ((q0 >>> ((24 - (8 * (l6 - l6 / 4 * 4))) &&& 31)) &&& 255)) fun h9 =>
  bnd (pw h9 0 19 ((h9 0 19) + 1)) fun h11 =>
  some (.inl (h11, l6 + 1))
def fX11_feed_23 (l1 : Int32) (l2 : Int32) (l3 : Int32) (l4 : Int32) (l5 : Int32) (s1 : (ST × Int32)) : Option ((ST × Int32) ⊕ ST) :=
  if 20 ≤ s1.2 then
  some (.inr s1.1)
  else
  if 4 ≤ s1.2 then
    if 8 ≤ s1.2 then
      if 12 ≤ s1.2 then
        if 16 ≤ s1.2 then
          fX11_feed_76 s1.1 l1 l2 l3 l4 l5 s1.2 l5
          else
          fX11_feed_76 s1.1 l1 l2 l3 l4 l5 s1.2 l4
        else
        fX11_feed_76 s1.1 l1 l2 l3 l4 l5 s1.2 l3
      else
      fX11_feed_76 s1.1 l1 l2 l3 l4 l5 s1.2 l2
    else
    fX11_feed_76 s1.1 l1 l2 l3 l4 l5 s1.2 l1
def fX11_feed (h : ST) (a1 : Int32) (a2 : Int32) (a3 : Int32) (a4 : Int32) (a5 : Int32) : Option (Int32 × ST) :=
  bnd (pw h 0 2 0) fun h1 =>
  if ((h1 0 19) + 20) ≤ 700 then
  bnd (lp FU (fX11_feed_23 a1 a2 a3 a4 a5) (h1, 0)) fun x13 =>
    some (x13 0 19, x13)
  else
  some ((-1), h1)
set_option maxRecDepth 100000 in
set_option maxHeartbeats 4000000 in
theorem tX11_feed_76 {p : Program} {l : Launch} {e : Env} {s : State} {m : MethodId} {args : Array Value} {below : List Frame} {meth : Method} {c : Code} {g : GE} {B : Nat} {h : ST}  {l1 : Int32} {l2 : Int32} {l3 : Int32} {l4 : Int32} {l5 : Int32} {l6 : Int32} {q0 : Int32} (F : Fx p s m args meth c cX11_feed 8 "DustParishModel" 43 g B)
    {Q : State → Prop} {y : (ST × Int32) ⊕ ST} (hk : ∀ v : (ST × Int32), y = Sum.inl v → V p l e 1 0 s m args below meth c Q KM 43 g B 8 0 v.1 23 [(0, .ref (gA g 0)), (1, .int l1), (2, .int l2), (3, .int l3), (4, .int l4), (5, .int l5), (6, .int v.2)] []) (hx0 : ∀ v : ST, y = Sum.inr v → V p l e 1 0 s m args below meth c Q KM 43 g B 8 0 v 120 [(0, .ref (gA g 0))] []) (hf : fX11_feed_76 h l1 l2 l3 l4 l5 l6 q0 = some y) : V p l e 1 0 s m args below meth c Q KM 43 g B 8 0 h 76 [(0, .ref (gA g 0)), (1, .int l1), (2, .int l2), (3, .int l3), (4, .int l4), (5, .int l5), (6, .int l6)] [.int q0] := by
  unfold fX11_feed_76 at hf
  refine v_istore (pc := 76) (lv' := [(0, .ref (gA g 0)), (1, .int l1), (2, .int l2), (3, .int l3), (4, .int l4), (5, .int l5), (6, .int l6), (7, .int q0)]) F dX11_feed_76 (by decide) rfl ?_
  refine v_aload_n (pc := 78) (j := 0) F dX11_feed_78 rfl rfl ?_
  refine v_ifl (pc := 79) F fl_X11_80 dX11_feed_79 km_0.1 km_0.2 fv_10_18 ?_
  refine v_aload_n (pc := 82) (j := 0) F dX11_feed_82 rfl rfl ?_
  refine v_ifl (pc := 83) F fl_X11_166 dX11_feed_83 km_0.1 km_0.2 fv_10_19 ?_
  refine v_iload (pc := 86) (j := 7) F dX11_feed_86 rfl ?_
  refine v_bipush (pc := 88) (v := 24) F dX11_feed_88 bp_24 ?_
  refine v_bipush (pc := 90) (v := 8) F dX11_feed_90 bp_8 ?_
  refine v_iload (pc := 92) (j := 6) F dX11_feed_92 rfl ?_
  refine v_iconst (pc := 94) (v := 4) F dX11_feed_94 ic_4 ?_
  refine v_irem (pc := 95) F dX11_feed_95 (by decide) ?_
  refine v_imul (pc := 96) F dX11_feed_96 ?_
  refine v_isub (pc := 97) F dX11_feed_97 ?_
  refine v_ishr (pc := 98) F dX11_feed_98 ?_
  refine v_sipush (pc := 99) (v := 255) F dX11_feed_99 sp_255 ?_
  refine v_iand (pc := 102) F dX11_feed_102 ?_
  obtain ⟨h9, e10, hf⟩ := bnd_some hf
  refine v_iast (pc := 103) F dX11_feed_103 km_18.1 km_18.2 e10 ?_
  refine v_aload_n (pc := 104) (j := 0) F dX11_feed_104 rfl rfl ?_
  refine v_dup (pc := 105) F dX11_feed_105 rfl ?_
  refine v_ifl (pc := 106) F fl_X11_166 dX11_feed_106 km_0.1 km_0.2 fv_10_19 ?_
  refine v_iconst (pc := 109) (v := 1) F dX11_feed_109 ic_1 ?_
  refine v_iadd (pc := 110) F dX11_feed_110 ?_
  obtain ⟨h11, e12, hf⟩ := bnd_some hf
  refine v_pfl (pc := 111) F fl_X11_166 pl_10_19 dX11_feed_111 km_0.1 km_0.2 fv_10_19 rfl rfl e12 ?_
  refine v_iinc (pc := 114) (j := 6) (v := l6 + 1) (lv' := [(0, .ref (gA g 0)), (1, .int l1), (2, .int l2), (3, .int l3), (4, .int l4), (5, .int l5), (6, .int (l6 + 1)), (7, .int q0)]) F dX11_feed_114 rfl (congrArg (fun z => l6 + z) ic_1) (by decide) rfl ?_
  refine v_goto (pc := 117) (tgt := 23) F dX11_feed_117 (by decide) ?_
  refine V.sub (lv' := [(0, .ref (gA g 0)), (1, .int l1), (2, .int l2), (3, .int l3), (4, .int l4), (5, .int l5), (6, .int (l6 + 1))]) [0, 1, 2, 3, 4, 5, 6] rfl ?_
  exact hk (h11, l6 + 1) (Option.some.inj hf).symm
set_option maxRecDepth 100000 in
set_option maxHeartbeats 4000000 in
theorem tX11_feed_23 {p : Program} {l : Launch} {e : Env} {s : State} {m : MethodId} {args : Array Value} {below : List Frame} {meth : Method} {c : Code} {g : GE} {B : Nat}  {l1 : Int32} {l2 : Int32} {l3 : Int32} {l4 : Int32} {l5 : Int32} {Q : State → Prop} {x : ST} {nf : Nat} {s0 : (ST × Int32)} (F : Fx p s m args meth c cX11_feed 8 "DustParishModel" 43 g B) (hX0 : V p l e 1 0 s m args below meth c Q KM 43 g B 8 0 x 120 [(0, .ref (gA g 0))] []) (hl : lp nf (fX11_feed_23 l1 l2 l3 l4 l5) s0 = some x) : V p l e 1 0 s m args below meth c Q KM 43 g B 8 0 s0.1 23 [(0, .ref (gA g 0)), (1, .int l1), (2, .int l2), (3, .int l3), (4, .int l4), (5, .int l5), (6, .int s0.2)] [] := by
  refine lp_ind (P := fun s0 => V p l e 1 0 s m args below meth c Q KM 43 g B 8 0 s0.1 23 [(0, .ref (gA g 0)), (1, .int l1), (2, .int l2), (3, .int l3), (4, .int l4), (5, .int l5), (6, .int s0.2)] []) ?_ nf s0 hl
  intro s1 y hf hk hx
  have hx0 : ∀ v : ST, y = Sum.inr v → V p l e 1 0 s m args below meth c Q KM 43 g B 8 0 v 120 [(0, .ref (gA g 0))] [] := fun v e9 => by rw [hx v e9]; exact hX0
  unfold fX11_feed_23 at hf
  refine v_iload (pc := 23) (j := 6) F dX11_feed_23 rfl ?_
  refine v_bipush (pc := 25) (v := 20) F dX11_feed_25 bp_20 ?_
  refine v_icmp_ge (pc := 27) (tgt := 120) F dX11_feed_27 (by decide) (fun c4 => ?_) (fun c4 => ?_)
  · have hf := ite_t hf c4
    refine V.sub (lv' := [(0, .ref (gA g 0))]) [0] rfl ?_
    exact hx0 s1.1 (Option.some.inj hf).symm
  · have hf := ite_f hf c4
    refine v_iload (pc := 30) (j := 6) F dX11_feed_30 rfl ?_
    refine v_iconst (pc := 32) (v := 4) F dX11_feed_32 ic_4 ?_
    refine v_icmp_ge (pc := 33) (tgt := 40) F dX11_feed_33 (by decide) (fun c5 => ?_) (fun c5 => ?_)
    · have hf := ite_t hf c5
      refine v_iload (pc := 40) (j := 6) F dX11_feed_40 rfl ?_
      refine v_bipush (pc := 42) (v := 8) F dX11_feed_42 bp_8 ?_
      refine v_icmp_ge (pc := 44) (tgt := 51) F dX11_feed_44 (by decide) (fun c6 => ?_) (fun c6 => ?_)
      · have hf := ite_t hf c6
        refine v_iload (pc := 51) (j := 6) F dX11_feed_51 rfl ?_
        refine v_bipush (pc := 53) (v := 12) F dX11_feed_53 bp_12 ?_
        refine v_icmp_ge (pc := 55) (tgt := 62) F dX11_feed_55 (by decide) (fun c7 => ?_) (fun c7 => ?_)
        · have hf := ite_t hf c7
          refine v_iload (pc := 62) (j := 6) F dX11_feed_62 rfl ?_
          refine v_bipush (pc := 64) (v := 16) F dX11_feed_64 bp_16 ?_
          refine v_icmp_ge (pc := 66) (tgt := 74) F dX11_feed_66 (by decide) (fun c8 => ?_) (fun c8 => ?_)
          · have hf := ite_t hf c8
            refine v_iload (pc := 74) (j := 5) F dX11_feed_74 rfl ?_
            exact tX11_feed_76 F hk hx0 hf
          · have hf := ite_f hf c8
            refine v_iload (pc := 69) (j := 4) F dX11_feed_69 rfl ?_
            refine v_goto (pc := 71) (tgt := 76) F dX11_feed_71 (by decide) ?_
            exact tX11_feed_76 F hk hx0 hf
        · have hf := ite_f hf c7
          refine v_iload_n (pc := 58) (j := 3) F dX11_feed_58 rfl rfl ?_
          refine v_goto (pc := 59) (tgt := 76) F dX11_feed_59 (by decide) ?_
          exact tX11_feed_76 F hk hx0 hf
      · have hf := ite_f hf c6
        refine v_iload_n (pc := 47) (j := 2) F dX11_feed_47 rfl rfl ?_
        refine v_goto (pc := 48) (tgt := 76) F dX11_feed_48 (by decide) ?_
        exact tX11_feed_76 F hk hx0 hf
    · have hf := ite_f hf c5
      refine v_iload_n (pc := 36) (j := 1) F dX11_feed_36 rfl rfl ?_
      refine v_goto (pc := 37) (tgt := 76) F dX11_feed_37 (by decide) ?_
      exact tX11_feed_76 F hk hx0 hf
set_option maxRecDepth 100000 in
set_option maxHeartbeats 4000000 in
theorem kX11_feed {l : Launch} {g : GE} {B : Nat} {h : ST} {a1 : Int32} {a2 : Int32} {a3 : Int32} {a4 : Int32} {a5 : Int32} {y : Int32 × ST} (hf : fX11_feed h a1 a2 a3 a4 a5 = some y) : CT l yX11_feed cX11_feed 8 (some .int) 1 KM 43 g B [.ref (gA g 0), .int a1, .int a2, .int a3, .int a4, .int a5] h (some (.int y.1)) y.2 := by
  refine CT.of pn_X11 (Nat.le_of_ble_eq_true rfl) ?_
  intro p e s m below meth c hr F
  have F : Fx p s m _ meth c cX11_feed 8 "DustParishModel" 43 g B := F
  refine V_lv (lv' := [(0, .ref (gA g 0)), (1, .int a1), (2, .int a2), (3, .int a3), (4, .int a4), (5, .int a5)]) rfl ?_
  unfold fX11_feed at hf
  refine v_aload_n (pc := 0) (j := 0) F dX11_feed_0 rfl rfl ?_
  refine v_iconst (pc := 1) (v := 0) F dX11_feed_1 ic_0 ?_
  obtain ⟨h1, e2, hf⟩ := bnd_some hf
  refine v_pfl (pc := 2) F fl_X11_157 pl_10_2 dX11_feed_2 km_0.1 km_0.2 fv_10_2 rfl rfl e2 ?_
  refine v_aload_n (pc := 5) (j := 0) F dX11_feed_5 rfl rfl ?_
  refine v_ifl (pc := 6) F fl_X11_166 dX11_feed_6 km_0.1 km_0.2 fv_10_19 ?_
  refine v_bipush (pc := 9) (v := 20) F dX11_feed_9 bp_20 ?_
  refine v_iadd (pc := 11) F dX11_feed_11 ?_
  refine v_sipush (pc := 12) (v := 700) F dX11_feed_12 sp_700 ?_
  refine v_icmp_le (pc := 15) (tgt := 20) F dX11_feed_15 (by decide) (fun c3 => ?_) (fun c3 => ?_)
  · have hf := ite_t hf c3
    refine v_iconst (pc := 20) (v := 0) F dX11_feed_20 ic_0 ?_
    refine v_istore (pc := 21) (lv' := [(0, .ref (gA g 0)), (1, .int a1), (2, .int a2), (3, .int a3), (4, .int a4), (5, .int a5), (6, .int 0)]) F dX11_feed_21 (by decide) rfl ?_
    obtain ⟨x13, e14, hf⟩ := bnd_some hf
    refine tX11_feed_23 (s0 := (h1, 0)) F ?_ e14
    refine v_aload_n (pc := 120) (j := 0) F dX11_feed_120 rfl rfl ?_
    refine v_ifl (pc := 121) F fl_X11_166 dX11_feed_121 km_0.1 km_0.2 fv_10_19 ?_
    exact v_iret (pc := 124) F hr dX11_feed_124 (some_fst hf) (some_snd hf) (Nat.zero_le _)
  · have hf := ite_f hf c3
    refine v_iconst (pc := 18) (v := (-1)) F dX11_feed_18 ic_m1 ?_
    exact v_iret (pc := 19) F hr dX11_feed_19 (some_fst hf) (some_snd hf) (Nat.zero_le _)
def fX11_forget (h : ST) : Option (ST) :=
  bnd (pw h 0 2 0) fun h1 =>
  bnd (pw h1 0 37 0) fun h3 =>
  some h3
set_option maxRecDepth 100000 in
set_option maxHeartbeats 4000000 in
theorem kX11_forget {l : Launch} {g : GE} {B : Nat} {h : ST} {y : ST} (hf : fX11_forget h = some y) : CT l yX11_forget cX11_forget 1 none 1 KM 43 g B [.ref (gA g 0)] h none y := by
  refine CT.of pn_X11 (Nat.le_of_ble_eq_true rfl) ?_
  intro p e s m below meth c hr F
  have F : Fx p s m _ meth c cX11_forget 1 "DustParishModel" 43 g B := F
  refine V_lv (lv' := [(0, .ref (gA g 0))]) rfl ?_
  unfold fX11_forget at hf
  refine v_aload_n (pc := 0) (j := 0) F dX11_forget_0 rfl rfl ?_
  refine v_iconst (pc := 1) (v := 0) F dX11_forget_1 ic_0 ?_
  obtain ⟨h1, e2, hf⟩ := bnd_some hf
  refine v_pfl (pc := 2) F fl_X11_157 pl_10_2 dX11_forget_2 km_0.1 km_0.2 fv_10_2 rfl rfl e2 ?_
  refine v_aload_n (pc := 5) (j := 0) F dX11_forget_5 rfl rfl ?_
  refine v_iconst (pc := 6) (v := 0) F dX11_forget_6 ic_0 ?_
  obtain ⟨h3, e4, hf⟩ := bnd_some hf
  refine v_pfl (pc := 7) F fl_X11_344 pl_10_37 dX11_forget_7 km_0.1 km_0.2 fv_10_37 rfl rfl e4 ?_
  exact v_vret (pc := 10) F hr dX11_forget_10 (Option.some.inj hf) (Nat.zero_le _)
def fX11_from_21 (h : ST)  : Option (Int32 × ST) :=
  bnd (fX11_fail h 1) fun r6 =>
  some (r6.1, r6.2)
def fX11_from_74 (h : ST) (l1 : Int32) (l2 : Int32) (l3 : Int32) (l4 : Int32) (q1 : Int32) (q2 : Int32) : Option ((ST × Int32) ⊕ ST) :=
  bnd (wr 9 h 32 q1 q2) fun h16 =>
  some (.inl (h16, l4 + 1))
def fX11_from_48 (l1 : Int32) (l2 : Int32) (l3 : Int32) (s1 : (ST × Int32)) : Option ((ST × Int32) ⊕ ST) :=
  if 9 ≤ s1.2 then
  some (.inr s1.1)
  else
  if s1.2 = l1 then
    fX11_from_74 s1.1 l1 l2 l3 s1.2 s1.2 10000
    else
    fX11_from_74 s1.1 l1 l2 l3 s1.2 s1.2 0
def fX11_from_217 (h : ST) (l2 : Int32) (l3 : Int32) (l4 : Int32) (l5 : Int32) (l6 : Int32) (q1 : Int32) (q2 : Int32) (q3 : Int32) : Option ((ST × Int32) ⊕ ST) :=
  bnd (wr 9 h 32 q1 (q2 + q3)) fun h48 =>
  some (.inl (h48, l6 + 1))
def fX11_from_113 (l2 : Int32) (l3 : Int32) (l4 : Int32) (l5 : Int32) (s1 : (ST × Int32)) : Option ((ST × Int32) ⊕ ST) :=
  if l5 = 5 then
  some (.inr s1.1)
  else
  bnd (rd 10 (s1.1 11) l5) fun v24 =>
    if ((8 * l5) + v24) ≤ s1.2 then
    some (.inr s1.1)
    else
    bnd (rd 80 (s1.1 12) s1.2) fun v27 =>
      bnd (rd 9 (s1.1 32) v27) fun v29 =>
      bnd (rd 80 (s1.1 14) s1.2) fun v31 =>
      bnd (rd 80 (s1.1 12) s1.2) fun v33 =>
      bnd (rd 9 (s1.1 32) v33) fun v35 =>
      bnd (wr 9 s1.1 32 v33 (v35 - ((v29 * v31) / 10))) fun h37 =>
      bnd (rd 80 (h37 13) s1.2) fun v39 =>
      bnd (rd 9 (h37 32) v39) fun v41 =>
      bnd (rd 80 (h37 13) s1.2) fun v43 =>
      bnd (rd 18 (h37 4) v43) fun v45 =>
      if v45 = 1 then
      fX11_from_217 h37 l2 l3 l4 l5 s1.2 v39 v41 (((v29 * v31) / 10) / 2)
      else
      fX11_from_217 h37 l2 l3 l4 l5 s1.2 v39 v41 ((v29 * v31) / 10)
def fX11_from_225 (h : ST) (l2 : Int32) (l3 : Int32) (l4 : Int32) : Option ((ST × Int32) ⊕ ST) :=
  some (.inl (h, l4 + 1))
def fX11_from_87 (l2 : Int32) (l3 : Int32) (s1 : (ST × Int32)) : Option ((ST × Int32) ⊕ ST) :=
  if ((s1.1 0 33) + l3) ≤ s1.2 then
  some (.inr s1.1)
  else
  bnd (fX11_windOf s1.1 s1.2) fun r21 =>
    bnd (lp FU (fX11_from_113 l2 l3 s1.2 r21) (s1.1, 8 * r21)) fun x50 =>
    fX11_from_225 x50 l2 l3 s1.2
def fX11_from (h : ST) (a1 : Int32) (a2 : Int32) (a3 : Int32) : Option (Int32 × ST) :=
  bnd (pw h 0 2 0) fun h1 =>
  bnd (fX11_isRoom h1 a1) fun r3 =>
  if r3 = 0 then
  fX11_from_21 h1 
  else
  bnd (fX11_isRoom h1 a2) fun r8 =>
    if r8 = 0 then
    fX11_from_21 h1 
    else
    bnd (fX11_isIn h1 a3.toInt64 (0 : Int64) (9 : Int64)) fun r11 =>
      if r11 = 0 then
      bnd (fX11_fail h1 2) fun r56 =>
        some (r56.1, r56.2)
      else
      bnd (lp FU (fX11_from_48 a1 a2 a3) (h1, 0)) fun x18 =>
        bnd (lp FU (fX11_from_87 a2 a3) (x18, x18 0 33)) fun x52 =>
        bnd (rd 9 (x52 32) a2) fun v54 =>
        some (v54, x52)
set_option maxRecDepth 100000 in
set_option maxHeartbeats 4000000 in
theorem tX11_from_21 {p : Program} {l : Launch} {e : Env} {s : State} {m : MethodId} {args : Array Value} {below : List Frame} {meth : Method} {c : Code} {g : GE} {B : Nat} {h : ST}  (F : Fx p s m args meth c cX11_from 8 "DustParishModel" 43 g B)
    {y : Int32 × ST} (hr : meth.sig.returnType = (some .int)) (hf : fX11_from_21 h  = some y) : V p l e 3 0 s m args below meth c (MQ below (QO KM 43 g (some (.int y.1)) y.2) args s 0 (6 * 0) (fun q => B ≤ q)) KM 43 g B 8 0 h 21 [(0, .ref (gA g 0))] [] := by
  unfold fX11_from_21 at hf
  refine v_aload_n (pc := 21) (j := 0) F dX11_from_21 rfl rfl ?_
  refine v_iconst (pc := 22) (v := 1) F dX11_from_22 ic_1 ?_
  obtain ⟨r6, e7, hf⟩ := bnd_some hf
  refine v_callVi (pc := 23) (As := [.int 1]) F cl_X11_320 dX11_from_23 (kX11_fail e7) km_0.1 km_0.2 rc_10 rfl rfl (Nat.le_of_ble_eq_true rfl) (by decide) (Nat.zero_le _) ?_
  exact v_iret (pc := 26) F hr dX11_from_26 (some_fst hf) (some_snd hf) (Nat.zero_le _)
set_option maxRecDepth 100000 in
set_option maxHeartbeats 4000000 in
theorem tX11_from_74 {p : Program} {l : Launch} {e : Env} {s : State} {m : MethodId} {args : Array Value} {below : List Frame} {meth : Method} {c : Code} {g : GE} {B : Nat} {h : ST}  {l1 : Int32} {l2 : Int32} {l3 : Int32} {l4 : Int32} {q1 : Int32} {q2 : Int32} (F : Fx p s m args meth c cX11_from 8 "DustParishModel" 43 g B)
    {Q : State → Prop} {y : (ST × Int32) ⊕ ST} (hk : ∀ v : (ST × Int32), y = Sum.inl v → V p l e 3 0 s m args below meth c Q KM 43 g B 8 0 v.1 48 [(0, .ref (gA g 0)), (1, .int l1), (2, .int l2), (3, .int l3), (4, .int v.2)] []) (hx0 : ∀ v : ST, y = Sum.inr v → V p l e 3 0 s m args below meth c Q KM 43 g B 8 0 v 81 [(0, .ref (gA g 0)), (2, .int l2), (3, .int l3)] []) (hf : fX11_from_74 h l1 l2 l3 l4 q1 q2 = some y) : V p l e 3 0 s m args below meth c Q KM 43 g B 8 0 h 74 [(0, .ref (gA g 0)), (1, .int l1), (2, .int l2), (3, .int l3), (4, .int l4)] [.int q2, .int q1, .ref (gA g 32)] := by
  unfold fX11_from_74 at hf
  obtain ⟨h16, e17, hf⟩ := bnd_some hf
  refine v_iast (pc := 74) F dX11_from_74 km_32.1 km_32.2 e17 ?_
  refine v_iinc (pc := 75) (j := 4) (v := l4 + 1) (lv' := [(0, .ref (gA g 0)), (1, .int l1), (2, .int l2), (3, .int l3), (4, .int (l4 + 1))]) F dX11_from_75 rfl (congrArg (fun z => l4 + z) ic_1) (by decide) rfl ?_
  refine v_goto (pc := 78) (tgt := 48) F dX11_from_78 (by decide) ?_
  exact hk (h16, l4 + 1) (Option.some.inj hf).symm
set_option maxRecDepth 100000 in
set_option maxHeartbeats 4000000 in
theorem tX11_from_48 {p : Program} {l : Launch} {e : Env} {s : State} {m : MethodId} {args : Array Value} {below : List Frame} {meth : Method} {c : Code} {g : GE} {B : Nat}  {l1 : Int32} {l2 : Int32} {l3 : Int32} {Q : State → Prop} {x : ST} {nf : Nat} {s0 : (ST × Int32)} (F : Fx p s m args meth c cX11_from 8 "DustParishModel" 43 g B) (hX0 : V p l e 3 0 s m args below meth c Q KM 43 g B 8 0 x 81 [(0, .ref (gA g 0)), (2, .int l2), (3, .int l3)] []) (hl : lp nf (fX11_from_48 l1 l2 l3) s0 = some x) : V p l e 3 0 s m args below meth c Q KM 43 g B 8 0 s0.1 48 [(0, .ref (gA g 0)), (1, .int l1), (2, .int l2), (3, .int l3), (4, .int s0.2)] [] := by
  refine lp_ind (P := fun s0 => V p l e 3 0 s m args below meth c Q KM 43 g B 8 0 s0.1 48 [(0, .ref (gA g 0)), (1, .int l1), (2, .int l2), (3, .int l3), (4, .int s0.2)] []) ?_ nf s0 hl
  intro s1 y hf hk hx
  have hx0 : ∀ v : ST, y = Sum.inr v → V p l e 3 0 s m args below meth c Q KM 43 g B 8 0 v 81 [(0, .ref (gA g 0)), (2, .int l2), (3, .int l3)] [] := fun v e9 => by rw [hx v e9]; exact hX0
  unfold fX11_from_48 at hf
  refine v_iload (pc := 48) (j := 4) F dX11_from_48 rfl ?_
  refine v_bipush (pc := 50) (v := 9) F dX11_from_50 bp_9 ?_
  refine v_icmp_ge (pc := 52) (tgt := 81) F dX11_from_52 (by decide) (fun c14 => ?_) (fun c14 => ?_)
  · have hf := ite_t hf c14
    refine V.sub (lv' := [(0, .ref (gA g 0)), (2, .int l2), (3, .int l3)]) [0, 2, 3] rfl ?_
    exact hx0 s1.1 (Option.some.inj hf).symm
  · have hf := ite_f hf c14
    refine v_aload_n (pc := 55) (j := 0) F dX11_from_55 rfl rfl ?_
    refine v_ifl (pc := 56) F fl_X11_124 dX11_from_56 km_0.1 km_0.2 fv_10_48 ?_
    refine v_iload (pc := 59) (j := 4) F dX11_from_59 rfl ?_
    refine v_iload (pc := 61) (j := 4) F dX11_from_61 rfl ?_
    refine v_iload_n (pc := 63) (j := 1) F dX11_from_63 rfl rfl ?_
    refine v_icmp_ne (pc := 64) (tgt := 73) F dX11_from_64 (by decide) (fun c15 => ?_) (fun c15 => ?_)
    · have hf := ite_f hf c15
      refine v_iconst (pc := 73) (v := 0) F dX11_from_73 ic_0 ?_
      exact tX11_from_74 F hk hx0 hf
    · have hf := ite_t hf c15
      refine v_sipush (pc := 67) (v := 10000) F dX11_from_67 sp_10000 ?_
      refine v_goto (pc := 70) (tgt := 74) F dX11_from_70 (by decide) ?_
      exact tX11_from_74 F hk hx0 hf
set_option maxRecDepth 100000 in
set_option maxHeartbeats 4000000 in
theorem tX11_from_217 {p : Program} {l : Launch} {e : Env} {s : State} {m : MethodId} {args : Array Value} {below : List Frame} {meth : Method} {c : Code} {g : GE} {B : Nat} {h : ST}  {l2 : Int32} {l3 : Int32} {l4 : Int32} {l5 : Int32} {l6 : Int32} {q1 : Int32} {q2 : Int32} {q3 : Int32} (F : Fx p s m args meth c cX11_from 8 "DustParishModel" 43 g B)
    {Q : State → Prop} {y : (ST × Int32) ⊕ ST} (hk : ∀ v : (ST × Int32), y = Sum.inl v → V p l e 3 0 s m args below meth c Q KM 43 g B 8 0 v.1 113 [(0, .ref (gA g 0)), (2, .int l2), (3, .int l3), (4, .int l4), (5, .int l5), (6, .int v.2)] []) (hx0 : ∀ v : ST, y = Sum.inr v → V p l e 3 0 s m args below meth c Q KM 43 g B 8 0 v 225 [(0, .ref (gA g 0)), (2, .int l2), (3, .int l3), (4, .int l4)] []) (hf : fX11_from_217 h l2 l3 l4 l5 l6 q1 q2 q3 = some y) : V p l e 3 0 s m args below meth c Q KM 43 g B 8 0 h 217 [(0, .ref (gA g 0)), (2, .int l2), (3, .int l3), (4, .int l4), (5, .int l5), (6, .int l6)] [.int q3, .int q2, .int q1, .ref (gA g 32)] := by
  unfold fX11_from_217 at hf
  refine v_iadd (pc := 217) F dX11_from_217 ?_
  obtain ⟨h48, e49, hf⟩ := bnd_some hf
  refine v_iast (pc := 218) F dX11_from_218 km_32.1 km_32.2 e49 ?_
  refine v_iinc (pc := 219) (j := 5) (v := l6 + 1) (lv' := [(0, .ref (gA g 0)), (2, .int l2), (3, .int l3), (4, .int l4), (5, .int l5), (6, .int (l6 + 1))]) F dX11_from_219 rfl (congrArg (fun z => l6 + z) ic_1) (by decide) rfl ?_
  refine v_goto (pc := 222) (tgt := 113) F dX11_from_222 (by decide) ?_
  exact hk (h48, l6 + 1) (Option.some.inj hf).symm
set_option maxRecDepth 100000 in
set_option maxHeartbeats 4000000 in
theorem tX11_from_113 {p : Program} {l : Launch} {e : Env} {s : State} {m : MethodId} {args : Array Value} {below : List Frame} {meth : Method} {c : Code} {g : GE} {B : Nat}  {l2 : Int32} {l3 : Int32} {l4 : Int32} {l5 : Int32} {Q : State → Prop} {x : ST} {nf : Nat} {s0 : (ST × Int32)} (F : Fx p s m args meth c cX11_from 8 "DustParishModel" 43 g B) (hX0 : V p l e 3 0 s m args below meth c Q KM 43 g B 8 0 x 225 [(0, .ref (gA g 0)), (2, .int l2), (3, .int l3), (4, .int l4)] []) (hl : lp nf (fX11_from_113 l2 l3 l4 l5) s0 = some x) : V p l e 3 0 s m args below meth c Q KM 43 g B 8 0 s0.1 113 [(0, .ref (gA g 0)), (2, .int l2), (3, .int l3), (4, .int l4), (5, .int l5), (6, .int s0.2)] [] := by
  refine lp_ind (P := fun s0 => V p l e 3 0 s m args below meth c Q KM 43 g B 8 0 s0.1 113 [(0, .ref (gA g 0)), (2, .int l2), (3, .int l3), (4, .int l4), (5, .int l5), (6, .int s0.2)] []) ?_ nf s0 hl
  intro s1 y hf hk hx
  have hx0 : ∀ v : ST, y = Sum.inr v → V p l e 3 0 s m args below meth c Q KM 43 g B 8 0 v 225 [(0, .ref (gA g 0)), (2, .int l2), (3, .int l3), (4, .int l4)] [] := fun v e9 => by rw [hx v e9]; exact hX0
  unfold fX11_from_113 at hf
  refine v_iload (pc := 113) (j := 4) F dX11_from_113 rfl ?_
  refine v_iconst (pc := 115) (v := 5) F dX11_from_115 ic_5 ?_
  refine v_icmp_eq (pc := 116) (tgt := 225) F dX11_from_116 (by decide) (fun c23 => ?_) (fun c23 => ?_)
  · have hf := ite_t hf c23
    refine V.sub (lv' := [(0, .ref (gA g 0)), (2, .int l2), (3, .int l3), (4, .int l4)]) [0, 1, 2, 3] rfl ?_
    exact hx0 s1.1 (Option.some.inj hf).symm
  · have hf := ite_f hf c23
    refine v_iload (pc := 119) (j := 5) F dX11_from_119 rfl ?_
    refine v_bipush (pc := 121) (v := 8) F dX11_from_121 bp_8 ?_
    refine v_iload (pc := 123) (j := 4) F dX11_from_123 rfl ?_
    refine v_imul (pc := 125) F dX11_from_125 ?_
    refine v_aload_n (pc := 126) (j := 0) F dX11_from_126 rfl rfl ?_
    refine v_ifl (pc := 127) F fl_X11_59 dX11_from_127 km_0.1 km_0.2 fv_10_11 ?_
    refine v_iload (pc := 130) (j := 4) F dX11_from_130 rfl ?_
    obtain ⟨v24, e25, hf⟩ := bnd_some hf
    refine v_iald (pc := 132) F dX11_from_132 km_11.1 km_11.2 e25 ?_
    refine v_iadd (pc := 133) F dX11_from_133 ?_
    refine v_icmp_ge (pc := 134) (tgt := 225) F dX11_from_134 (by decide) (fun c26 => ?_) (fun c26 => ?_)
    · have hf := ite_t hf c26
      refine V.sub (lv' := [(0, .ref (gA g 0)), (2, .int l2), (3, .int l3), (4, .int l4)]) [0, 1, 2, 3] rfl ?_
      exact hx0 s1.1 (Option.some.inj hf).symm
    · have hf := ite_f hf c26
      refine v_aload_n (pc := 137) (j := 0) F dX11_from_137 rfl rfl ?_
      refine v_ifl (pc := 138) F fl_X11_124 dX11_from_138 km_0.1 km_0.2 fv_10_48 ?_
      refine v_aload_n (pc := 141) (j := 0) F dX11_from_141 rfl rfl ?_
      refine v_ifl (pc := 142) F fl_X11_62 dX11_from_142 km_0.1 km_0.2 fv_10_12 ?_
      refine v_iload (pc := 145) (j := 5) F dX11_from_145 rfl ?_
      obtain ⟨v27, e28, hf⟩ := bnd_some hf
      refine v_iald (pc := 147) F dX11_from_147 km_12.1 km_12.2 e28 ?_
      obtain ⟨v29, e30, hf⟩ := bnd_some hf
      refine v_iald (pc := 148) F dX11_from_148 km_32.1 km_32.2 e30 ?_
      refine v_aload_n (pc := 149) (j := 0) F dX11_from_149 rfl rfl ?_
      refine v_ifl (pc := 150) F fl_X11_68 dX11_from_150 km_0.1 km_0.2 fv_10_14 ?_
      refine v_iload (pc := 153) (j := 5) F dX11_from_153 rfl ?_
      obtain ⟨v31, e32, hf⟩ := bnd_some hf
      refine v_iald (pc := 155) F dX11_from_155 km_14.1 km_14.2 e32 ?_
      refine v_imul (pc := 156) F dX11_from_156 ?_
      refine v_bipush (pc := 157) (v := 10) F dX11_from_157 bp_10 ?_
      refine v_idiv (pc := 159) F dX11_from_159 (by decide) ?_
      refine v_istore (pc := 160) (lv' := [(0, .ref (gA g 0)), (2, .int l2), (3, .int l3), (4, .int l4), (5, .int l5), (6, .int s1.2), (7, .int ((v29 * v31) / 10))]) F dX11_from_160 (by decide) rfl ?_
      refine v_aload_n (pc := 162) (j := 0) F dX11_from_162 rfl rfl ?_
      refine v_ifl (pc := 163) F fl_X11_124 dX11_from_163 km_0.1 km_0.2 fv_10_48 ?_
      refine v_aload_n (pc := 166) (j := 0) F dX11_from_166 rfl rfl ?_
      refine v_ifl (pc := 167) F fl_X11_62 dX11_from_167 km_0.1 km_0.2 fv_10_12 ?_
      refine v_iload (pc := 170) (j := 5) F dX11_from_170 rfl ?_
      obtain ⟨v33, e34, hf⟩ := bnd_some hf
      refine v_iald (pc := 172) F dX11_from_172 km_12.1 km_12.2 e34 ?_
      refine v_dup2_11 (pc := 173) F dX11_from_173 rfl rfl ?_
      obtain ⟨v35, e36, hf⟩ := bnd_some hf
      refine v_iald (pc := 174) F dX11_from_174 km_32.1 km_32.2 e36 ?_
      refine v_iload (pc := 175) (j := 6) F dX11_from_175 rfl ?_
      refine v_isub (pc := 177) F dX11_from_177 ?_
      obtain ⟨h37, e38, hf⟩ := bnd_some hf
      refine v_iast (pc := 178) F dX11_from_178 km_32.1 km_32.2 e38 ?_
      refine v_aload_n (pc := 179) (j := 0) F dX11_from_179 rfl rfl ?_
      refine v_ifl (pc := 180) F fl_X11_124 dX11_from_180 km_0.1 km_0.2 fv_10_48 ?_
      refine v_aload_n (pc := 183) (j := 0) F dX11_from_183 rfl rfl ?_
      refine v_ifl (pc := 184) F fl_X11_65 dX11_from_184 km_0.1 km_0.2 fv_10_13 ?_
      refine v_iload (pc := 187) (j := 5) F dX11_from_187 rfl ?_
      obtain ⟨v39, e40, hf⟩ := bnd_some hf
      refine v_iald (pc := 189) F dX11_from_189 km_13.1 km_13.2 e40 ?_
      refine v_dup2_11 (pc := 190) F dX11_from_190 rfl rfl ?_
      obtain ⟨v41, e42, hf⟩ := bnd_some hf
      refine v_iald (pc := 191) F dX11_from_191 km_32.1 km_32.2 e42 ?_
      refine v_aload_n (pc := 192) (j := 0) F dX11_from_192 rfl rfl ?_
      refine v_ifl (pc := 193) F fl_X11_40 dX11_from_193 km_0.1 km_0.2 fv_10_4 ?_
      refine v_aload_n (pc := 196) (j := 0) F dX11_from_196 rfl rfl ?_
      refine v_ifl (pc := 197) F fl_X11_65 dX11_from_197 km_0.1 km_0.2 fv_10_13 ?_
      refine v_iload (pc := 200) (j := 5) F dX11_from_200 rfl ?_
      obtain ⟨v43, e44, hf⟩ := bnd_some hf
      refine v_iald (pc := 202) F dX11_from_202 km_13.1 km_13.2 e44 ?_
      obtain ⟨v45, e46, hf⟩ := bnd_some hf
      refine v_iald (pc := 203) F dX11_from_203 km_4.1 km_4.2 e46 ?_
      refine v_iconst (pc := 204) (v := 1) F dX11_from_204 ic_1 ?_
      refine v_icmp_ne (pc := 205) (tgt := 215) F dX11_from_205 (by decide) (fun c47 => ?_) (fun c47 => ?_)
      · have hf := ite_f hf c47
        refine v_iload (pc := 215) (j := 6) F dX11_from_215 rfl ?_
        refine V.sub (lv' := [(0, .ref (gA g 0)), (2, .int l2), (3, .int l3), (4, .int l4), (5, .int l5), (6, .int s1.2)]) [0, 1, 2, 3, 4, 5] rfl ?_
        exact tX11_from_217 F hk hx0 hf
      · have hf := ite_t hf c47
        refine v_iload (pc := 208) (j := 6) F dX11_from_208 rfl ?_
        refine v_iconst (pc := 210) (v := 2) F dX11_from_210 ic_2 ?_
        refine v_idiv (pc := 211) F dX11_from_211 (by decide) ?_
        refine v_goto (pc := 212) (tgt := 217) F dX11_from_212 (by decide) ?_
        refine V.sub (lv' := [(0, .ref (gA g 0)), (2, .int l2), (3, .int l3), (4, .int l4), (5, .int l5), (6, .int s1.2)]) [0, 1, 2, 3, 4, 5] rfl ?_
        exact tX11_from_217 F hk hx0 hf
set_option maxRecDepth 100000 in
set_option maxHeartbeats 4000000 in
theorem tX11_from_225 {p : Program} {l : Launch} {e : Env} {s : State} {m : MethodId} {args : Array Value} {below : List Frame} {meth : Method} {c : Code} {g : GE} {B : Nat} {h : ST}  {l2 : Int32} {l3 : Int32} {l4 : Int32} (F : Fx p s m args meth c cX11_from 8 "DustParishModel" 43 g B)
    {Q : State → Prop} {y : (ST × Int32) ⊕ ST} (hk : ∀ v : (ST × Int32), y = Sum.inl v → V p l e 3 0 s m args below meth c Q KM 43 g B 8 0 v.1 87 [(0, .ref (gA g 0)), (2, .int l2), (3, .int l3), (4, .int v.2)] []) (hx0 : ∀ v : ST, y = Sum.inr v → V p l e 3 0 s m args below meth c Q KM 43 g B 8 0 v 231 [(0, .ref (gA g 0)), (2, .int l2)] []) (hf : fX11_from_225 h l2 l3 l4 = some y) : V p l e 3 0 s m args below meth c Q KM 43 g B 8 0 h 225 [(0, .ref (gA g 0)), (2, .int l2), (3, .int l3), (4, .int l4)] [] := by
  unfold fX11_from_225 at hf
  refine v_iinc (pc := 225) (j := 3) (v := l4 + 1) (lv' := [(0, .ref (gA g 0)), (2, .int l2), (3, .int l3), (4, .int (l4 + 1))]) F dX11_from_225 rfl (congrArg (fun z => l4 + z) ic_1) (by decide) rfl ?_
  refine v_goto (pc := 228) (tgt := 87) F dX11_from_228 (by decide) ?_
  exact hk (h, l4 + 1) (Option.some.inj hf).symm
set_option maxRecDepth 100000 in
set_option maxHeartbeats 4000000 in
theorem tX11_from_87 {p : Program} {l : Launch} {e : Env} {s : State} {m : MethodId} {args : Array Value} {below : List Frame} {meth : Method} {c : Code} {g : GE} {B : Nat}  {l2 : Int32} {l3 : Int32} {Q : State → Prop} {x : ST} {nf : Nat} {s0 : (ST × Int32)} (F : Fx p s m args meth c cX11_from 8 "DustParishModel" 43 g B) (hX0 : V p l e 3 0 s m args below meth c Q KM 43 g B 8 0 x 231 [(0, .ref (gA g 0)), (2, .int l2)] []) (hl : lp nf (fX11_from_87 l2 l3) s0 = some x) : V p l e 3 0 s m args below meth c Q KM 43 g B 8 0 s0.1 87 [(0, .ref (gA g 0)), (2, .int l2), (3, .int l3), (4, .int s0.2)] [] := by
  refine lp_ind (P := fun s0 => V p l e 3 0 s m args below meth c Q KM 43 g B 8 0 s0.1 87 [(0, .ref (gA g 0)), (2, .int l2), (3, .int l3), (4, .int s0.2)] []) ?_ nf s0 hl
  intro s1 y hf hk hx
  have hx0 : ∀ v : ST, y = Sum.inr v → V p l e 3 0 s m args below meth c Q KM 43 g B 8 0 v 231 [(0, .ref (gA g 0)), (2, .int l2)] [] := fun v e9 => by rw [hx v e9]; exact hX0
  unfold fX11_from_87 at hf
  refine v_iload (pc := 87) (j := 3) F dX11_from_87 rfl ?_
  refine v_aload_n (pc := 89) (j := 0) F dX11_from_89 rfl rfl ?_
  refine v_ifl (pc := 90) F fl_X11_333 dX11_from_90 km_0.1 km_0.2 fv_10_33 ?_
  refine v_iload_n (pc := 93) (j := 2) F dX11_from_93 rfl rfl ?_
  refine v_iadd (pc := 94) F dX11_from_94 ?_
  refine v_icmp_ge (pc := 95) (tgt := 231) F dX11_from_95 (by decide) (fun c20 => ?_) (fun c20 => ?_)
  · have hf := ite_t hf c20
    refine V.sub (lv' := [(0, .ref (gA g 0)), (2, .int l2)]) [0, 1] rfl ?_
    exact hx0 s1.1 (Option.some.inj hf).symm
  · have hf := ite_f hf c20
    refine v_aload_n (pc := 98) (j := 0) F dX11_from_98 rfl rfl ?_
    refine v_iload (pc := 99) (j := 3) F dX11_from_99 rfl ?_
    obtain ⟨r21, e22, hf⟩ := bnd_some hf
    refine v_callVi (pc := 101) (As := [.int s1.2]) F cl_X11_372 dX11_from_101 (kX11_windOf e22) km_0.1 km_0.2 rc_10 rfl rfl (Nat.le_of_ble_eq_true rfl) (by decide) (Nat.zero_le _) ?_
    refine v_istore (pc := 104) (lv' := [(0, .ref (gA g 0)), (2, .int l2), (3, .int l3), (4, .int s1.2), (5, .int r21)]) F dX11_from_104 (by decide) rfl ?_
    refine v_bipush (pc := 106) (v := 8) F dX11_from_106 bp_8 ?_
    refine v_iload (pc := 108) (j := 4) F dX11_from_108 rfl ?_
    refine v_imul (pc := 110) F dX11_from_110 ?_
    refine v_istore (pc := 111) (lv' := [(0, .ref (gA g 0)), (2, .int l2), (3, .int l3), (4, .int s1.2), (5, .int r21), (6, .int (8 * r21))]) F dX11_from_111 (by decide) rfl ?_
    obtain ⟨x50, e51, hf⟩ := bnd_some hf
    refine tX11_from_113 (s0 := (s1.1, 8 * r21)) F ?_ e51
    exact tX11_from_225 F hk hx0 hf
set_option maxRecDepth 100000 in
set_option maxHeartbeats 4000000 in
theorem kX11_from {l : Launch} {g : GE} {B : Nat} {h : ST} {a1 : Int32} {a2 : Int32} {a3 : Int32} {y : Int32 × ST} (hf : fX11_from h a1 a2 a3 = some y) : CT l yX11_from cX11_from 8 (some .int) 3 KM 43 g B [.ref (gA g 0), .int a1, .int a2, .int a3] h (some (.int y.1)) y.2 := by
  refine CT.of pn_X11 (Nat.le_of_ble_eq_true rfl) ?_
  intro p e s m below meth c hr F
  have F : Fx p s m _ meth c cX11_from 8 "DustParishModel" 43 g B := F
  refine V_lv (lv' := [(0, .ref (gA g 0)), (1, .int a1), (2, .int a2), (3, .int a3)]) rfl ?_
  unfold fX11_from at hf
  refine v_aload_n (pc := 0) (j := 0) F dX11_from_0 rfl rfl ?_
  refine v_iconst (pc := 1) (v := 0) F dX11_from_1 ic_0 ?_
  obtain ⟨h1, e2, hf⟩ := bnd_some hf
  refine v_pfl (pc := 2) F fl_X11_157 pl_10_2 dX11_from_2 km_0.1 km_0.2 fv_10_2 rfl rfl e2 ?_
  refine v_aload_n (pc := 5) (j := 0) F dX11_from_5 rfl rfl ?_
  refine v_iload_n (pc := 6) (j := 1) F dX11_from_6 rfl rfl ?_
  obtain ⟨r3, e4, hf⟩ := bnd_some hf
  refine v_callVi (pc := 7) (As := [.int a1]) F cl_X11_387 dX11_from_7 (kX11_isRoom e4) km_0.1 km_0.2 rc_10 rfl rfl (Nat.le_of_ble_eq_true rfl) (by decide) (Nat.zero_le _) ?_
  refine v_if_eq (pc := 10) (tgt := 21) F dX11_from_10 (by decide) (fun c5 => ?_) (fun c5 => ?_)
  · have hf := ite_t hf c5
    refine V.sub (lv' := [(0, .ref (gA g 0))]) [0] rfl ?_
    exact tX11_from_21 F hr hf
  · have hf := ite_f hf c5
    refine v_aload_n (pc := 13) (j := 0) F dX11_from_13 rfl rfl ?_
    refine v_iload_n (pc := 14) (j := 2) F dX11_from_14 rfl rfl ?_
    obtain ⟨r8, e9, hf⟩ := bnd_some hf
    refine v_callVi (pc := 15) (As := [.int a2]) F cl_X11_387 dX11_from_15 (kX11_isRoom e9) km_0.1 km_0.2 rc_10 rfl rfl (Nat.le_of_ble_eq_true rfl) (by decide) (Nat.zero_le _) ?_
    refine v_if_ne (pc := 18) (tgt := 27) F dX11_from_18 (by decide) (fun c10 => ?_) (fun c10 => ?_)
    · have hf := ite_f hf c10
      refine v_iload_n (pc := 27) (j := 3) F dX11_from_27 rfl rfl ?_
      refine v_i2l (pc := 28) F dX11_from_28 rfl ?_
      refine v_lconst (pc := 29) (v := 0) F dX11_from_29 rfl ?_
      refine v_ldc2 (pc := 30) F tw_1821 dX11_from_30 ?_
      obtain ⟨r11, e12, hf⟩ := bnd_some hf
      refine v_callSi (pc := 33) (As := [.long a3.toInt64, .long (0 : Int64), .long (9 : Int64)]) F cl_X11_160 dX11_from_33 (kX11_isIn e12) rfl rfl (Nat.le_of_ble_eq_true rfl) (by decide) (Nat.zero_le _) ?_
      refine v_if_ne (pc := 36) (tgt := 45) F dX11_from_36 (by decide) (fun c13 => ?_) (fun c13 => ?_)
      · have hf := ite_f hf c13
        refine v_iconst (pc := 45) (v := 0) F dX11_from_45 ic_0 ?_
        refine v_istore (pc := 46) (lv' := [(0, .ref (gA g 0)), (1, .int a1), (2, .int a2), (3, .int a3), (4, .int 0)]) F dX11_from_46 (by decide) rfl ?_
        obtain ⟨x18, e19, hf⟩ := bnd_some hf
        refine tX11_from_48 (s0 := (h1, 0)) F ?_ e19
        refine v_aload_n (pc := 81) (j := 0) F dX11_from_81 rfl rfl ?_
        refine v_ifl (pc := 82) F fl_X11_333 dX11_from_82 km_0.1 km_0.2 fv_10_33 ?_
        refine v_istore (pc := 85) (lv' := [(0, .ref (gA g 0)), (2, .int a2), (3, .int a3), (4, .int (x18 0 33))]) F dX11_from_85 (by decide) rfl ?_
        obtain ⟨x52, e53, hf⟩ := bnd_some hf
        refine tX11_from_87 (s0 := (x18, x18 0 33)) F ?_ e53
        refine v_aload_n (pc := 231) (j := 0) F dX11_from_231 rfl rfl ?_
        refine v_ifl (pc := 232) F fl_X11_124 dX11_from_232 km_0.1 km_0.2 fv_10_48 ?_
        refine v_iload_n (pc := 235) (j := 1) F dX11_from_235 rfl rfl ?_
        obtain ⟨v54, e55, hf⟩ := bnd_some hf
        refine v_iald (pc := 236) F dX11_from_236 km_32.1 km_32.2 e55 ?_
        exact v_iret (pc := 237) F hr dX11_from_237 (some_fst hf) (some_snd hf) (Nat.zero_le _)
      · have hf := ite_t hf c13
        refine v_aload_n (pc := 39) (j := 0) F dX11_from_39 rfl rfl ?_
        refine v_iconst (pc := 40) (v := 2) F dX11_from_40 ic_2 ?_
        obtain ⟨r56, e57, hf⟩ := bnd_some hf
        refine v_callVi (pc := 41) (As := [.int 2]) F cl_X11_320 dX11_from_41 (kX11_fail e57) km_0.1 km_0.2 rc_10 rfl rfl (Nat.le_of_ble_eq_true rfl) (by decide) (Nat.zero_le _) ?_
        exact v_iret (pc := 44) F hr dX11_from_44 (some_fst hf) (some_snd hf) (Nat.zero_le _)
    · have hf := ite_t hf c10
      refine V.sub (lv' := [(0, .ref (gA g 0))]) [0] rfl ?_
      exact tX11_from_21 F hr hf
def fX11_fullest_56 (h : ST) (l1 : Int32) (l2 : Int32) (l3 : Int32) (l4 : Int32) : Option ((ST × Int32 × Int32 × Int32) ⊕ (ST × Int32)) :=
  bnd (fX11_aDay h) fun r12 =>
  some (.inl (r12, l2, l3, l4 + 1))
def fX11_fullest_34 (l1 : Int32) (s1 : (ST × Int32 × Int32 × Int32)) : Option ((ST × Int32 × Int32 × Int32) ⊕ (ST × Int32)) :=
  if l1 < s1.2.2.2 then
  some (.inr (s1.1, s1.2.1))
  else
  bnd (fX11_allDust s1.1) fun r9 =>
    if r9 ≤ s1.2.2.1 then
    fX11_fullest_56 s1.1 l1 s1.2.1 s1.2.2.1 s1.2.2.2
    else
    bnd (fX11_allDust s1.1) fun r14 =>
      fX11_fullest_56 s1.1 l1 s1.2.2.2 r14 s1.2.2.2
def fX11_fullest (h : ST) (a1 : Int32) : Option (Int32 × ST) :=
  bnd (pw h 0 2 0) fun h1 =>
  bnd (fX11_isAhead h1 a1) fun r3 =>
  if r3 = 0 then
  bnd (fX11_fail h1 1) fun r20 =>
    some (r20.1, r20.2)
  else
  bnd (fX11_pack h1 27 31 0) fun r6 =>
    bnd (lp FU (fX11_fullest_34 a1) (r6, 0, (-1), 0)) fun x16 =>
    bnd (fX11_unpack x16.1 27 31 0) fun r18 =>
    some (x16.2, r18)
set_option maxRecDepth 100000 in
set_option maxHeartbeats 4000000 in
theorem tX11_fullest_56 {p : Program} {l : Launch} {e : Env} {s : State} {m : MethodId} {args : Array Value} {below : List Frame} {meth : Method} {c : Code} {g : GE} {B : Nat} {h : ST}  {l1 : Int32} {l2 : Int32} {l3 : Int32} {l4 : Int32} (F : Fx p s m args meth c cX11_fullest 5 "DustParishModel" 43 g B)
    {Q : State → Prop} {y : (ST × Int32 × Int32 × Int32) ⊕ (ST × Int32)} (hk : ∀ v : (ST × Int32 × Int32 × Int32), y = Sum.inl v → V p l e 7 0 s m args below meth c Q KM 43 g B 5 0 v.1 34 [(0, .ref (gA g 0)), (1, .int l1), (2, .int v.2.1), (3, .int v.2.2.1), (4, .int v.2.2.2)] []) (hx0 : ∀ v : (ST × Int32), y = Sum.inr v → V p l e 7 0 s m args below meth c Q KM 43 g B 5 0 v.1 66 [(0, .ref (gA g 0)), (2, .int v.2)] []) (hf : fX11_fullest_56 h l1 l2 l3 l4 = some y) : V p l e 7 0 s m args below meth c Q KM 43 g B 5 0 h 56 [(0, .ref (gA g 0)), (1, .int l1), (2, .int l2), (3, .int l3), (4, .int l4)] [] := by
  unfold fX11_fullest_56 at hf
  refine v_aload_n (pc := 56) (j := 0) F dX11_fullest_56 rfl rfl ?_
  obtain ⟨r12, e13, hf⟩ := bnd_some hf
  refine v_callVv (pc := 57) (As := []) F cl_X11_378 dX11_fullest_57 (kX11_aDay e13) km_0.1 km_0.2 rc_10 rfl rfl (Nat.le_of_ble_eq_true rfl) (by decide) (Nat.zero_le _) ?_
  refine v_iinc (pc := 60) (j := 4) (v := l4 + 1) (lv' := [(0, .ref (gA g 0)), (1, .int l1), (2, .int l2), (3, .int l3), (4, .int (l4 + 1))]) F dX11_fullest_60 rfl (congrArg (fun z => l4 + z) ic_1) (by decide) rfl ?_
  refine v_goto (pc := 63) (tgt := 34) F dX11_fullest_63 (by decide) ?_
  exact hk (r12, l2, l3, l4 + 1) (Option.some.inj hf).symm
set_option maxRecDepth 100000 in
set_option maxHeartbeats 4000000 in
theorem tX11_fullest_34 {p : Program} {l : Launch} {e : Env} {s : State} {m : MethodId} {args : Array Value} {below : List Frame} {meth : Method} {c : Code} {g : GE} {B : Nat}  {l1 : Int32} {Q : State → Prop} {x : (ST × Int32)} {nf : Nat} {s0 : (ST × Int32 × Int32 × Int32)} (F : Fx p s m args meth c cX11_fullest 5 "DustParishModel" 43 g B) (hX0 : V p l e 7 0 s m args below meth c Q KM 43 g B 5 0 x.1 66 [(0, .ref (gA g 0)), (2, .int x.2)] []) (hl : lp nf (fX11_fullest_34 l1) s0 = some x) : V p l e 7 0 s m args below meth c Q KM 43 g B 5 0 s0.1 34 [(0, .ref (gA g 0)), (1, .int l1), (2, .int s0.2.1), (3, .int s0.2.2.1), (4, .int s0.2.2.2)] [] := by
  refine lp_ind (P := fun s0 => V p l e 7 0 s m args below meth c Q KM 43 g B 5 0 s0.1 34 [(0, .ref (gA g 0)), (1, .int l1), (2, .int s0.2.1), (3, .int s0.2.2.1), (4, .int s0.2.2.2)] []) ?_ nf s0 hl
  intro s1 y hf hk hx
  have hx0 : ∀ v : (ST × Int32), y = Sum.inr v → V p l e 7 0 s m args below meth c Q KM 43 g B 5 0 v.1 66 [(0, .ref (gA g 0)), (2, .int v.2)] [] := fun v e9 => by rw [hx v e9]; exact hX0
  unfold fX11_fullest_34 at hf
  refine v_iload (pc := 34) (j := 4) F dX11_fullest_34 rfl ?_
  refine v_iload_n (pc := 36) (j := 1) F dX11_fullest_36 rfl rfl ?_
  refine v_icmp_gt (pc := 37) (tgt := 66) F dX11_fullest_37 (by decide) (fun c8 => ?_) (fun c8 => ?_)
  · have hf := ite_t hf c8
    refine V.sub (lv' := [(0, .ref (gA g 0)), (2, .int s1.2.1)]) [0, 2] rfl ?_
    exact hx0 (s1.1, s1.2.1) (Option.some.inj hf).symm
  · have hf := ite_f hf c8
    refine v_aload_n (pc := 40) (j := 0) F dX11_fullest_40 rfl rfl ?_
    obtain ⟨r9, e10, hf⟩ := bnd_some hf
    refine v_callVi (pc := 41) (As := []) F cl_X11_381 dX11_fullest_41 (kX11_allDust e10) km_0.1 km_0.2 rc_10 rfl rfl (Nat.le_of_ble_eq_true rfl) (by decide) (Nat.zero_le _) ?_
    refine v_iload_n (pc := 44) (j := 3) F dX11_fullest_44 rfl rfl ?_
    refine v_icmp_le (pc := 45) (tgt := 56) F dX11_fullest_45 (by decide) (fun c11 => ?_) (fun c11 => ?_)
    · have hf := ite_t hf c11
      exact tX11_fullest_56 F hk hx0 hf
    · have hf := ite_f hf c11
      refine v_aload_n (pc := 48) (j := 0) F dX11_fullest_48 rfl rfl ?_
      obtain ⟨r14, e15, hf⟩ := bnd_some hf
      refine v_callVi (pc := 49) (As := []) F cl_X11_381 dX11_fullest_49 (kX11_allDust e15) km_0.1 km_0.2 rc_10 rfl rfl (Nat.le_of_ble_eq_true rfl) (by decide) (Nat.zero_le _) ?_
      refine v_istore_n (pc := 52) (lv' := [(0, .ref (gA g 0)), (1, .int l1), (2, .int s1.2.1), (3, .int r14), (4, .int s1.2.2.2)]) F dX11_fullest_52 rfl (by decide) rfl ?_
      refine v_iload (pc := 53) (j := 4) F dX11_fullest_53 rfl ?_
      refine v_istore_n (pc := 55) (lv' := [(0, .ref (gA g 0)), (1, .int l1), (2, .int s1.2.2.2), (3, .int r14), (4, .int s1.2.2.2)]) F dX11_fullest_55 rfl (by decide) rfl ?_
      exact tX11_fullest_56 F hk hx0 hf
set_option maxRecDepth 100000 in
set_option maxHeartbeats 4000000 in
theorem kX11_fullest {l : Launch} {g : GE} {B : Nat} {h : ST} {a1 : Int32} {y : Int32 × ST} (hf : fX11_fullest h a1 = some y) : CT l yX11_fullest cX11_fullest 5 (some .int) 7 KM 43 g B [.ref (gA g 0), .int a1] h (some (.int y.1)) y.2 := by
  refine CT.of pn_X11 (Nat.le_of_ble_eq_true rfl) ?_
  intro p e s m below meth c hr F
  have F : Fx p s m _ meth c cX11_fullest 5 "DustParishModel" 43 g B := F
  refine V_lv (lv' := [(0, .ref (gA g 0)), (1, .int a1)]) rfl ?_
  unfold fX11_fullest at hf
  refine v_aload_n (pc := 0) (j := 0) F dX11_fullest_0 rfl rfl ?_
  refine v_iconst (pc := 1) (v := 0) F dX11_fullest_1 ic_0 ?_
  obtain ⟨h1, e2, hf⟩ := bnd_some hf
  refine v_pfl (pc := 2) F fl_X11_157 pl_10_2 dX11_fullest_2 km_0.1 km_0.2 fv_10_2 rfl rfl e2 ?_
  refine v_iload_n (pc := 5) (j := 1) F dX11_fullest_5 rfl rfl ?_
  obtain ⟨r3, e4, hf⟩ := bnd_some hf
  refine v_callSi (pc := 6) (As := [.int a1]) F cl_X11_433 dX11_fullest_6 (kX11_isAhead e4) rfl rfl (Nat.le_of_ble_eq_true rfl) (by decide) (Nat.zero_le _) ?_
  refine v_if_ne (pc := 9) (tgt := 18) F dX11_fullest_9 (by decide) (fun c5 => ?_) (fun c5 => ?_)
  · have hf := ite_f hf c5
    refine v_aload_n (pc := 18) (j := 0) F dX11_fullest_18 rfl rfl ?_
    refine v_aload_n (pc := 19) (j := 0) F dX11_fullest_19 rfl rfl ?_
    refine v_ifl (pc := 20) F fl_X11_109 dX11_fullest_20 km_0.1 km_0.2 fv_10_42 ?_
    refine v_iconst (pc := 23) (v := 0) F dX11_fullest_23 ic_0 ?_
    obtain ⟨r6, e7, hf⟩ := bnd_some hf
    refine v_callVv (pc := 24) (As := [.ref (gA g 27), .int 0]) F cl_X11_403 dX11_fullest_24 (kX11_pack km_27.1 km_27.2 e7) km_0.1 km_0.2 rc_10 rfl rfl (Nat.le_of_ble_eq_true rfl) (by decide) (Nat.zero_le _) ?_
    refine v_iconst (pc := 27) (v := 0) F dX11_fullest_27 ic_0 ?_
    refine v_istore_n (pc := 28) (lv' := [(0, .ref (gA g 0)), (1, .int a1), (2, .int 0)]) F dX11_fullest_28 rfl (by decide) rfl ?_
    refine v_iconst (pc := 29) (v := (-1)) F dX11_fullest_29 ic_m1 ?_
    refine v_istore_n (pc := 30) (lv' := [(0, .ref (gA g 0)), (1, .int a1), (2, .int 0), (3, .int (-1))]) F dX11_fullest_30 rfl (by decide) rfl ?_
    refine v_iconst (pc := 31) (v := 0) F dX11_fullest_31 ic_0 ?_
    refine v_istore (pc := 32) (lv' := [(0, .ref (gA g 0)), (1, .int a1), (2, .int 0), (3, .int (-1)), (4, .int 0)]) F dX11_fullest_32 (by decide) rfl ?_
    obtain ⟨x16, e17, hf⟩ := bnd_some hf
    refine tX11_fullest_34 (s0 := (r6, 0, (-1), 0)) F ?_ e17
    refine v_aload_n (pc := 66) (j := 0) F dX11_fullest_66 rfl rfl ?_
    refine v_aload_n (pc := 67) (j := 0) F dX11_fullest_67 rfl rfl ?_
    refine v_ifl (pc := 68) F fl_X11_109 dX11_fullest_68 km_0.1 km_0.2 fv_10_42 ?_
    refine v_iconst (pc := 71) (v := 0) F dX11_fullest_71 ic_0 ?_
    obtain ⟨r18, e19, hf⟩ := bnd_some hf
    refine v_callVv (pc := 72) (As := [.ref (gA g 27), .int 0]) F cl_X11_430 dX11_fullest_72 (kX11_unpack km_27.1 km_27.2 e19) km_0.1 km_0.2 rc_10 rfl rfl (Nat.le_of_ble_eq_true rfl) (by decide) (Nat.zero_le _) ?_
    refine v_iload_n (pc := 75) (j := 1) F dX11_fullest_75 rfl rfl ?_
    exact v_iret (pc := 76) F hr dX11_fullest_76 (some_fst hf) (some_snd hf) (Nat.zero_le _)
  · have hf := ite_t hf c5
    refine v_aload_n (pc := 12) (j := 0) F dX11_fullest_12 rfl rfl ?_
    refine v_iconst (pc := 13) (v := 1) F dX11_fullest_13 ic_1 ?_
    obtain ⟨r20, e21, hf⟩ := bnd_some hf
    refine v_callVi (pc := 14) (As := [.int 1]) F cl_X11_320 dX11_fullest_14 (kX11_fail e21) km_0.1 km_0.2 rc_10 rfl rfl (Nat.le_of_ble_eq_true rfl) (by decide) (Nat.zero_le _) ?_
    exact v_iret (pc := 17) F hr dX11_fullest_17 (some_fst hf) (some_snd hf) (Nat.zero_le _)
def fX11_lowest_2 (h : ST) (l1 : Int32) (s1 : Int32) : Option (Int32 ⊕ (Int32 ⊕ Unit)) :=
  bnd (rd 14 (h 3) 0) fun v1 =>
  if v1 ≤ s1 then
  some (.inr (.inr ()))
  else
  bnd (rd 18 (h 5) s1) fun v4 =>
    if v4 = l1 then
    some (.inr (.inl s1))
    else
    some (.inl (s1 + 1))
def fX11_lowest (h : ST) (a1 : Int32) : Option (Int32) :=
  bnd (lp FU (fX11_lowest_2 h a1) 0) fun x7 =>
  sm x7 (fun v => some v) (fun v => some (-1))
set_option maxRecDepth 100000 in
set_option maxHeartbeats 4000000 in
theorem tX11_lowest_2 {p : Program} {l : Launch} {e : Env} {s : State} {m : MethodId} {args : Array Value} {below : List Frame} {meth : Method} {c : Code} {g : GE} {B : Nat} {h : ST}  {l1 : Int32} {Q : State → Prop} {x : (Int32 ⊕ Unit)} {nf : Nat} {s0 : Int32} (F : Fx p s m args meth c cX11_lowest 3 "DustParishModel" 43 g B) (hX0 : ∀ v : Int32, x = (.inl v) → V p l e 1 0 s m args below meth c Q KM 43 g B 3 0 h 22 [(2, .int v)] []) (hX1 : ∀ v : Unit, x = (.inr v) → V p l e 1 0 s m args below meth c Q KM 43 g B 3 0 h 30 [] []) (hl : lp nf (fX11_lowest_2 h l1) s0 = some x) : V p l e 1 0 s m args below meth c Q KM 43 g B 3 0 h 2 [(0, .ref (gA g 0)), (1, .int l1), (2, .int s0)] [] := by
  refine lp_ind (P := fun s0 => V p l e 1 0 s m args below meth c Q KM 43 g B 3 0 h 2 [(0, .ref (gA g 0)), (1, .int l1), (2, .int s0)] []) ?_ nf s0 hl
  intro s1 y hf hk hx
  have hx0 : ∀ v : Int32, y = Sum.inr (.inl v) → V p l e 1 0 s m args below meth c Q KM 43 g B 3 0 h 22 [(2, .int v)] [] := fun v e9 => hX0 v (hx _ e9).symm
  have hx1 : ∀ v : Unit, y = Sum.inr (.inr v) → V p l e 1 0 s m args below meth c Q KM 43 g B 3 0 h 30 [] [] := fun v e9 => hX1 v (hx _ e9).symm
  unfold fX11_lowest_2 at hf
  refine v_iload_n (pc := 2) (j := 2) F dX11_lowest_2 rfl rfl ?_
  refine v_aload_n (pc := 3) (j := 0) F dX11_lowest_3 rfl rfl ?_
  refine v_ifl (pc := 4) F fl_X11_36 dX11_lowest_4 km_0.1 km_0.2 fv_10_3 ?_
  refine v_iconst (pc := 7) (v := 0) F dX11_lowest_7 ic_0 ?_
  obtain ⟨v1, e2, hf⟩ := bnd_some hf
  refine v_iald (pc := 8) F dX11_lowest_8 km_3.1 km_3.2 e2 ?_
  refine v_icmp_ge (pc := 9) (tgt := 30) F dX11_lowest_9 (by decide) (fun c3 => ?_) (fun c3 => ?_)
  · have hf := ite_t hf c3
    refine V.sub (lv' := []) [] rfl ?_
    exact hx1 () (Option.some.inj hf).symm
  · have hf := ite_f hf c3
    refine v_aload_n (pc := 12) (j := 0) F dX11_lowest_12 rfl rfl ?_
    refine v_ifl (pc := 13) F fl_X11_42 dX11_lowest_13 km_0.1 km_0.2 fv_10_5 ?_
    refine v_iload_n (pc := 16) (j := 2) F dX11_lowest_16 rfl rfl ?_
    obtain ⟨v4, e5, hf⟩ := bnd_some hf
    refine v_iald (pc := 17) F dX11_lowest_17 km_5.1 km_5.2 e5 ?_
    refine v_iload_n (pc := 18) (j := 1) F dX11_lowest_18 rfl rfl ?_
    refine v_icmp_ne (pc := 19) (tgt := 24) F dX11_lowest_19 (by decide) (fun c6 => ?_) (fun c6 => ?_)
    · have hf := ite_f hf c6
      refine v_iinc (pc := 24) (j := 2) (v := s1 + 1) (lv' := [(0, .ref (gA g 0)), (1, .int l1), (2, .int (s1 + 1))]) F dX11_lowest_24 rfl (congrArg (fun z => s1 + z) ic_1) (by decide) rfl ?_
      refine v_goto (pc := 27) (tgt := 2) F dX11_lowest_27 (by decide) ?_
      exact hk (s1 + 1) (Option.some.inj hf).symm
    · have hf := ite_t hf c6
      refine V.sub (lv' := [(2, .int s1)]) [2] rfl ?_
      exact hx0 s1 (Option.some.inj hf).symm
set_option maxRecDepth 100000 in
set_option maxHeartbeats 4000000 in
theorem kX11_lowest {l : Launch} {g : GE} {B : Nat} {h : ST} {a1 : Int32} {y : Int32} (hf : fX11_lowest h a1 = some y) : CT l yX11_lowest cX11_lowest 3 (some .int) 1 KM 43 g B [.ref (gA g 0), .int a1] h (some (.int y)) h := by
  refine CT.of pn_X11 (Nat.le_of_ble_eq_true rfl) ?_
  intro p e s m below meth c hr F
  have F : Fx p s m _ meth c cX11_lowest 3 "DustParishModel" 43 g B := F
  refine V_lv (lv' := [(0, .ref (gA g 0)), (1, .int a1)]) rfl ?_
  unfold fX11_lowest at hf
  refine v_iconst (pc := 0) (v := 0) F dX11_lowest_0 ic_0 ?_
  refine v_istore_n (pc := 1) (lv' := [(0, .ref (gA g 0)), (1, .int a1), (2, .int 0)]) F dX11_lowest_1 rfl (by decide) rfl ?_
  obtain ⟨x7, e8, hf⟩ := bnd_some hf
  refine tX11_lowest_2 (s0 := 0) F (fun v e9 => ?_) (fun v e9 => ?_) e8
  · subst e9
    have hf := sm_l hf
    refine v_iload_n (pc := 22) (j := 0) F dX11_lowest_22 rfl rfl ?_
    exact v_iret (pc := 23) F hr dX11_lowest_23 (Option.some.inj hf) rfl (Nat.zero_le _)
  · subst e9
    have hf := sm_r hf
    refine v_iconst (pc := 30) (v := (-1)) F dX11_lowest_30 ic_m1 ?_
    exact v_iret (pc := 31) F hr dX11_lowest_31 (Option.some.inj hf) rfl (Nat.zero_le _)
def fX11_loss_59 (h : ST) (q0 : Int32) (q1 : Int32) : Option (Int32) :=
  some (q0 + q1)
def fX11_loss (h : ST) (a1 : Int32) (a2 : Int32) (a3 : Int32) (a4 : Int32) : Option (Int32) :=
  bnd (rd 9 (h 19) a1) fun v1 =>
  bnd (rd 9 (h 19) a1) fun v3 =>
  bnd (rd 9 (h 19) a2) fun v5 =>
  bnd (rd 14 (h 3) 5) fun v7 =>
  if v7 ≤ (if ((v1 - (a3 * (v3 / 2))) + (a4 * (v5 / 2))) < 9999 then ((v1 - (a3 * (v3 / 2))) + (a4 * (v5 / 2))) else 9999) then
  fX11_loss_59 h ((if ((v1 - (a3 * (v3 / 2))) + (a4 * (v5 / 2))) < 9999 then ((v1 - (a3 * (v3 / 2))) + (a4 * (v5 / 2))) else 9999) / 10) 0
  else
  fX11_loss_59 h ((if ((v1 - (a3 * (v3 / 2))) + (a4 * (v5 / 2))) < 9999 then ((v1 - (a3 * (v3 / 2))) + (a4 * (v5 / 2))) else 9999) / 10) 20
set_option maxRecDepth 100000 in
set_option maxHeartbeats 4000000 in
theorem tX11_loss_59 {p : Program} {l : Launch} {e : Env} {s : State} {m : MethodId} {args : Array Value} {below : List Frame} {meth : Method} {c : Code} {g : GE} {B : Nat} {h : ST}  {q0 : Int32} {q1 : Int32} (F : Fx p s m args meth c cX11_loss 6 "DustParishModel" 43 g B)
    {y : Int32} (hr : meth.sig.returnType = (some .int)) (hf : fX11_loss_59 h q0 q1 = some y) : V p l e 1 0 s m args below meth c (MQ below (QO KM 43 g (some (.int y)) h) args s 0 (6 * 0) (fun q => B ≤ q)) KM 43 g B 6 0 h 59 [] [.int q1, .int q0] := by
  unfold fX11_loss_59 at hf
  refine v_iadd (pc := 59) F dX11_loss_59 ?_
  exact v_iret (pc := 60) F hr dX11_loss_60 (Option.some.inj hf) rfl (Nat.zero_le _)
set_option maxRecDepth 100000 in
set_option maxHeartbeats 4000000 in
theorem kX11_loss {l : Launch} {g : GE} {B : Nat} {h : ST} {a1 : Int32} {a2 : Int32} {a3 : Int32} {a4 : Int32} {y : Int32} (hf : fX11_loss h a1 a2 a3 a4 = some y) : CT l yX11_loss cX11_loss 6 (some .int) 1 KM 43 g B [.ref (gA g 0), .int a1, .int a2, .int a3, .int a4] h (some (.int y)) h := by
  refine CT.of pn_X11 (Nat.le_of_ble_eq_true rfl) ?_
  intro p e s m below meth c hr F
  have F : Fx p s m _ meth c cX11_loss 6 "DustParishModel" 43 g B := F
  refine V_lv (lv' := [(0, .ref (gA g 0)), (1, .int a1), (2, .int a2), (3, .int a3), (4, .int a4)]) rfl ?_
  unfold fX11_loss at hf
  refine v_sipush (pc := 0) (v := 9999) F dX11_loss_0 sp_9999 ?_
  refine v_aload_n (pc := 3) (j := 0) F dX11_loss_3 rfl rfl ?_
  refine v_ifl (pc := 4) F fl_X11_87 dX11_loss_4 km_0.1 km_0.2 fv_10_29 ?_
  refine v_iload_n (pc := 7) (j := 1) F dX11_loss_7 rfl rfl ?_
  obtain ⟨v1, e2, hf⟩ := bnd_some hf
  refine v_iald (pc := 8) F dX11_loss_8 km_19.1 km_19.2 e2 ?_
  refine v_iload_n (pc := 9) (j := 3) F dX11_loss_9 rfl rfl ?_
  refine v_aload_n (pc := 10) (j := 0) F dX11_loss_10 rfl rfl ?_
  refine v_ifl (pc := 11) F fl_X11_87 dX11_loss_11 km_0.1 km_0.2 fv_10_29 ?_
  refine v_iload_n (pc := 14) (j := 1) F dX11_loss_14 rfl rfl ?_
  obtain ⟨v3, e4, hf⟩ := bnd_some hf
  refine v_iald (pc := 15) F dX11_loss_15 km_19.1 km_19.2 e4 ?_
  refine v_iconst (pc := 16) (v := 2) F dX11_loss_16 ic_2 ?_
  refine v_idiv (pc := 17) F dX11_loss_17 (by decide) ?_
  refine v_imul (pc := 18) F dX11_loss_18 ?_
  refine v_isub (pc := 19) F dX11_loss_19 ?_
  refine v_iload (pc := 20) (j := 4) F dX11_loss_20 rfl ?_
  refine v_aload_n (pc := 22) (j := 0) F dX11_loss_22 rfl rfl ?_
  refine v_ifl (pc := 23) F fl_X11_87 dX11_loss_23 km_0.1 km_0.2 fv_10_29 ?_
  refine v_iload_n (pc := 26) (j := 2) F dX11_loss_26 rfl rfl ?_
  obtain ⟨v5, e6, hf⟩ := bnd_some hf
  refine v_iald (pc := 27) F dX11_loss_27 km_19.1 km_19.2 e6 ?_
  refine v_iconst (pc := 28) (v := 2) F dX11_loss_28 ic_2 ?_
  refine v_idiv (pc := 29) F dX11_loss_29 (by decide) ?_
  refine v_imul (pc := 30) F dX11_loss_30 ?_
  refine v_iadd (pc := 31) F dX11_loss_31 ?_
  refine v_mmin (pc := 32) F tw_1490 mminW dX11_loss_32 (by decide) (Nat.le_of_ble_eq_true rfl) (Nat.zero_le _) ?_
  refine v_istore (pc := 35) (lv' := [(0, .ref (gA g 0)), (1, .int a1), (2, .int a2), (3, .int a3), (4, .int a4), (5, .int (if ((v1 - (a3 * (v3 / 2))) + (a4 * (v5 / 2))) < 9999 then ((v1 - (a3 * (v3 / 2))) + (a4 * (v5 / 2))) else 9999))]) F dX11_loss_35 (by decide) rfl ?_
  refine v_iload (pc := 37) (j := 5) F dX11_loss_37 rfl ?_
  refine v_bipush (pc := 39) (v := 10) F dX11_loss_39 bp_10 ?_
  refine v_idiv (pc := 41) F dX11_loss_41 (by decide) ?_
  refine v_iload (pc := 42) (j := 5) F dX11_loss_42 rfl ?_
  refine v_aload_n (pc := 44) (j := 0) F dX11_loss_44 rfl rfl ?_
  refine v_ifl (pc := 45) F fl_X11_36 dX11_loss_45 km_0.1 km_0.2 fv_10_3 ?_
  refine v_iconst (pc := 48) (v := 5) F dX11_loss_48 ic_5 ?_
  obtain ⟨v7, e8, hf⟩ := bnd_some hf
  refine v_iald (pc := 49) F dX11_loss_49 km_3.1 km_3.2 e8 ?_
  refine v_icmp_ge (pc := 50) (tgt := 58) F dX11_loss_50 (by decide) (fun c9 => ?_) (fun c9 => ?_)
  · have hf := ite_t hf c9
    refine v_iconst (pc := 58) (v := 0) F dX11_loss_58 ic_0 ?_
    refine V.sub (lv' := []) [] rfl ?_
    exact tX11_loss_59 F hr hf
  · have hf := ite_f hf c9
    refine v_bipush (pc := 53) (v := 20) F dX11_loss_53 bp_20 ?_
    refine v_goto (pc := 55) (tgt := 59) F dX11_loss_55 (by decide) ?_
    refine V.sub (lv' := []) [] rfl ?_
    exact tX11_loss_59 F hr hf
def fX11_game_14 (h : ST)  : Option (Int32 × ST) :=
  bnd (fX11_fail h 1) fun r4 =>
  some (r4.1, r4.2)
def fX11_game_49 (h : ST)  : Option (Int32 × ST) :=
  bnd (fX11_fail h 2) fun r10 =>
  some (r10.1, r10.2)
def fX11_game_193 (h : ST) (l3 : Int32) (l4 : Int32) (l5 : Int32) (l6 : Int32) (l7 : Int32) (l8 : Int32) : Option ((Int32 × Int32 × Int32) ⊕ (Int32 × Int32)) :=
  some (.inl (l6, l7, l8 + 1))
def fX11_game_191 (h : ST) (l3 : Int32) (l4 : Int32) (l5 : Int32) (l6 : Int32) (l8 : Int32) (q0 : Int32) : Option ((Int32 × Int32 × Int32) ⊕ (Int32 × Int32)) :=
  fX11_game_193 h l3 l4 l5 l6 q0 l8
def fX11_game_78 (h : ST) (l3 : Int32) (l4 : Int32) (l5 : Int32) (s1 : (Int32 × Int32 × Int32)) : Option ((Int32 × Int32 × Int32) ⊕ (Int32 × Int32)) :=
  if 4 ≤ s1.2.2 then
  some (.inr (s1.1, s1.2.1))
  else
  if l4 = (-1) then
    some (.inr (s1.1, s1.2.1))
    else
    if l5 = (-1) then
      some (.inr (s1.1, s1.2.1))
      else
      bnd (fX11_loss h l4 l5 (1 - (s1.2.2 / 2)) (s1.2.2 - s1.2.2 / 2 * 2)) fun r23 =>
        bnd (fX11_loss h l4 l5 (s1.2.2 / 2) (s1.2.2 - s1.2.2 / 2 * 2)) fun r25 =>
        if r23 < r25 then
        fX11_game_193 h l3 l4 l5 s1.1 s1.2.1 s1.2.2
        else
        bnd (fX11_loss h l5 l4 (1 - (s1.2.2 - s1.2.2 / 2 * 2)) (s1.2.2 / 2)) fun r28 =>
          bnd (fX11_loss h l5 l4 (s1.2.2 - s1.2.2 / 2 * 2) (s1.2.2 / 2)) fun r30 =>
          if r30 ≤ r28 then
          if s1.2.1 = (-1) then
            fX11_game_191 h l3 l4 l5 (s1.1 + 1) s1.2.2 ((10 * (s1.2.2 / 2)) + (s1.2.2 - s1.2.2 / 2 * 2))
            else
            fX11_game_191 h l3 l4 l5 (s1.1 + 1) s1.2.2 s1.2.1
          else
          fX11_game_193 h l3 l4 l5 s1.1 s1.2.1 s1.2.2
def fX11_game_210 (h : ST) (q0 : Int32) : Option (Int32 × ST) :=
  some (q0, h)
def fX11_game_199 (h : ST) (l3 : Int32) (l6 : Int32) (l7 : Int32) : Option (Int32 × ST) :=
  if l3 = 0 then
  fX11_game_210 h l6
  else
  fX11_game_210 h l7
def fX11_game (h : ST) (a1 : Int32) (a2 : Int32) (a3 : Int32) : Option (Int32 × ST) :=
  bnd (pw h 0 2 0) fun h1 =>
  if a3 < 0 then
  fX11_game_14 h1 
  else
  if a3 ≤ 1 then
    bnd (fX11_isIn h1 a1.toInt64 (0 : Int64) (5 : Int64)) fun r7 =>
      if r7 = 0 then
      fX11_game_49 h1 
      else
      bnd (fX11_isIn h1 a2.toInt64 (0 : Int64) (5 : Int64)) fun r12 =>
        if r12 = 0 then
        fX11_game_49 h1 
        else
        if a1 = a2 then
          fX11_game_49 h1 
          else
          bnd (fX11_lowest h1 a1) fun r16 =>
            bnd (fX11_lowest h1 a2) fun r18 =>
            bnd (lp FU (fX11_game_78 h1 a3 r16 r18) (0, (-1), 0)) fun x34 =>
            fX11_game_199 h1 a3 x34.1 x34.2
    else
    fX11_game_14 h1 
set_option maxRecDepth 100000 in
set_option maxHeartbeats 4000000 in
theorem tX11_game_14 {p : Program} {l : Launch} {e : Env} {s : State} {m : MethodId} {args : Array Value} {below : List Frame} {meth : Method} {c : Code} {g : GE} {B : Nat} {h : ST}  (F : Fx p s m args meth c cX11_game 11 "DustParishModel" 43 g B)
    {y : Int32 × ST} (hr : meth.sig.returnType = (some .int)) (hf : fX11_game_14 h  = some y) : V p l e 2 0 s m args below meth c (MQ below (QO KM 43 g (some (.int y.1)) y.2) args s 0 (6 * 0) (fun q => B ≤ q)) KM 43 g B 11 0 h 14 [(0, .ref (gA g 0))] [] := by
  unfold fX11_game_14 at hf
  refine v_aload_n (pc := 14) (j := 0) F dX11_game_14 rfl rfl ?_
  refine v_iconst (pc := 15) (v := 1) F dX11_game_15 ic_1 ?_
  obtain ⟨r4, e5, hf⟩ := bnd_some hf
  refine v_callVi (pc := 16) (As := [.int 1]) F cl_X11_320 dX11_game_16 (kX11_fail e5) km_0.1 km_0.2 rc_10 rfl rfl (Nat.le_of_ble_eq_true rfl) (by decide) (Nat.zero_le _) ?_
  exact v_iret (pc := 19) F hr dX11_game_19 (some_fst hf) (some_snd hf) (Nat.zero_le _)
set_option maxRecDepth 100000 in
set_option maxHeartbeats 4000000 in
theorem tX11_game_49 {p : Program} {l : Launch} {e : Env} {s : State} {m : MethodId} {args : Array Value} {below : List Frame} {meth : Method} {c : Code} {g : GE} {B : Nat} {h : ST}  (F : Fx p s m args meth c cX11_game 11 "DustParishModel" 43 g B)
    {y : Int32 × ST} (hr : meth.sig.returnType = (some .int)) (hf : fX11_game_49 h  = some y) : V p l e 2 0 s m args below meth c (MQ below (QO KM 43 g (some (.int y.1)) y.2) args s 0 (6 * 0) (fun q => B ≤ q)) KM 43 g B 11 0 h 49 [(0, .ref (gA g 0))] [] := by
  unfold fX11_game_49 at hf
  refine v_aload_n (pc := 49) (j := 0) F dX11_game_49 rfl rfl ?_
  refine v_iconst (pc := 50) (v := 2) F dX11_game_50 ic_2 ?_
  obtain ⟨r10, e11, hf⟩ := bnd_some hf
  refine v_callVi (pc := 51) (As := [.int 2]) F cl_X11_320 dX11_game_51 (kX11_fail e11) km_0.1 km_0.2 rc_10 rfl rfl (Nat.le_of_ble_eq_true rfl) (by decide) (Nat.zero_le _) ?_
  exact v_iret (pc := 54) F hr dX11_game_54 (some_fst hf) (some_snd hf) (Nat.zero_le _)
set_option maxRecDepth 100000 in
set_option maxHeartbeats 4000000 in
theorem tX11_game_193 {p : Program} {l : Launch} {e : Env} {s : State} {m : MethodId} {args : Array Value} {below : List Frame} {meth : Method} {c : Code} {g : GE} {B : Nat} {h : ST}  {l3 : Int32} {l4 : Int32} {l5 : Int32} {l6 : Int32} {l7 : Int32} {l8 : Int32} (F : Fx p s m args meth c cX11_game 11 "DustParishModel" 43 g B)
    {Q : State → Prop} {y : (Int32 × Int32 × Int32) ⊕ (Int32 × Int32)} (hk : ∀ v : (Int32 × Int32 × Int32), y = Sum.inl v → V p l e 2 0 s m args below meth c Q KM 43 g B 11 0 h 78 [(0, .ref (gA g 0)), (3, .int l3), (4, .int l4), (5, .int l5), (6, .int v.1), (7, .int v.2.1), (8, .int v.2.2)] []) (hx0 : ∀ v : (Int32 × Int32), y = Sum.inr v → V p l e 2 0 s m args below meth c Q KM 43 g B 11 0 h 199 [(3, .int l3), (6, .int v.1), (7, .int v.2)] []) (hf : fX11_game_193 h l3 l4 l5 l6 l7 l8 = some y) : V p l e 2 0 s m args below meth c Q KM 43 g B 11 0 h 193 [(0, .ref (gA g 0)), (3, .int l3), (4, .int l4), (5, .int l5), (6, .int l6), (7, .int l7), (8, .int l8)] [] := by
  unfold fX11_game_193 at hf
  refine v_iinc (pc := 193) (j := 6) (v := l8 + 1) (lv' := [(0, .ref (gA g 0)), (3, .int l3), (4, .int l4), (5, .int l5), (6, .int l6), (7, .int l7), (8, .int (l8 + 1))]) F dX11_game_193 rfl (congrArg (fun z => l8 + z) ic_1) (by decide) rfl ?_
  refine v_goto (pc := 196) (tgt := 78) F dX11_game_196 (by decide) ?_
  exact hk (l6, l7, l8 + 1) (Option.some.inj hf).symm
set_option maxRecDepth 100000 in
set_option maxHeartbeats 4000000 in
theorem tX11_game_191 {p : Program} {l : Launch} {e : Env} {s : State} {m : MethodId} {args : Array Value} {below : List Frame} {meth : Method} {c : Code} {g : GE} {B : Nat} {h : ST}  {l3 : Int32} {l4 : Int32} {l5 : Int32} {l6 : Int32} {l8 : Int32} {q0 : Int32} (F : Fx p s m args meth c cX11_game 11 "DustParishModel" 43 g B)
    {Q : State → Prop} {y : (Int32 × Int32 × Int32) ⊕ (Int32 × Int32)} (hk : ∀ v : (Int32 × Int32 × Int32), y = Sum.inl v → V p l e 2 0 s m args below meth c Q KM 43 g B 11 0 h 78 [(0, .ref (gA g 0)), (3, .int l3), (4, .int l4), (5, .int l5), (6, .int v.1), (7, .int v.2.1), (8, .int v.2.2)] []) (hx0 : ∀ v : (Int32 × Int32), y = Sum.inr v → V p l e 2 0 s m args below meth c Q KM 43 g B 11 0 h 199 [(3, .int l3), (6, .int v.1), (7, .int v.2)] []) (hf : fX11_game_191 h l3 l4 l5 l6 l8 q0 = some y) : V p l e 2 0 s m args below meth c Q KM 43 g B 11 0 h 191 [(0, .ref (gA g 0)), (3, .int l3), (4, .int l4), (5, .int l5), (6, .int l6), (8, .int l8)] [.int q0] := by
  unfold fX11_game_191 at hf
  refine v_istore (pc := 191) (lv' := [(0, .ref (gA g 0)), (3, .int l3), (4, .int l4), (5, .int l5), (6, .int l6), (7, .int q0), (8, .int l8)]) F dX11_game_191 (by decide) rfl ?_
  exact tX11_game_193 F hk hx0 hf
set_option maxRecDepth 100000 in
set_option maxHeartbeats 4000000 in
theorem tX11_game_78 {p : Program} {l : Launch} {e : Env} {s : State} {m : MethodId} {args : Array Value} {below : List Frame} {meth : Method} {c : Code} {g : GE} {B : Nat} {h : ST}  {l3 : Int32} {l4 : Int32} {l5 : Int32} {Q : State → Prop} {x : (Int32 × Int32)} {nf : Nat} {s0 : (Int32 × Int32 × Int32)} (F : Fx p s m args meth c cX11_game 11 "DustParishModel" 43 g B) (hX0 : V p l e 2 0 s m args below meth c Q KM 43 g B 11 0 h 199 [(3, .int l3), (6, .int x.1), (7, .int x.2)] []) (hl : lp nf (fX11_game_78 h l3 l4 l5) s0 = some x) : V p l e 2 0 s m args below meth c Q KM 43 g B 11 0 h 78 [(0, .ref (gA g 0)), (3, .int l3), (4, .int l4), (5, .int l5), (6, .int s0.1), (7, .int s0.2.1), (8, .int s0.2.2)] [] := by
  refine lp_ind (P := fun s0 => V p l e 2 0 s m args below meth c Q KM 43 g B 11 0 h 78 [(0, .ref (gA g 0)), (3, .int l3), (4, .int l4), (5, .int l5), (6, .int s0.1), (7, .int s0.2.1), (8, .int s0.2.2)] []) ?_ nf s0 hl
  intro s1 y hf hk hx
  have hx0 : ∀ v : (Int32 × Int32), y = Sum.inr v → V p l e 2 0 s m args below meth c Q KM 43 g B 11 0 h 199 [(3, .int l3), (6, .int v.1), (7, .int v.2)] [] := fun v e9 => by rw [hx v e9]; exact hX0
  unfold fX11_game_78 at hf
  refine v_iload (pc := 78) (j := 6) F dX11_game_78 rfl ?_
  refine v_iconst (pc := 80) (v := 4) F dX11_game_80 ic_4 ?_
  refine v_icmp_ge (pc := 81) (tgt := 199) F dX11_game_81 (by decide) (fun c20 => ?_) (fun c20 => ?_)
  · have hf := ite_t hf c20
    refine V.sub (lv' := [(3, .int l3), (6, .int s1.1), (7, .int s1.2.1)]) [1, 4, 5] rfl ?_
    exact hx0 (s1.1, s1.2.1) (Option.some.inj hf).symm
  · have hf := ite_f hf c20
    refine v_iload (pc := 84) (j := 2) F dX11_game_84 rfl ?_
    refine v_iconst (pc := 86) (v := (-1)) F dX11_game_86 ic_m1 ?_
    refine v_icmp_eq (pc := 87) (tgt := 199) F dX11_game_87 (by decide) (fun c21 => ?_) (fun c21 => ?_)
    · have hf := ite_t hf c21
      refine V.sub (lv' := [(3, .int l3), (6, .int s1.1), (7, .int s1.2.1)]) [1, 4, 5] rfl ?_
      exact hx0 (s1.1, s1.2.1) (Option.some.inj hf).symm
    · have hf := ite_f hf c21
      refine v_iload (pc := 90) (j := 3) F dX11_game_90 rfl ?_
      refine v_iconst (pc := 92) (v := (-1)) F dX11_game_92 ic_m1 ?_
      refine v_icmp_eq (pc := 93) (tgt := 199) F dX11_game_93 (by decide) (fun c22 => ?_) (fun c22 => ?_)
      · have hf := ite_t hf c22
        refine V.sub (lv' := [(3, .int l3), (6, .int s1.1), (7, .int s1.2.1)]) [1, 4, 5] rfl ?_
        exact hx0 (s1.1, s1.2.1) (Option.some.inj hf).symm
      · have hf := ite_f hf c22
        refine v_iload (pc := 96) (j := 6) F dX11_game_96 rfl ?_
        refine v_iconst (pc := 98) (v := 2) F dX11_game_98 ic_2 ?_
        refine v_idiv (pc := 99) F dX11_game_99 (by decide) ?_
        refine v_istore (pc := 100) (lv' := [(0, .ref (gA g 0)), (3, .int l3), (4, .int l4), (5, .int l5), (6, .int s1.1), (7, .int s1.2.1), (8, .int s1.2.2), (9, .int (s1.2.2 / 2))]) F dX11_game_100 (by decide) rfl ?_
        refine v_iload (pc := 102) (j := 6) F dX11_game_102 rfl ?_
        refine v_iconst (pc := 104) (v := 2) F dX11_game_104 ic_2 ?_
        refine v_irem (pc := 105) F dX11_game_105 (by decide) ?_
        refine v_istore (pc := 106) (lv' := [(0, .ref (gA g 0)), (3, .int l3), (4, .int l4), (5, .int l5), (6, .int s1.1), (7, .int s1.2.1), (8, .int s1.2.2), (9, .int (s1.2.2 / 2)), (10, .int (s1.2.2 - s1.2.2 / 2 * 2))]) F dX11_game_106 (by decide) rfl ?_
        refine v_aload_n (pc := 108) (j := 0) F dX11_game_108 rfl rfl ?_
        refine v_iload (pc := 109) (j := 2) F dX11_game_109 rfl ?_
        refine v_iload (pc := 111) (j := 3) F dX11_game_111 rfl ?_
        refine v_iconst (pc := 113) (v := 1) F dX11_game_113 ic_1 ?_
        refine v_iload (pc := 114) (j := 7) F dX11_game_114 rfl ?_
        refine v_isub (pc := 116) F dX11_game_116 ?_
        refine v_iload (pc := 117) (j := 8) F dX11_game_117 rfl ?_
        obtain ⟨r23, e24, hf⟩ := bnd_some hf
        refine v_callVi (pc := 119) (As := [.int l4, .int l5, .int (1 - (s1.2.2 / 2)), .int (s1.2.2 - s1.2.2 / 2 * 2)]) F cl_X11_470 dX11_game_119 (kX11_loss e24) km_0.1 km_0.2 rc_10 rfl rfl (Nat.le_of_ble_eq_true rfl) (by decide) (Nat.zero_le _) ?_
        refine v_aload_n (pc := 122) (j := 0) F dX11_game_122 rfl rfl ?_
        refine v_iload (pc := 123) (j := 2) F dX11_game_123 rfl ?_
        refine v_iload (pc := 125) (j := 3) F dX11_game_125 rfl ?_
        refine v_iload (pc := 127) (j := 7) F dX11_game_127 rfl ?_
        refine v_iload (pc := 129) (j := 8) F dX11_game_129 rfl ?_
        obtain ⟨r25, e26, hf⟩ := bnd_some hf
        refine v_callVi (pc := 131) (As := [.int l4, .int l5, .int (s1.2.2 / 2), .int (s1.2.2 - s1.2.2 / 2 * 2)]) F cl_X11_470 dX11_game_131 (kX11_loss e26) km_0.1 km_0.2 rc_10 rfl rfl (Nat.le_of_ble_eq_true rfl) (by decide) (Nat.zero_le _) ?_
        refine v_icmp_lt (pc := 134) (tgt := 193) F dX11_game_134 (by decide) (fun c27 => ?_) (fun c27 => ?_)
        · have hf := ite_t hf c27
          refine V.sub (lv' := [(0, .ref (gA g 0)), (3, .int l3), (4, .int l4), (5, .int l5), (6, .int s1.1), (7, .int s1.2.1), (8, .int s1.2.2)]) [0, 1, 2, 3, 4, 5, 6] rfl ?_
          exact tX11_game_193 F hk hx0 hf
        · have hf := ite_f hf c27
          refine v_aload_n (pc := 137) (j := 0) F dX11_game_137 rfl rfl ?_
          refine v_iload (pc := 138) (j := 3) F dX11_game_138 rfl ?_
          refine v_iload (pc := 140) (j := 2) F dX11_game_140 rfl ?_
          refine v_iconst (pc := 142) (v := 1) F dX11_game_142 ic_1 ?_
          refine v_iload (pc := 143) (j := 8) F dX11_game_143 rfl ?_
          refine v_isub (pc := 145) F dX11_game_145 ?_
          refine v_iload (pc := 146) (j := 7) F dX11_game_146 rfl ?_
          obtain ⟨r28, e29, hf⟩ := bnd_some hf
          refine v_callVi (pc := 148) (As := [.int l5, .int l4, .int (1 - (s1.2.2 - s1.2.2 / 2 * 2)), .int (s1.2.2 / 2)]) F cl_X11_470 dX11_game_148 (kX11_loss e29) km_0.1 km_0.2 rc_10 rfl rfl (Nat.le_of_ble_eq_true rfl) (by decide) (Nat.zero_le _) ?_
          refine v_aload_n (pc := 151) (j := 0) F dX11_game_151 rfl rfl ?_
          refine v_iload (pc := 152) (j := 3) F dX11_game_152 rfl ?_
          refine v_iload (pc := 154) (j := 2) F dX11_game_154 rfl ?_
          refine v_iload (pc := 156) (j := 8) F dX11_game_156 rfl ?_
          refine v_iload (pc := 158) (j := 7) F dX11_game_158 rfl ?_
          obtain ⟨r30, e31, hf⟩ := bnd_some hf
          refine v_callVi (pc := 160) (As := [.int l5, .int l4, .int (s1.2.2 - s1.2.2 / 2 * 2), .int (s1.2.2 / 2)]) F cl_X11_470 dX11_game_160 (kX11_loss e31) km_0.1 km_0.2 rc_10 rfl rfl (Nat.le_of_ble_eq_true rfl) (by decide) (Nat.zero_le _) ?_
          refine v_icmp_ge (pc := 163) (tgt := 169) F dX11_game_163 (by decide) (fun c32 => ?_) (fun c32 => ?_)
          · have hf := ite_t hf c32
            refine v_iinc (pc := 169) (j := 4) (v := s1.1 + 1) (lv' := [(0, .ref (gA g 0)), (3, .int l3), (4, .int l4), (5, .int l5), (6, .int (s1.1 + 1)), (7, .int s1.2.1), (8, .int s1.2.2), (9, .int (s1.2.2 / 2)), (10, .int (s1.2.2 - s1.2.2 / 2 * 2))]) F dX11_game_169 rfl (congrArg (fun z => s1.1 + z) ic_1) (by decide) rfl ?_
            refine v_iload (pc := 172) (j := 5) F dX11_game_172 rfl ?_
            refine v_iconst (pc := 174) (v := (-1)) F dX11_game_174 ic_m1 ?_
            refine v_icmp_ne (pc := 175) (tgt := 189) F dX11_game_175 (by decide) (fun c33 => ?_) (fun c33 => ?_)
            · have hf := ite_f hf c33
              refine v_iload (pc := 189) (j := 5) F dX11_game_189 rfl ?_
              refine V.sub (lv' := [(0, .ref (gA g 0)), (3, .int l3), (4, .int l4), (5, .int l5), (6, .int (s1.1 + 1)), (8, .int s1.2.2)]) [0, 1, 2, 3, 4, 6] rfl ?_
              exact tX11_game_191 F hk hx0 hf
            · have hf := ite_t hf c33
              refine v_bipush (pc := 178) (v := 10) F dX11_game_178 bp_10 ?_
              refine v_iload (pc := 180) (j := 7) F dX11_game_180 rfl ?_
              refine v_imul (pc := 182) F dX11_game_182 ?_
              refine v_iload (pc := 183) (j := 8) F dX11_game_183 rfl ?_
              refine v_iadd (pc := 185) F dX11_game_185 ?_
              refine v_goto (pc := 186) (tgt := 191) F dX11_game_186 (by decide) ?_
              refine V.sub (lv' := [(0, .ref (gA g 0)), (3, .int l3), (4, .int l4), (5, .int l5), (6, .int (s1.1 + 1)), (8, .int s1.2.2)]) [0, 1, 2, 3, 4, 6] rfl ?_
              exact tX11_game_191 F hk hx0 hf
          · have hf := ite_f hf c32
            refine v_goto (pc := 166) (tgt := 193) F dX11_game_166 (by decide) ?_
            refine V.sub (lv' := [(0, .ref (gA g 0)), (3, .int l3), (4, .int l4), (5, .int l5), (6, .int s1.1), (7, .int s1.2.1), (8, .int s1.2.2)]) [0, 1, 2, 3, 4, 5, 6] rfl ?_
            exact tX11_game_193 F hk hx0 hf
set_option maxRecDepth 100000 in
set_option maxHeartbeats 4000000 in
theorem tX11_game_210 {p : Program} {l : Launch} {e : Env} {s : State} {m : MethodId} {args : Array Value} {below : List Frame} {meth : Method} {c : Code} {g : GE} {B : Nat} {h : ST}  {q0 : Int32} (F : Fx p s m args meth c cX11_game 11 "DustParishModel" 43 g B)
    {y : Int32 × ST} (hr : meth.sig.returnType = (some .int)) (hf : fX11_game_210 h q0 = some y) : V p l e 2 0 s m args below meth c (MQ below (QO KM 43 g (some (.int y.1)) y.2) args s 0 (6 * 0) (fun q => B ≤ q)) KM 43 g B 11 0 h 210 [] [.int q0] := by
  unfold fX11_game_210 at hf
  exact v_iret (pc := 210) F hr dX11_game_210 (some_fst hf) (some_snd hf) (Nat.zero_le _)
set_option maxRecDepth 100000 in
set_option maxHeartbeats 4000000 in
theorem tX11_game_199 {p : Program} {l : Launch} {e : Env} {s : State} {m : MethodId} {args : Array Value} {below : List Frame} {meth : Method} {c : Code} {g : GE} {B : Nat} {h : ST}  {l3 : Int32} {l6 : Int32} {l7 : Int32} (F : Fx p s m args meth c cX11_game 11 "DustParishModel" 43 g B)
    {y : Int32 × ST} (hr : meth.sig.returnType = (some .int)) (hf : fX11_game_199 h l3 l6 l7 = some y) : V p l e 2 0 s m args below meth c (MQ below (QO KM 43 g (some (.int y.1)) y.2) args s 0 (6 * 0) (fun q => B ≤ q)) KM 43 g B 11 0 h 199 [(3, .int l3), (6, .int l6), (7, .int l7)] [] := by
  unfold fX11_game_199 at hf
  refine v_iload_n (pc := 199) (j := 0) F dX11_game_199 rfl rfl ?_
  refine v_if_ne (pc := 200) (tgt := 208) F dX11_game_200 (by decide) (fun c36 => ?_) (fun c36 => ?_)
  · have hf := ite_f hf c36
    refine v_iload (pc := 208) (j := 2) F dX11_game_208 rfl ?_
    refine V.sub (lv' := []) [] rfl ?_
    exact tX11_game_210 F hr hf
  · have hf := ite_t hf c36
    refine v_iload (pc := 203) (j := 1) F dX11_game_203 rfl ?_
    refine v_goto (pc := 205) (tgt := 210) F dX11_game_205 (by decide) ?_
    refine V.sub (lv' := []) [] rfl ?_
    exact tX11_game_210 F hr hf
set_option maxRecDepth 100000 in
set_option maxHeartbeats 4000000 in
theorem kX11_game {l : Launch} {g : GE} {B : Nat} {h : ST} {a1 : Int32} {a2 : Int32} {a3 : Int32} {y : Int32 × ST} (hf : fX11_game h a1 a2 a3 = some y) : CT l yX11_game cX11_game 11 (some .int) 2 KM 43 g B [.ref (gA g 0), .int a1, .int a2, .int a3] h (some (.int y.1)) y.2 := by
  refine CT.of pn_X11 (Nat.le_of_ble_eq_true rfl) ?_
  intro p e s m below meth c hr F
  have F : Fx p s m _ meth c cX11_game 11 "DustParishModel" 43 g B := F
  refine V_lv (lv' := [(0, .ref (gA g 0)), (1, .int a1), (2, .int a2), (3, .int a3)]) rfl ?_
  unfold fX11_game at hf
  refine v_aload_n (pc := 0) (j := 0) F dX11_game_0 rfl rfl ?_
  refine v_iconst (pc := 1) (v := 0) F dX11_game_1 ic_0 ?_
  obtain ⟨h1, e2, hf⟩ := bnd_some hf
  refine v_pfl (pc := 2) F fl_X11_157 pl_10_2 dX11_game_2 km_0.1 km_0.2 fv_10_2 rfl rfl e2 ?_
  refine v_iload_n (pc := 5) (j := 3) F dX11_game_5 rfl rfl ?_
  refine v_if_lt (pc := 6) (tgt := 14) F dX11_game_6 (by decide) (fun c3 => ?_) (fun c3 => ?_)
  · have hf := ite_t hf c3
    refine V.sub (lv' := [(0, .ref (gA g 0))]) [0] rfl ?_
    exact tX11_game_14 F hr hf
  · have hf := ite_f hf c3
    refine v_iload_n (pc := 9) (j := 3) F dX11_game_9 rfl rfl ?_
    refine v_iconst (pc := 10) (v := 1) F dX11_game_10 ic_1 ?_
    refine v_icmp_le (pc := 11) (tgt := 20) F dX11_game_11 (by decide) (fun c6 => ?_) (fun c6 => ?_)
    · have hf := ite_t hf c6
      refine v_iload_n (pc := 20) (j := 1) F dX11_game_20 rfl rfl ?_
      refine v_i2l (pc := 21) F dX11_game_21 rfl ?_
      refine v_lconst (pc := 22) (v := 0) F dX11_game_22 rfl ?_
      refine v_ldc2 (pc := 23) F tw_1850 dX11_game_23 ?_
      obtain ⟨r7, e8, hf⟩ := bnd_some hf
      refine v_callSi (pc := 26) (As := [.long a1.toInt64, .long (0 : Int64), .long (5 : Int64)]) F cl_X11_160 dX11_game_26 (kX11_isIn e8) rfl rfl (Nat.le_of_ble_eq_true rfl) (by decide) (Nat.zero_le _) ?_
      refine v_if_eq (pc := 29) (tgt := 49) F dX11_game_29 (by decide) (fun c9 => ?_) (fun c9 => ?_)
      · have hf := ite_t hf c9
        refine V.sub (lv' := [(0, .ref (gA g 0))]) [0] rfl ?_
        exact tX11_game_49 F hr hf
      · have hf := ite_f hf c9
        refine v_iload_n (pc := 32) (j := 2) F dX11_game_32 rfl rfl ?_
        refine v_i2l (pc := 33) F dX11_game_33 rfl ?_
        refine v_lconst (pc := 34) (v := 0) F dX11_game_34 rfl ?_
        refine v_ldc2 (pc := 35) F tw_1850 dX11_game_35 ?_
        obtain ⟨r12, e13, hf⟩ := bnd_some hf
        refine v_callSi (pc := 38) (As := [.long a2.toInt64, .long (0 : Int64), .long (5 : Int64)]) F cl_X11_160 dX11_game_38 (kX11_isIn e13) rfl rfl (Nat.le_of_ble_eq_true rfl) (by decide) (Nat.zero_le _) ?_
        refine v_if_eq (pc := 41) (tgt := 49) F dX11_game_41 (by decide) (fun c14 => ?_) (fun c14 => ?_)
        · have hf := ite_t hf c14
          refine V.sub (lv' := [(0, .ref (gA g 0))]) [0] rfl ?_
          exact tX11_game_49 F hr hf
        · have hf := ite_f hf c14
          refine v_iload_n (pc := 44) (j := 1) F dX11_game_44 rfl rfl ?_
          refine v_iload_n (pc := 45) (j := 2) F dX11_game_45 rfl rfl ?_
          refine v_icmp_ne (pc := 46) (tgt := 55) F dX11_game_46 (by decide) (fun c15 => ?_) (fun c15 => ?_)
          · have hf := ite_f hf c15
            refine v_aload_n (pc := 55) (j := 0) F dX11_game_55 rfl rfl ?_
            refine v_iload_n (pc := 56) (j := 1) F dX11_game_56 rfl rfl ?_
            obtain ⟨r16, e17, hf⟩ := bnd_some hf
            refine v_callVi (pc := 57) (As := [.int a1]) F cl_X11_467 dX11_game_57 (kX11_lowest e17) km_0.1 km_0.2 rc_10 rfl rfl (Nat.le_of_ble_eq_true rfl) (by decide) (Nat.zero_le _) ?_
            refine v_istore (pc := 60) (lv' := [(0, .ref (gA g 0)), (1, .int a1), (2, .int a2), (3, .int a3), (4, .int r16)]) F dX11_game_60 (by decide) rfl ?_
            refine v_aload_n (pc := 62) (j := 0) F dX11_game_62 rfl rfl ?_
            refine v_iload_n (pc := 63) (j := 2) F dX11_game_63 rfl rfl ?_
            obtain ⟨r18, e19, hf⟩ := bnd_some hf
            refine v_callVi (pc := 64) (As := [.int a2]) F cl_X11_467 dX11_game_64 (kX11_lowest e19) km_0.1 km_0.2 rc_10 rfl rfl (Nat.le_of_ble_eq_true rfl) (by decide) (Nat.zero_le _) ?_
            refine v_istore (pc := 67) (lv' := [(0, .ref (gA g 0)), (1, .int a1), (2, .int a2), (3, .int a3), (4, .int r16), (5, .int r18)]) F dX11_game_67 (by decide) rfl ?_
            refine v_iconst (pc := 69) (v := 0) F dX11_game_69 ic_0 ?_
            refine v_istore (pc := 70) (lv' := [(0, .ref (gA g 0)), (1, .int a1), (2, .int a2), (3, .int a3), (4, .int r16), (5, .int r18), (6, .int 0)]) F dX11_game_70 (by decide) rfl ?_
            refine v_iconst (pc := 72) (v := (-1)) F dX11_game_72 ic_m1 ?_
            refine v_istore (pc := 73) (lv' := [(0, .ref (gA g 0)), (1, .int a1), (2, .int a2), (3, .int a3), (4, .int r16), (5, .int r18), (6, .int 0), (7, .int (-1))]) F dX11_game_73 (by decide) rfl ?_
            refine v_iconst (pc := 75) (v := 0) F dX11_game_75 ic_0 ?_
            refine v_istore (pc := 76) (lv' := [(0, .ref (gA g 0)), (1, .int a1), (2, .int a2), (3, .int a3), (4, .int r16), (5, .int r18), (6, .int 0), (7, .int (-1)), (8, .int 0)]) F dX11_game_76 (by decide) rfl ?_
            obtain ⟨x34, e35, hf⟩ := bnd_some hf
            refine V.sub (lv' := [(0, .ref (gA g 0)), (3, .int a3), (4, .int r16), (5, .int r18), (6, .int 0), (7, .int (-1)), (8, .int 0)]) [0, 3, 4, 5, 6, 7, 8] rfl ?_
            refine tX11_game_78 (s0 := (0, (-1), 0)) F ?_ e35
            exact tX11_game_199 F hr hf
          · have hf := ite_t hf c15
            refine V.sub (lv' := [(0, .ref (gA g 0))]) [0] rfl ?_
            exact tX11_game_49 F hr hf
    · have hf := ite_f hf c6
      refine V.sub (lv' := [(0, .ref (gA g 0))]) [0] rfl ?_
      exact tX11_game_14 F hr hf
def fX11_isOf_14 (h : ST) (q0 : Int32) : Option (Int32) :=
  bnd (zb q0) fun z2 =>
  some z2
def fX11_isOf (h : ST) (a1 : Int32) (a2 : Int32) : Option (Int32) :=
  if ((a1 >>> (a2 &&& 31)) &&& 1) = 1 then
  fX11_isOf_14 h 1
  else
  fX11_isOf_14 h 0
set_option maxRecDepth 100000 in
set_option maxHeartbeats 4000000 in
theorem tX11_isOf_14 {p : Program} {l : Launch} {e : Env} {s : State} {m : MethodId} {args : Array Value} {below : List Frame} {meth : Method} {c : Code} {g : GE} {B : Nat} {h : ST}  {q0 : Int32} (F : Fx p s m args meth c cX11_isOf 2 "DustParishModel" 43 g B)
    {y : Int32} (hr : meth.sig.returnType = (some .boolean)) (hf : fX11_isOf_14 h q0 = some y) : V p l e 1 0 s m args below meth c (MQ below (QO KM 43 g (some (.int y)) h) args s 0 (6 * 0) (fun q => B ≤ q)) KM 43 g B 2 0 h 14 [] [.int q0] := by
  unfold fX11_isOf_14 at hf
  obtain ⟨z2, e3, hf⟩ := bnd_some hf
  exact v_zret (pc := 14) F hr dX11_isOf_14 (zb_in e3).2 ((zb_in e3).1.symm.trans (Option.some.inj hf)) rfl (Nat.zero_le _)
set_option maxRecDepth 100000 in
set_option maxHeartbeats 4000000 in
theorem kX11_isOf {l : Launch} {g : GE} {B : Nat} {h : ST} {a1 : Int32} {a2 : Int32} {y : Int32} (hf : fX11_isOf h a1 a2 = some y) : CT l yX11_isOf cX11_isOf 2 (some .boolean) 1 KM 43 g B [.int a1, .int a2] h (some (.int y)) h := by
  refine CT.of pn_X11 (Nat.le_of_ble_eq_true rfl) ?_
  intro p e s m below meth c hr F
  have F : Fx p s m _ meth c cX11_isOf 2 "DustParishModel" 43 g B := F
  refine V_lv (lv' := [(0, .int a1), (1, .int a2)]) rfl ?_
  unfold fX11_isOf at hf
  refine v_iload_n (pc := 0) (j := 0) F dX11_isOf_0 rfl rfl ?_
  refine v_iload_n (pc := 1) (j := 1) F dX11_isOf_1 rfl rfl ?_
  refine v_ishr (pc := 2) F dX11_isOf_2 ?_
  refine v_iconst (pc := 3) (v := 1) F dX11_isOf_3 ic_1 ?_
  refine v_iand (pc := 4) F dX11_isOf_4 ?_
  refine v_iconst (pc := 5) (v := 1) F dX11_isOf_5 ic_1 ?_
  refine v_icmp_ne (pc := 6) (tgt := 13) F dX11_isOf_6 (by decide) (fun c1 => ?_) (fun c1 => ?_)
  · have hf := ite_f hf c1
    refine v_iconst (pc := 13) (v := 0) F dX11_isOf_13 ic_0 ?_
    refine V.sub (lv' := []) [] rfl ?_
    exact tX11_isOf_14 F hr hf
  · have hf := ite_t hf c1
    refine v_iconst (pc := 9) (v := 1) F dX11_isOf_9 ic_1 ?_
    refine v_goto (pc := 10) (tgt := 14) F dX11_isOf_10 (by decide) ?_
    refine V.sub (lv' := []) [] rfl ?_
    exact tX11_isOf_14 F hr hf
