def fX1_titheOf (h : ST) (o1 : Nat) (o2 : Nat) (a3 : Int32) : Option (Int32 × ST) :=
  bnd (rd 9 (h (o2 + 1)) a3) fun v1 =>
  bnd (fX5_isEmpty h (o1 + 12)) fun r3 =>
  if r3 = 0 then
  bnd (wr 6 h ((o1 + 12) + 1) 0 v1) fun h6 =>
    bnd (rd 9 (h6 (o1 + 1)) a3) fun v8 =>
    bnd (wr 6 h6 ((o1 + 12) + 1) 1 v8) fun h10 =>
    bnd (rd 9 (h10 (o1 + 2)) a3) fun v12 =>
    bnd (wr 6 h10 ((o1 + 12) + 1) 2 v12) fun h14 =>
    bnd (wr 6 h14 ((o1 + 12) + 1) 3 (h14 o2 0)) fun h16 =>
    bnd (rd 9 (h16 (o1 + 2)) a3) fun v18 =>
    bnd (rd 6 (h16 (o1 + 17)) v18) fun v20 =>
    bnd (wr 6 h16 ((o1 + 12) + 1) 4 v20) fun h22 =>
    bnd (rd 9 (h22 (o2 + 2)) a3) fun v24 =>
    bnd (wr 6 h22 ((o1 + 12) + 1) 5 v24) fun h26 =>
    bnd (fX5_amount h26 (o1 + 12)) fun r28 =>
    some ((if (0 : Int32) < (if r28.1 < v1 then r28.1 else v1) then (if r28.1 < v1 then r28.1 else v1) else 0), r28.2)
  else
  some (v1 / 10, h)
set_option maxRecDepth 100000 in
set_option maxHeartbeats 4000000 in
theorem kX1_titheOf {l : Launch} {g : GE} {B : Nat} {h : ST} {o1 : Nat} (ho_o1 : o1 < 395) (hk_o1 : KC o1 = (1, 0)) {o2 : Nat} (ho_o2 : o2 < 395) (hk_o2 : KC o2 = (7, 0)) {a3 : Int32} {y : Int32 × ST} (hf : fX1_titheOf h o1 o2 a3 = some y) : CT l yX1_titheOf cX1_titheOf 5 (some .int) 3 KC 395 g B [.ref (gA g o1), .ref (gA g o2), .int a3] h (some (.int y.1)) y.2 := by
  refine CT.of pn_X1 (Nat.le_of_ble_eq_true rfl) ?_
  intro p e s m below meth c hr F
  have F : Fx p s m _ meth c cX1_titheOf 5 "DustParish$Course" 395 g B := F
  refine V_lv (lv' := [(0, .ref (gA g o1)), (1, .ref (gA g o2)), (2, .int a3)]) rfl ?_
  unfold fX1_titheOf at hf
  refine v_aload_n (pc := 0) (j := 1) F dX1_titheOf_0 rfl rfl ?_
  refine v_ifl (pc := 1) F fl_X1_62 dX1_titheOf_1 ho_o2 hk_o2 fv_7_3 ?_
  refine v_iload_n (pc := 4) (j := 2) F dX1_titheOf_4 rfl rfl ?_
  obtain ⟨v1, e2, hf⟩ := bnd_some hf
  refine v_iald (pc := 5) F dX1_titheOf_5 (ly_7_3 ho_o2 hk_o2).1 (ly_7_3 ho_o2 hk_o2).2 e2 ?_
  refine v_istore_n (pc := 6) (lv' := [(0, .ref (gA g o1)), (1, .ref (gA g o2)), (2, .int a3), (3, .int v1)]) F dX1_titheOf_6 rfl (by decide) rfl ?_
  refine v_aload_n (pc := 7) (j := 0) F dX1_titheOf_7 rfl rfl ?_
  refine v_ifl (pc := 8) F fl_X1_87 dX1_titheOf_8 ho_o1 hk_o1 fv_1_17 ?_
  obtain ⟨r3, e4, hf⟩ := bnd_some hf
  refine v_callVi (pc := 11) (As := []) F cl_X1_91 dX1_titheOf_11 (kX5_isEmpty (ly_1_17 ho_o1 hk_o1).1 (ly_1_17 ho_o1 hk_o1).2 e4) (ly_1_17 ho_o1 hk_o1).1 (ly_1_17 ho_o1 hk_o1).2 rc_4 rfl rfl (Nat.le_of_ble_eq_true rfl) (by decide) (Nat.zero_le _) ?_
  refine v_if_eq (pc := 14) (tgt := 22) F dX1_titheOf_14 (by decide) (fun c5 => ?_) (fun c5 => ?_)
  · have hf := ite_t hf c5
    refine v_aload_n (pc := 22) (j := 0) F dX1_titheOf_22 rfl rfl ?_
    refine v_ifl (pc := 23) F fl_X1_87 dX1_titheOf_23 ho_o1 hk_o1 fv_1_17 ?_
    refine v_ifl (pc := 26) F fl_X1_97 dX1_titheOf_26 (ly_1_17 ho_o1 hk_o1).1 (ly_1_17 ho_o1 hk_o1).2 fv_4_0 ?_
    refine v_astore (pc := 29) (lv' := [(0, .ref (gA g o1)), (1, .ref (gA g o2)), (2, .int a3), (3, .int v1), (4, .ref (gA g ((o1 + 12) + 1)))]) F dX1_titheOf_29 (by decide) rfl ?_
    refine v_aload (pc := 31) (j := 4) F dX1_titheOf_31 rfl ?_
    refine v_iconst (pc := 33) (v := 0) F dX1_titheOf_33 ic_0 ?_
    refine v_iload_n (pc := 34) (j := 3) F dX1_titheOf_34 rfl rfl ?_
    obtain ⟨h6, e7, hf⟩ := bnd_some hf
    refine v_iast (pc := 35) F dX1_titheOf_35 (ly_4_0 (ly_1_17 ho_o1 hk_o1).1 (ly_1_17 ho_o1 hk_o1).2).1 (ly_4_0 (ly_1_17 ho_o1 hk_o1).1 (ly_1_17 ho_o1 hk_o1).2).2 e7 ?_
    refine v_aload (pc := 36) (j := 4) F dX1_titheOf_36 rfl ?_
    refine v_iconst (pc := 38) (v := 1) F dX1_titheOf_38 ic_1 ?_
    refine v_aload_n (pc := 39) (j := 0) F dX1_titheOf_39 rfl rfl ?_
    refine v_ifl (pc := 40) F fl_X1_100 dX1_titheOf_40 ho_o1 hk_o1 fv_1_1 ?_
    refine v_iload_n (pc := 43) (j := 2) F dX1_titheOf_43 rfl rfl ?_
    obtain ⟨v8, e9, hf⟩ := bnd_some hf
    refine v_iald (pc := 44) F dX1_titheOf_44 (ly_1_1 ho_o1 hk_o1).1 (ly_1_1 ho_o1 hk_o1).2 e9 ?_
    obtain ⟨h10, e11, hf⟩ := bnd_some hf
    refine v_iast (pc := 45) F dX1_titheOf_45 (ly_4_0 (ly_1_17 ho_o1 hk_o1).1 (ly_1_17 ho_o1 hk_o1).2).1 (ly_4_0 (ly_1_17 ho_o1 hk_o1).1 (ly_1_17 ho_o1 hk_o1).2).2 e11 ?_
    refine v_aload (pc := 46) (j := 4) F dX1_titheOf_46 rfl ?_
    refine v_iconst (pc := 48) (v := 2) F dX1_titheOf_48 ic_2 ?_
    refine v_aload_n (pc := 49) (j := 0) F dX1_titheOf_49 rfl rfl ?_
    refine v_ifl (pc := 50) F fl_X1_103 dX1_titheOf_50 ho_o1 hk_o1 fv_1_2 ?_
    refine v_iload_n (pc := 53) (j := 2) F dX1_titheOf_53 rfl rfl ?_
    obtain ⟨v12, e13, hf⟩ := bnd_some hf
    refine v_iald (pc := 54) F dX1_titheOf_54 (ly_1_2 ho_o1 hk_o1).1 (ly_1_2 ho_o1 hk_o1).2 e13 ?_
    obtain ⟨h14, e15, hf⟩ := bnd_some hf
    refine v_iast (pc := 55) F dX1_titheOf_55 (ly_4_0 (ly_1_17 ho_o1 hk_o1).1 (ly_1_17 ho_o1 hk_o1).2).1 (ly_4_0 (ly_1_17 ho_o1 hk_o1).1 (ly_1_17 ho_o1 hk_o1).2).2 e15 ?_
    refine v_aload (pc := 56) (j := 4) F dX1_titheOf_56 rfl ?_
    refine v_iconst (pc := 58) (v := 3) F dX1_titheOf_58 ic_3 ?_
    refine v_aload_n (pc := 59) (j := 1) F dX1_titheOf_59 rfl rfl ?_
    refine v_ifl (pc := 60) F fl_X1_21 dX1_titheOf_60 ho_o2 hk_o2 fv_7_0 ?_
    obtain ⟨h16, e17, hf⟩ := bnd_some hf
    refine v_iast (pc := 63) F dX1_titheOf_63 (ly_4_0 (ly_1_17 ho_o1 hk_o1).1 (ly_1_17 ho_o1 hk_o1).2).1 (ly_4_0 (ly_1_17 ho_o1 hk_o1).1 (ly_1_17 ho_o1 hk_o1).2).2 e17 ?_
    refine v_aload (pc := 64) (j := 4) F dX1_titheOf_64 rfl ?_
    refine v_iconst (pc := 66) (v := 4) F dX1_titheOf_66 ic_4 ?_
    refine v_aload_n (pc := 67) (j := 0) F dX1_titheOf_67 rfl rfl ?_
    refine v_ifl (pc := 68) F fl_X1_106 dX1_titheOf_68 ho_o1 hk_o1 fv_1_19 ?_
    refine v_aload_n (pc := 71) (j := 0) F dX1_titheOf_71 rfl rfl ?_
    refine v_ifl (pc := 72) F fl_X1_103 dX1_titheOf_72 ho_o1 hk_o1 fv_1_2 ?_
    refine v_iload_n (pc := 75) (j := 2) F dX1_titheOf_75 rfl rfl ?_
    obtain ⟨v18, e19, hf⟩ := bnd_some hf
    refine v_iald (pc := 76) F dX1_titheOf_76 (ly_1_2 ho_o1 hk_o1).1 (ly_1_2 ho_o1 hk_o1).2 e19 ?_
    obtain ⟨v20, e21, hf⟩ := bnd_some hf
    refine v_iald (pc := 77) F dX1_titheOf_77 (ly_1_19 ho_o1 hk_o1).1 (ly_1_19 ho_o1 hk_o1).2 e21 ?_
    obtain ⟨h22, e23, hf⟩ := bnd_some hf
    refine v_iast (pc := 78) F dX1_titheOf_78 (ly_4_0 (ly_1_17 ho_o1 hk_o1).1 (ly_1_17 ho_o1 hk_o1).2).1 (ly_4_0 (ly_1_17 ho_o1 hk_o1).1 (ly_1_17 ho_o1 hk_o1).2).2 e23 ?_
    refine v_aload (pc := 79) (j := 4) F dX1_titheOf_79 rfl ?_
    refine v_iconst (pc := 81) (v := 5) F dX1_titheOf_81 ic_5 ?_
    refine v_aload_n (pc := 82) (j := 1) F dX1_titheOf_82 rfl rfl ?_
    refine v_ifl (pc := 83) F fl_X1_84 dX1_titheOf_83 ho_o2 hk_o2 fv_7_4 ?_
    refine v_iload_n (pc := 86) (j := 2) F dX1_titheOf_86 rfl rfl ?_
    obtain ⟨v24, e25, hf⟩ := bnd_some hf
    refine v_iald (pc := 87) F dX1_titheOf_87 (ly_7_4 ho_o2 hk_o2).1 (ly_7_4 ho_o2 hk_o2).2 e25 ?_
    obtain ⟨h26, e27, hf⟩ := bnd_some hf
    refine v_iast (pc := 88) F dX1_titheOf_88 (ly_4_0 (ly_1_17 ho_o1 hk_o1).1 (ly_1_17 ho_o1 hk_o1).2).1 (ly_4_0 (ly_1_17 ho_o1 hk_o1).1 (ly_1_17 ho_o1 hk_o1).2).2 e27 ?_
    refine v_iconst (pc := 89) (v := 0) F dX1_titheOf_89 ic_0 ?_
    refine v_iload_n (pc := 90) (j := 3) F dX1_titheOf_90 rfl rfl ?_
    refine v_aload_n (pc := 91) (j := 0) F dX1_titheOf_91 rfl rfl ?_
    refine v_ifl (pc := 92) F fl_X1_87 dX1_titheOf_92 ho_o1 hk_o1 fv_1_17 ?_
    obtain ⟨r28, e29, hf⟩ := bnd_some hf
    refine v_callVi (pc := 95) (As := []) F cl_X1_109 dX1_titheOf_95 (kX5_amount (ly_1_17 ho_o1 hk_o1).1 (ly_1_17 ho_o1 hk_o1).2 e29) (ly_1_17 ho_o1 hk_o1).1 (ly_1_17 ho_o1 hk_o1).2 rc_4 rfl rfl (Nat.le_of_ble_eq_true rfl) (by decide) (Nat.zero_le _) ?_
    refine v_mmin (pc := 98) F tw_500 mminW dX1_titheOf_98 (by decide) (Nat.le_of_ble_eq_true rfl) (Nat.zero_le _) ?_
    refine v_mmax (pc := 101) F tw_501 mmaxW dX1_titheOf_101 (by decide) (Nat.le_of_ble_eq_true rfl) (Nat.zero_le _) ?_
    exact v_iret (pc := 104) F hr dX1_titheOf_104 (some_fst hf) (some_snd hf) (Nat.zero_le _)
  · have hf := ite_f hf c5
    refine v_iload_n (pc := 17) (j := 3) F dX1_titheOf_17 rfl rfl ?_
    refine v_bipush (pc := 18) (v := 10) F dX1_titheOf_18 bp_10 ?_
    refine v_idiv (pc := 20) F dX1_titheOf_20 (by decide) ?_
    exact v_iret (pc := 21) F hr dX1_titheOf_21 (some_fst hf) (some_snd hf) (Nat.zero_le _)
def fX1_tithe_2 (o1 : Nat) (o2 : Nat) (s1 : (ST × Int32)) : Option ((ST × Int32) ⊕ ST) :=
  if (s1.1 o1 0) ≤ s1.2 then
  some (.inr s1.1)
  else
  bnd (fX1_titheOf s1.1 o1 o2 s1.2) fun r2 =>
    bnd (rd 9 (r2.2 (o2 + 1)) s1.2) fun v4 =>
    bnd (wr 9 r2.2 (o2 + 1) s1.2 (v4 - r2.1)) fun h6 =>
    bnd (pw h6 o2 1 ((h6 o2 1) + r2.1)) fun h8 =>
    bnd (wr 9 h8 (o2 + 2) s1.2 0) fun h10 =>
    some (.inl (h10, s1.2 + 1))
def fX1_tithe (h : ST) (o1 : Nat) (o2 : Nat) : Option (ST) :=
  bnd (lp FU (fX1_tithe_2 o1 o2) (h, 0)) fun x12 =>
  some x12
set_option maxRecDepth 100000 in
set_option maxHeartbeats 4000000 in
theorem tX1_tithe_2 {p : Program} {l : Launch} {e : Env} {s : State} {m : MethodId} {args : Array Value} {below : List Frame} {meth : Method} {c : Code} {g : GE} {B : Nat}  {o1 : Nat} (ho_o1 : o1 < 395) (hk_o1 : KC o1 = (1, 0)) {o2 : Nat} (ho_o2 : o2 < 395) (hk_o2 : KC o2 = (7, 0)) {Q : State → Prop} {x : ST} {nf : Nat} {s0 : (ST × Int32)} (F : Fx p s m args meth c cX1_tithe 4 "DustParish$Course" 395 g B) (hX0 : V p l e 4 0 s m args below meth c Q KC 395 g B 4 0 x 50 [] []) (hl : lp nf (fX1_tithe_2 o1 o2) s0 = some x) : V p l e 4 0 s m args below meth c Q KC 395 g B 4 0 s0.1 2 [(0, .ref (gA g o1)), (1, .ref (gA g o2)), (2, .int s0.2)] [] := by
  refine lp_ind (P := fun s0 => V p l e 4 0 s m args below meth c Q KC 395 g B 4 0 s0.1 2 [(0, .ref (gA g o1)), (1, .ref (gA g o2)), (2, .int s0.2)] []) ?_ nf s0 hl
  intro s1 y hf hk hx
  have hx0 : ∀ v : ST, y = Sum.inr v → V p l e 4 0 s m args below meth c Q KC 395 g B 4 0 v 50 [] [] := fun v e9 => by rw [hx v e9]; exact hX0
  unfold fX1_tithe_2 at hf
  refine v_iload_n (pc := 2) (j := 2) F dX1_tithe_2 rfl rfl ?_
  refine v_aload_n (pc := 3) (j := 0) F dX1_tithe_3 rfl rfl ?_
  refine v_ifl (pc := 4) F fl_X1_37 dX1_tithe_4 ho_o1 hk_o1 fv_1_0 ?_
  refine v_icmp_ge (pc := 7) (tgt := 50) F dX1_tithe_7 (by decide) (fun c1 => ?_) (fun c1 => ?_)
  · have hf := ite_t hf c1
    refine V.sub (lv' := []) [] rfl ?_
    exact hx0 s1.1 (Option.some.inj hf).symm
  · have hf := ite_f hf c1
    refine v_aload_n (pc := 10) (j := 0) F dX1_tithe_10 rfl rfl ?_
    refine v_aload_n (pc := 11) (j := 1) F dX1_tithe_11 rfl rfl ?_
    refine v_iload_n (pc := 12) (j := 2) F dX1_tithe_12 rfl rfl ?_
    obtain ⟨r2, e3, hf⟩ := bnd_some hf
    refine v_callSi (pc := 13) (As := [.ref (gA g o1), .ref (gA g o2), .int s1.2]) F cl_X1_78 dX1_tithe_13 (kX1_titheOf ho_o1 hk_o1 ho_o2 hk_o2 e3) rfl rfl (Nat.le_of_ble_eq_true rfl) (by decide) (Nat.zero_le _) ?_
    refine v_istore_n (pc := 16) (lv' := [(0, .ref (gA g o1)), (1, .ref (gA g o2)), (2, .int s1.2), (3, .int r2.1)]) F dX1_tithe_16 rfl (by decide) rfl ?_
    refine v_aload_n (pc := 17) (j := 1) F dX1_tithe_17 rfl rfl ?_
    refine v_ifl (pc := 18) F fl_X1_62 dX1_tithe_18 ho_o2 hk_o2 fv_7_3 ?_
    refine v_iload_n (pc := 21) (j := 2) F dX1_tithe_21 rfl rfl ?_
    refine v_dup2_11 (pc := 22) F dX1_tithe_22 rfl rfl ?_
    obtain ⟨v4, e5, hf⟩ := bnd_some hf
    refine v_iald (pc := 23) F dX1_tithe_23 (ly_7_3 ho_o2 hk_o2).1 (ly_7_3 ho_o2 hk_o2).2 e5 ?_
    refine v_iload_n (pc := 24) (j := 3) F dX1_tithe_24 rfl rfl ?_
    refine v_isub (pc := 25) F dX1_tithe_25 ?_
    obtain ⟨h6, e7, hf⟩ := bnd_some hf
    refine v_iast (pc := 26) F dX1_tithe_26 (ly_7_3 ho_o2 hk_o2).1 (ly_7_3 ho_o2 hk_o2).2 e7 ?_
    refine v_aload_n (pc := 27) (j := 1) F dX1_tithe_27 rfl rfl ?_
    refine v_dup (pc := 28) F dX1_tithe_28 rfl ?_
    refine v_ifl (pc := 29) F fl_X1_81 dX1_tithe_29 ho_o2 hk_o2 fv_7_1 ?_
    refine v_iload_n (pc := 32) (j := 3) F dX1_tithe_32 rfl rfl ?_
    refine v_iadd (pc := 33) F dX1_tithe_33 ?_
    obtain ⟨h8, e9, hf⟩ := bnd_some hf
    refine v_pfl (pc := 34) F fl_X1_81 pl_7_1 dX1_tithe_34 ho_o2 hk_o2 fv_7_1 rfl rfl e9 ?_
    refine v_aload_n (pc := 37) (j := 1) F dX1_tithe_37 rfl rfl ?_
    refine v_ifl (pc := 38) F fl_X1_84 dX1_tithe_38 ho_o2 hk_o2 fv_7_4 ?_
    refine v_iload_n (pc := 41) (j := 2) F dX1_tithe_41 rfl rfl ?_
    refine v_iconst (pc := 42) (v := 0) F dX1_tithe_42 ic_0 ?_
    obtain ⟨h10, e11, hf⟩ := bnd_some hf
    refine v_iast (pc := 43) F dX1_tithe_43 (ly_7_4 ho_o2 hk_o2).1 (ly_7_4 ho_o2 hk_o2).2 e11 ?_
    refine v_iinc (pc := 44) (j := 2) (v := s1.2 + 1) (lv' := [(0, .ref (gA g o1)), (1, .ref (gA g o2)), (2, .int (s1.2 + 1)), (3, .int r2.1)]) F dX1_tithe_44 rfl (congrArg (fun z => s1.2 + z) ic_1) (by decide) rfl ?_
    refine v_goto (pc := 47) (tgt := 2) F dX1_tithe_47 (by decide) ?_
    refine V.sub (lv' := [(0, .ref (gA g o1)), (1, .ref (gA g o2)), (2, .int (s1.2 + 1))]) [0, 1, 2] rfl ?_
    exact hk (h10, s1.2 + 1) (Option.some.inj hf).symm
set_option maxRecDepth 100000 in
set_option maxHeartbeats 4000000 in
theorem kX1_tithe {l : Launch} {g : GE} {B : Nat} {h : ST} {o1 : Nat} (ho_o1 : o1 < 395) (hk_o1 : KC o1 = (1, 0)) {o2 : Nat} (ho_o2 : o2 < 395) (hk_o2 : KC o2 = (7, 0)) {y : ST} (hf : fX1_tithe h o1 o2 = some y) : CT l yX1_tithe cX1_tithe 4 none 4 KC 395 g B [.ref (gA g o1), .ref (gA g o2)] h none y := by
  refine CT.of pn_X1 (Nat.le_of_ble_eq_true rfl) ?_
  intro p e s m below meth c hr F
  have F : Fx p s m _ meth c cX1_tithe 4 "DustParish$Course" 395 g B := F
  refine V_lv (lv' := [(0, .ref (gA g o1)), (1, .ref (gA g o2))]) rfl ?_
  unfold fX1_tithe at hf
  refine v_iconst (pc := 0) (v := 0) F dX1_tithe_0 ic_0 ?_
  refine v_istore_n (pc := 1) (lv' := [(0, .ref (gA g o1)), (1, .ref (gA g o2)), (2, .int 0)]) F dX1_tithe_1 rfl (by decide) rfl ?_
  obtain ⟨x12, e13, hf⟩ := bnd_some hf
  refine tX1_tithe_2 (s0 := (h, 0)) ho_o1 hk_o1 ho_o2 hk_o2 F ?_ e13
  exact v_vret (pc := 50) F hr dX1_tithe_50 (Option.some.inj hf) (Nat.zero_le _)
def fX1_pass_3 (o1 : Nat) (o2 : Nat) (l2 : Int32) (l3 : Int32) (s1 : (ST × Int32)) : Option ((ST × Int32) ⊕ ST) :=
  if (s1.1 o1 0) ≤ s1.2 then
  some (.inr s1.1)
  else
  bnd (fX2_comesTo s1.1 o1 s1.2) fun r2 =>
    bnd (fX8_lay s1.1 o2 s1.2 r2) fun r4 =>
    some (.inl (r4, s1.2 + 1))
def fX1_pass_68 (h : ST) (o2 : Nat)  : Option (ST) :=
  bnd (pw h o2 0 ((h o2 0) + 1)) fun h10 =>
  some h10
def fX1_pass_48 (h : ST) (o1 : Nat) (o2 : Nat) (l3 : Int32) : Option (ST) :=
  if l3 ≤ 0 then
  fX1_pass_68 h o2 
  else
  grd (¬ l3 = 0) (
    if (((h o2 0) + 1) - ((h o2 0) + 1) / l3 * l3) = 0 then
    bnd (fX1_tithe h o1 o2) fun r14 =>
      fX1_pass_68 r14 o2 
    else
    fX1_pass_68 h o2 )
def fX1_pass (h : ST) (o1 : Nat) (o2 : Nat) (a3 : Int32) (a4 : Int32) : Option (ST) :=
  bnd (lp FU (fX1_pass_3 o1 o2 a3 a4) (h, 0)) fun x6 =>
  if a3 < 0 then
  fX1_pass_48 x6 o1 o2 a4
  else
  if (x6 o1 8) ≤ a3 then
    fX1_pass_48 x6 o1 o2 a4
    else
    bnd (fX1_carry x6 o1 o2 a3) fun r17 =>
      fX1_pass_48 r17 o1 o2 a4
set_option maxRecDepth 100000 in
set_option maxHeartbeats 4000000 in
theorem tX1_pass_3 {p : Program} {l : Launch} {e : Env} {s : State} {m : MethodId} {args : Array Value} {below : List Frame} {meth : Method} {c : Code} {g : GE} {B : Nat}  {o1 : Nat} (ho_o1 : o1 < 395) (hk_o1 : KC o1 = (1, 0)) {o2 : Nat} (ho_o2 : o2 < 395) (hk_o2 : KC o2 = (7, 0)) {l2 : Int32} {l3 : Int32} {Q : State → Prop} {x : ST} {nf : Nat} {s0 : (ST × Int32)} (F : Fx p s m args meth c cX1_pass 5 "DustParish$Course" 395 g B) (hX0 : V p l e 5 0 s m args below meth c Q KC 395 g B 5 0 x 30 [(0, .ref (gA g o1)), (1, .ref (gA g o2)), (2, .int l2), (3, .int l3)] []) (hl : lp nf (fX1_pass_3 o1 o2 l2 l3) s0 = some x) : V p l e 5 0 s m args below meth c Q KC 395 g B 5 0 s0.1 3 [(0, .ref (gA g o1)), (1, .ref (gA g o2)), (2, .int l2), (3, .int l3), (4, .int s0.2)] [] := by
  refine lp_ind (P := fun s0 => V p l e 5 0 s m args below meth c Q KC 395 g B 5 0 s0.1 3 [(0, .ref (gA g o1)), (1, .ref (gA g o2)), (2, .int l2), (3, .int l3), (4, .int s0.2)] []) ?_ nf s0 hl
  intro s1 y hf hk hx
  have hx0 : ∀ v : ST, y = Sum.inr v → V p l e 5 0 s m args below meth c Q KC 395 g B 5 0 v 30 [(0, .ref (gA g o1)), (1, .ref (gA g o2)), (2, .int l2), (3, .int l3)] [] := fun v e9 => by rw [hx v e9]; exact hX0
  unfold fX1_pass_3 at hf
  refine v_iload (pc := 3) (j := 4) F dX1_pass_3 rfl ?_
  refine v_aload_n (pc := 5) (j := 0) F dX1_pass_5 rfl rfl ?_
  refine v_ifl (pc := 6) F fl_X1_37 dX1_pass_6 ho_o1 hk_o1 fv_1_0 ?_
  refine v_icmp_ge (pc := 9) (tgt := 30) F dX1_pass_9 (by decide) (fun c1 => ?_) (fun c1 => ?_)
  · have hf := ite_t hf c1
    refine V.sub (lv' := [(0, .ref (gA g o1)), (1, .ref (gA g o2)), (2, .int l2), (3, .int l3)]) [0, 1, 2, 3] rfl ?_
    exact hx0 s1.1 (Option.some.inj hf).symm
  · have hf := ite_f hf c1
    refine v_aload_n (pc := 12) (j := 1) F dX1_pass_12 rfl rfl ?_
    refine v_iload (pc := 13) (j := 4) F dX1_pass_13 rfl ?_
    refine v_aload_n (pc := 15) (j := 0) F dX1_pass_15 rfl rfl ?_
    refine v_iload (pc := 16) (j := 4) F dX1_pass_16 rfl ?_
    obtain ⟨r2, e3, hf⟩ := bnd_some hf
    refine v_callVi (pc := 18) (As := [.int s1.2]) F cl_X1_40 dX1_pass_18 (kX2_comesTo ho_o1 hk_o1 e3) ho_o1 hk_o1 rc_1 rfl rfl (Nat.le_of_ble_eq_true rfl) (by decide) (Nat.zero_le _) ?_
    obtain ⟨r4, e5, hf⟩ := bnd_some hf
    refine v_callVv (pc := 21) (As := [.int s1.2, .int r2]) F cl_X1_44 dX1_pass_21 (kX8_lay ho_o2 hk_o2 e5) ho_o2 hk_o2 rc_7 rfl rfl (Nat.le_of_ble_eq_true rfl) (by decide) (Nat.zero_le _) ?_
    refine v_iinc (pc := 24) (j := 4) (v := s1.2 + 1) (lv' := [(0, .ref (gA g o1)), (1, .ref (gA g o2)), (2, .int l2), (3, .int l3), (4, .int (s1.2 + 1))]) F dX1_pass_24 rfl (congrArg (fun z => s1.2 + z) ic_1) (by decide) rfl ?_
    refine v_goto (pc := 27) (tgt := 3) F dX1_pass_27 (by decide) ?_
    exact hk (r4, s1.2 + 1) (Option.some.inj hf).symm
set_option maxRecDepth 100000 in
set_option maxHeartbeats 4000000 in
theorem tX1_pass_68 {p : Program} {l : Launch} {e : Env} {s : State} {m : MethodId} {args : Array Value} {below : List Frame} {meth : Method} {c : Code} {g : GE} {B : Nat} {h : ST} {o2 : Nat} (ho_o2 : o2 < 395) (hk_o2 : KC o2 = (7, 0)) (F : Fx p s m args meth c cX1_pass 5 "DustParish$Course" 395 g B)
    {y : ST} (hr : meth.sig.returnType = none) (hf : fX1_pass_68 h o2  = some y) : V p l e 5 0 s m args below meth c (MQ below (QO KC 395 g none y) args s 0 (6 * 0) (WA 395 g)) KC 395 g B 5 0 h 68 [(1, .ref (gA g o2))] [] := by
  unfold fX1_pass_68 at hf
  refine v_aload_n (pc := 68) (j := 0) F dX1_pass_68 rfl rfl ?_
  refine v_dup (pc := 69) F dX1_pass_69 rfl ?_
  refine v_ifl (pc := 70) F fl_X1_21 dX1_pass_70 ho_o2 hk_o2 fv_7_0 ?_
  refine v_iconst (pc := 73) (v := 1) F dX1_pass_73 ic_1 ?_
  refine v_iadd (pc := 74) F dX1_pass_74 ?_
  obtain ⟨h10, e11, hf⟩ := bnd_some hf
  refine v_pfl (pc := 75) F fl_X1_21 pl_7_0 dX1_pass_75 ho_o2 hk_o2 fv_7_0 rfl rfl e11 ?_
  exact v_vret (pc := 78) F hr dX1_pass_78 (Option.some.inj hf) (Nat.zero_le _)
set_option maxRecDepth 100000 in
set_option maxHeartbeats 4000000 in
theorem tX1_pass_48 {p : Program} {l : Launch} {e : Env} {s : State} {m : MethodId} {args : Array Value} {below : List Frame} {meth : Method} {c : Code} {g : GE} {B : Nat} {h : ST} {o1 : Nat} (ho_o1 : o1 < 395) (hk_o1 : KC o1 = (1, 0)) {o2 : Nat} (ho_o2 : o2 < 395) (hk_o2 : KC o2 = (7, 0)) {l3 : Int32} (F : Fx p s m args meth c cX1_pass 5 "DustParish$Course" 395 g B)
    {y : ST} (hr : meth.sig.returnType = none) (hf : fX1_pass_48 h o1 o2 l3 = some y) : V p l e 5 0 s m args below meth c (MQ below (QO KC 395 g none y) args s 0 (6 * 0) (WA 395 g)) KC 395 g B 5 0 h 48 [(0, .ref (gA g o1)), (1, .ref (gA g o2)), (3, .int l3)] [] := by
  unfold fX1_pass_48 at hf
  refine v_iload_n (pc := 48) (j := 2) F dX1_pass_48 rfl rfl ?_
  refine v_if_le (pc := 49) (tgt := 68) F dX1_pass_49 (by decide) (fun c9 => ?_) (fun c9 => ?_)
  · have hf := ite_t hf c9
    refine V.sub (lv' := [(1, .ref (gA g o2))]) [1] rfl ?_
    exact tX1_pass_68 ho_o2 hk_o2 F hr hf
  · have hf := ite_f hf c9
    refine v_aload_n (pc := 52) (j := 1) F dX1_pass_52 rfl rfl ?_
    refine v_ifl (pc := 53) F fl_X1_21 dX1_pass_53 ho_o2 hk_o2 fv_7_0 ?_
    refine v_iconst (pc := 56) (v := 1) F dX1_pass_56 ic_1 ?_
    refine v_iadd (pc := 57) F dX1_pass_57 ?_
    refine v_iload_n (pc := 58) (j := 2) F dX1_pass_58 rfl rfl ?_
    obtain ⟨g12, hf⟩ := grd_some hf
    refine v_irem (pc := 59) F dX1_pass_59 g12 ?_
    refine v_if_ne (pc := 60) (tgt := 68) F dX1_pass_60 (by decide) (fun c13 => ?_) (fun c13 => ?_)
    · have hf := ite_f hf c13
      refine V.sub (lv' := [(1, .ref (gA g o2))]) [1] rfl ?_
      exact tX1_pass_68 ho_o2 hk_o2 F hr hf
    · have hf := ite_t hf c13
      refine v_aload_n (pc := 63) (j := 0) F dX1_pass_63 rfl rfl ?_
      refine v_aload_n (pc := 64) (j := 1) F dX1_pass_64 rfl rfl ?_
      obtain ⟨r14, e15, hf⟩ := bnd_some hf
      refine v_callSv (pc := 65) (As := [.ref (gA g o1), .ref (gA g o2)]) F cl_X1_55 dX1_pass_65 (kX1_tithe ho_o1 hk_o1 ho_o2 hk_o2 e15) rfl rfl (Nat.le_of_ble_eq_true rfl) (by decide) (Nat.zero_le _) ?_
      refine V.sub (lv' := [(1, .ref (gA g o2))]) [1] rfl ?_
      exact tX1_pass_68 ho_o2 hk_o2 F hr hf
set_option maxRecDepth 100000 in
set_option maxHeartbeats 4000000 in
theorem kX1_pass {l : Launch} {g : GE} {B : Nat} {h : ST} {o1 : Nat} (ho_o1 : o1 < 395) (hk_o1 : KC o1 = (1, 0)) {o2 : Nat} (ho_o2 : o2 < 395) (hk_o2 : KC o2 = (7, 0)) {a3 : Int32} {a4 : Int32} {y : ST} (hf : fX1_pass h o1 o2 a3 a4 = some y) : CT l yX1_pass cX1_pass 5 none 5 KC 395 g B [.ref (gA g o1), .ref (gA g o2), .int a3, .int a4] h none y := by
  refine CT.of pn_X1 (Nat.le_of_ble_eq_true rfl) ?_
  intro p e s m below meth c hr F
  have F : Fx p s m _ meth c cX1_pass 5 "DustParish$Course" 395 g B := F
  refine V_lv (lv' := [(0, .ref (gA g o1)), (1, .ref (gA g o2)), (2, .int a3), (3, .int a4)]) rfl ?_
  unfold fX1_pass at hf
  refine v_iconst (pc := 0) (v := 0) F dX1_pass_0 ic_0 ?_
  refine v_istore (pc := 1) (lv' := [(0, .ref (gA g o1)), (1, .ref (gA g o2)), (2, .int a3), (3, .int a4), (4, .int 0)]) F dX1_pass_1 (by decide) rfl ?_
  obtain ⟨x6, e7, hf⟩ := bnd_some hf
  refine tX1_pass_3 (s0 := (h, 0)) ho_o1 hk_o1 ho_o2 hk_o2 F ?_ e7
  refine v_iload_n (pc := 30) (j := 2) F dX1_pass_30 rfl rfl ?_
  refine v_if_lt (pc := 31) (tgt := 48) F dX1_pass_31 (by decide) (fun c8 => ?_) (fun c8 => ?_)
  · have hf := ite_t hf c8
    refine V.sub (lv' := [(0, .ref (gA g o1)), (1, .ref (gA g o2)), (3, .int a4)]) [0, 1, 3] rfl ?_
    exact tX1_pass_48 ho_o1 hk_o1 ho_o2 hk_o2 F hr hf
  · have hf := ite_f hf c8
    refine v_iload_n (pc := 34) (j := 2) F dX1_pass_34 rfl rfl ?_
    refine v_aload_n (pc := 35) (j := 0) F dX1_pass_35 rfl rfl ?_
    refine v_ifl (pc := 36) F fl_X1_48 dX1_pass_36 ho_o1 hk_o1 fv_1_8 ?_
    refine v_icmp_ge (pc := 39) (tgt := 48) F dX1_pass_39 (by decide) (fun c16 => ?_) (fun c16 => ?_)
    · have hf := ite_t hf c16
      refine V.sub (lv' := [(0, .ref (gA g o1)), (1, .ref (gA g o2)), (3, .int a4)]) [0, 1, 3] rfl ?_
      exact tX1_pass_48 ho_o1 hk_o1 ho_o2 hk_o2 F hr hf
    · have hf := ite_f hf c16
      refine v_aload_n (pc := 42) (j := 0) F dX1_pass_42 rfl rfl ?_
      refine v_aload_n (pc := 43) (j := 1) F dX1_pass_43 rfl rfl ?_
      refine v_iload_n (pc := 44) (j := 2) F dX1_pass_44 rfl rfl ?_
      obtain ⟨r17, e18, hf⟩ := bnd_some hf
      refine v_callSv (pc := 45) (As := [.ref (gA g o1), .ref (gA g o2), .int a3]) F cl_X1_51 dX1_pass_45 (kX1_carry ho_o1 hk_o1 ho_o2 hk_o2 e18) rfl rfl (Nat.le_of_ble_eq_true rfl) (by decide) (Nat.zero_le _) ?_
      refine V.sub (lv' := [(0, .ref (gA g o1)), (1, .ref (gA g o2)), (3, .int a4)]) [0, 1, 3] rfl ?_
      exact tX1_pass_48 ho_o1 hk_o1 ho_o2 hk_o2 F hr hf
def fX1_passMany_2 (o1 : Nat) (o2 : Nat) (l2 : Int32) (s1 : (ST × Int32)) : Option ((ST × Int32) ⊕ ST) :=
  if l2 ≤ s1.2 then
  some (.inr s1.1)
  else
  bnd (fX1_windOf s1.1 o1 o2 (s1.1 o2 0)) fun r2 =>
    bnd (fX1_pass s1.1 o1 o2 r2 (s1.1 o1 15)) fun r4 =>
    some (.inl (r4, s1.2 + 1))
def fX1_passMany (h : ST) (o1 : Nat) (o2 : Nat) (a3 : Int32) : Option (ST) :=
  bnd (lp FU (fX1_passMany_2 o1 o2 a3) (h, 0)) fun x6 =>
  some x6
set_option maxRecDepth 100000 in
set_option maxHeartbeats 4000000 in
theorem tX1_passMany_2 {p : Program} {l : Launch} {e : Env} {s : State} {m : MethodId} {args : Array Value} {below : List Frame} {meth : Method} {c : Code} {g : GE} {B : Nat}  {o1 : Nat} (ho_o1 : o1 < 395) (hk_o1 : KC o1 = (1, 0)) {o2 : Nat} (ho_o2 : o2 < 395) (hk_o2 : KC o2 = (7, 0)) {l2 : Int32} {Q : State → Prop} {x : ST} {nf : Nat} {s0 : (ST × Int32)} (F : Fx p s m args meth c cX1_passMany 4 "DustParish$Course" 395 g B) (hX0 : V p l e 6 0 s m args below meth c Q KC 395 g B 4 0 x 31 [] []) (hl : lp nf (fX1_passMany_2 o1 o2 l2) s0 = some x) : V p l e 6 0 s m args below meth c Q KC 395 g B 4 0 s0.1 2 [(0, .ref (gA g o1)), (1, .ref (gA g o2)), (2, .int l2), (3, .int s0.2)] [] := by
  refine lp_ind (P := fun s0 => V p l e 6 0 s m args below meth c Q KC 395 g B 4 0 s0.1 2 [(0, .ref (gA g o1)), (1, .ref (gA g o2)), (2, .int l2), (3, .int s0.2)] []) ?_ nf s0 hl
  intro s1 y hf hk hx
  have hx0 : ∀ v : ST, y = Sum.inr v → V p l e 6 0 s m args below meth c Q KC 395 g B 4 0 v 31 [] [] := fun v e9 => by rw [hx v e9]; exact hX0
  unfold fX1_passMany_2 at hf
  refine v_iload_n (pc := 2) (j := 3) F dX1_passMany_2 rfl rfl ?_
  refine v_iload_n (pc := 3) (j := 2) F dX1_passMany_3 rfl rfl ?_
  refine v_icmp_ge (pc := 4) (tgt := 31) F dX1_passMany_4 (by decide) (fun c1 => ?_) (fun c1 => ?_)
  · have hf := ite_t hf c1
    refine V.sub (lv' := []) [] rfl ?_
    exact hx0 s1.1 (Option.some.inj hf).symm
  · have hf := ite_f hf c1
    refine v_aload_n (pc := 7) (j := 0) F dX1_passMany_7 rfl rfl ?_
    refine v_aload_n (pc := 8) (j := 1) F dX1_passMany_8 rfl rfl ?_
    refine v_aload_n (pc := 9) (j := 0) F dX1_passMany_9 rfl rfl ?_
    refine v_aload_n (pc := 10) (j := 1) F dX1_passMany_10 rfl rfl ?_
    refine v_aload_n (pc := 11) (j := 1) F dX1_passMany_11 rfl rfl ?_
    refine v_ifl (pc := 12) F fl_X1_21 dX1_passMany_12 ho_o2 hk_o2 fv_7_0 ?_
    obtain ⟨r2, e3, hf⟩ := bnd_some hf
    refine v_callSi (pc := 15) (As := [.ref (gA g o1), .ref (gA g o2), .int (s1.1 o2 0)]) F cl_X1_24 dX1_passMany_15 (kX1_windOf ho_o1 hk_o1 ho_o2 hk_o2 e3) rfl rfl (Nat.le_of_ble_eq_true rfl) (by decide) (Nat.zero_le _) ?_
    refine v_aload_n (pc := 18) (j := 0) F dX1_passMany_18 rfl rfl ?_
    refine v_ifl (pc := 19) F fl_X1_30 dX1_passMany_19 ho_o1 hk_o1 fv_1_15 ?_
    obtain ⟨r4, e5, hf⟩ := bnd_some hf
    refine v_callSv (pc := 22) (As := [.ref (gA g o1), .ref (gA g o2), .int r2, .int (s1.1 o1 15)]) F cl_X1_33 dX1_passMany_22 (kX1_pass ho_o1 hk_o1 ho_o2 hk_o2 e5) rfl rfl (Nat.le_of_ble_eq_true rfl) (by decide) (Nat.zero_le _) ?_
    refine v_iinc (pc := 25) (j := 3) (v := s1.2 + 1) (lv' := [(0, .ref (gA g o1)), (1, .ref (gA g o2)), (2, .int l2), (3, .int (s1.2 + 1))]) F dX1_passMany_25 rfl (congrArg (fun z => s1.2 + z) ic_1) (by decide) rfl ?_
    refine v_goto (pc := 28) (tgt := 2) F dX1_passMany_28 (by decide) ?_
    exact hk (r4, s1.2 + 1) (Option.some.inj hf).symm
set_option maxRecDepth 100000 in
set_option maxHeartbeats 4000000 in
theorem kX1_passMany {l : Launch} {g : GE} {B : Nat} {h : ST} {o1 : Nat} (ho_o1 : o1 < 395) (hk_o1 : KC o1 = (1, 0)) {o2 : Nat} (ho_o2 : o2 < 395) (hk_o2 : KC o2 = (7, 0)) {a3 : Int32} {y : ST} (hf : fX1_passMany h o1 o2 a3 = some y) : CT l yX1_passMany cX1_passMany 4 none 6 KC 395 g B [.ref (gA g o1), .ref (gA g o2), .int a3] h none y := by
  refine CT.of pn_X1 (Nat.le_of_ble_eq_true rfl) ?_
  intro p e s m below meth c hr F
  have F : Fx p s m _ meth c cX1_passMany 4 "DustParish$Course" 395 g B := F
  refine V_lv (lv' := [(0, .ref (gA g o1)), (1, .ref (gA g o2)), (2, .int a3)]) rfl ?_
  unfold fX1_passMany at hf
  refine v_iconst (pc := 0) (v := 0) F dX1_passMany_0 ic_0 ?_
  refine v_istore_n (pc := 1) (lv' := [(0, .ref (gA g o1)), (1, .ref (gA g o2)), (2, .int a3), (3, .int 0)]) F dX1_passMany_1 rfl (by decide) rfl ?_
  obtain ⟨x6, e7, hf⟩ := bnd_some hf
  refine tX1_passMany_2 (s0 := (h, 0)) ho_o1 hk_o1 ho_o2 hk_o2 F ?_ e7
  exact v_vret (pc := 31) F hr dX1_passMany_31 (Option.some.inj hf) (Nat.zero_le _)
def fX10_tryDays (h : ST) (a1 : Int32) : Option (ST) :=
  bnd (fX8_copy h 386 43) fun r1 =>
  bnd (rf KC 395 1 (r1 0 3)) fun f3 =>
  bnd (fX1_passMany r1 f3 386 a1) fun r5 =>
  some r5
set_option maxRecDepth 100000 in
set_option maxHeartbeats 4000000 in
theorem kX10_tryDays {l : Launch} {g : GE} {B : Nat} {h : ST} {a1 : Int32} {y : ST} (hf : fX10_tryDays h a1 = some y) : CT l yX10_tryDays cX10_tryDays 2 none 7 KC 395 g B [.ref (gA g 0), .int a1] h none y := by
  refine CT.of pn_X10 (Nat.le_of_ble_eq_true rfl) ?_
  intro p e s m below meth c hr F
  have F : Fx p s m _ meth c cX10_tryDays 2 "DustParish" 395 g B := F
  refine V_lv (lv' := [(0, .ref (gA g 0)), (1, .int a1)]) rfl ?_
  unfold fX10_tryDays at hf
  refine v_aload_n (pc := 0) (j := 0) F dX10_tryDays_0 rfl rfl ?_
  refine v_ifl (pc := 1) F fl_X10_56 dX10_tryDays_1 kc_0.1 kc_0.2 fv_9_9 ?_
  refine v_aload_n (pc := 4) (j := 0) F dX10_tryDays_4 rfl rfl ?_
  refine v_ifl (pc := 5) F fl_X10_42 dX10_tryDays_5 kc_0.1 kc_0.2 fv_9_6 ?_
  refine v_ifl (pc := 8) F fl_X10_122 dX10_tryDays_8 kc_42.1 kc_42.2 fv_2_0 ?_
  obtain ⟨r1, e2, hf⟩ := bnd_some hf
  refine v_callVv (pc := 11) (As := [.ref (gA g 43)]) F cl_X10_241 dX10_tryDays_11 (kX8_copy kc_386.1 kc_386.2 kc_43.1 kc_43.2 e2) kc_386.1 kc_386.2 rc_7 rfl rfl (Nat.le_of_ble_eq_true rfl) (by decide) (Nat.zero_le _) ?_
  refine v_aload_n (pc := 14) (j := 0) F dX10_tryDays_14 rfl rfl ?_
  obtain ⟨f3, e4, hf⟩ := bnd_some hf
  obtain ⟨ho_f3, hk_f3, e4⟩ := rf_in e4
  refine v_ifl (pc := 15) F fl_X10_23 dX10_tryDays_15 kc_0.1 kc_0.2 (fv_9_3 e4) ?_
  refine v_aload_n (pc := 18) (j := 0) F dX10_tryDays_18 rfl rfl ?_
  refine v_ifl (pc := 19) F fl_X10_56 dX10_tryDays_19 kc_0.1 kc_0.2 fv_9_9 ?_
  refine v_iload_n (pc := 22) (j := 1) F dX10_tryDays_22 rfl rfl ?_
  obtain ⟨r5, e6, hf⟩ := bnd_some hf
  refine v_callSv (pc := 23) (As := [.ref (gA g f3), .ref (gA g 386), .int a1]) F cl_X10_214 dX10_tryDays_23 (kX1_passMany ho_f3 hk_f3 kc_386.1 kc_386.2 e6) rfl rfl (Nat.le_of_ble_eq_true rfl) (by decide) (Nat.zero_le _) ?_
  exact v_vret (pc := 26) F hr dX10_tryDays_26 (Option.some.inj hf) (Nat.zero_le _)
def fX10_tryChange_80 (h : ST)  : Option (ST) :=
  some h
def fX10_tryChange (h : ST) (a1 : Int32) (a2 : Int32) (a3 : Int32) : Option (ST) :=
  bnd (fX8_copy h 386 43) fun r1 =>
  bnd (rd 10 (r1 389) a1) fun v3 =>
  bnd (rd 10 (r1 389) a2) fun v5 =>
  if v3 = v5 then
  fX10_tryChange_80 r1 
  else
  bnd (rd 10 (r1 389) a2) fun v8 =>
    bnd (wr 10 r1 389 a1 v8) fun h10 =>
    bnd (wr 10 h10 389 a2 v3) fun h12 =>
    bnd (rf KC 395 1 (h12 0 3)) fun f14 =>
    bnd (fX1_passMany h12 f14 386 a3) fun r16 =>
    fX10_tryChange_80 r16 
set_option maxRecDepth 100000 in
set_option maxHeartbeats 4000000 in
theorem tX10_tryChange_80 {p : Program} {l : Launch} {e : Env} {s : State} {m : MethodId} {args : Array Value} {below : List Frame} {meth : Method} {c : Code} {g : GE} {B : Nat} {h : ST}  (F : Fx p s m args meth c cX10_tryChange 5 "DustParish" 395 g B)
    {y : ST} (hr : meth.sig.returnType = none) (hf : fX10_tryChange_80 h  = some y) : V p l e 7 0 s m args below meth c (MQ below (QO KC 395 g none y) args s 0 (6 * 0) (WA 395 g)) KC 395 g B 5 0 h 80 [] [] := by
  unfold fX10_tryChange_80 at hf
  exact v_vret (pc := 80) F hr dX10_tryChange_80 (Option.some.inj hf) (Nat.zero_le _)
set_option maxRecDepth 100000 in
set_option maxHeartbeats 4000000 in
theorem kX10_tryChange {l : Launch} {g : GE} {B : Nat} {h : ST} {a1 : Int32} {a2 : Int32} {a3 : Int32} {y : ST} (hf : fX10_tryChange h a1 a2 a3 = some y) : CT l yX10_tryChange cX10_tryChange 5 none 7 KC 395 g B [.ref (gA g 0), .int a1, .int a2, .int a3] h none y := by
  refine CT.of pn_X10 (Nat.le_of_ble_eq_true rfl) ?_
  intro p e s m below meth c hr F
  have F : Fx p s m _ meth c cX10_tryChange 5 "DustParish" 395 g B := F
  refine V_lv (lv' := [(0, .ref (gA g 0)), (1, .int a1), (2, .int a2), (3, .int a3)]) rfl ?_
  unfold fX10_tryChange at hf
  refine v_aload_n (pc := 0) (j := 0) F dX10_tryChange_0 rfl rfl ?_
  refine v_ifl (pc := 1) F fl_X10_56 dX10_tryChange_1 kc_0.1 kc_0.2 fv_9_9 ?_
  refine v_aload_n (pc := 4) (j := 0) F dX10_tryChange_4 rfl rfl ?_
  refine v_ifl (pc := 5) F fl_X10_42 dX10_tryChange_5 kc_0.1 kc_0.2 fv_9_6 ?_
  refine v_ifl (pc := 8) F fl_X10_122 dX10_tryChange_8 kc_42.1 kc_42.2 fv_2_0 ?_
  obtain ⟨r1, e2, hf⟩ := bnd_some hf
  refine v_callVv (pc := 11) (As := [.ref (gA g 43)]) F cl_X10_241 dX10_tryChange_11 (kX8_copy kc_386.1 kc_386.2 kc_43.1 kc_43.2 e2) kc_386.1 kc_386.2 rc_7 rfl rfl (Nat.le_of_ble_eq_true rfl) (by decide) (Nat.zero_le _) ?_
  refine v_aload_n (pc := 14) (j := 0) F dX10_tryChange_14 rfl rfl ?_
  refine v_ifl (pc := 15) F fl_X10_56 dX10_tryChange_15 kc_0.1 kc_0.2 fv_9_9 ?_
  refine v_ifl (pc := 18) F fl_X10_229 dX10_tryChange_18 kc_386.1 kc_386.2 fv_7_5 ?_
  refine v_iload_n (pc := 21) (j := 1) F dX10_tryChange_21 rfl rfl ?_
  obtain ⟨v3, e4, hf⟩ := bnd_some hf
  refine v_iald (pc := 22) F dX10_tryChange_22 kc_389.1 kc_389.2 e4 ?_
  refine v_istore (pc := 23) (lv' := [(0, .ref (gA g 0)), (1, .int a1), (2, .int a2), (3, .int a3), (4, .int v3)]) F dX10_tryChange_23 (by decide) rfl ?_
  refine v_iload (pc := 25) (j := 4) F dX10_tryChange_25 rfl ?_
  refine v_aload_n (pc := 27) (j := 0) F dX10_tryChange_27 rfl rfl ?_
  refine v_ifl (pc := 28) F fl_X10_56 dX10_tryChange_28 kc_0.1 kc_0.2 fv_9_9 ?_
  refine v_ifl (pc := 31) F fl_X10_229 dX10_tryChange_31 kc_386.1 kc_386.2 fv_7_5 ?_
  refine v_iload_n (pc := 34) (j := 2) F dX10_tryChange_34 rfl rfl ?_
  obtain ⟨v5, e6, hf⟩ := bnd_some hf
  refine v_iald (pc := 35) F dX10_tryChange_35 kc_389.1 kc_389.2 e6 ?_
  refine v_icmp_eq (pc := 36) (tgt := 80) F dX10_tryChange_36 (by decide) (fun c7 => ?_) (fun c7 => ?_)
  · have hf := ite_t hf c7
    refine V.sub (lv' := []) [] rfl ?_
    exact tX10_tryChange_80 F hr hf
  · have hf := ite_f hf c7
    refine v_aload_n (pc := 39) (j := 0) F dX10_tryChange_39 rfl rfl ?_
    refine v_ifl (pc := 40) F fl_X10_56 dX10_tryChange_40 kc_0.1 kc_0.2 fv_9_9 ?_
    refine v_ifl (pc := 43) F fl_X10_229 dX10_tryChange_43 kc_386.1 kc_386.2 fv_7_5 ?_
    refine v_iload_n (pc := 46) (j := 1) F dX10_tryChange_46 rfl rfl ?_
    refine v_aload_n (pc := 47) (j := 0) F dX10_tryChange_47 rfl rfl ?_
    refine v_ifl (pc := 48) F fl_X10_56 dX10_tryChange_48 kc_0.1 kc_0.2 fv_9_9 ?_
    refine v_ifl (pc := 51) F fl_X10_229 dX10_tryChange_51 kc_386.1 kc_386.2 fv_7_5 ?_
    refine v_iload_n (pc := 54) (j := 2) F dX10_tryChange_54 rfl rfl ?_
    obtain ⟨v8, e9, hf⟩ := bnd_some hf
    refine v_iald (pc := 55) F dX10_tryChange_55 kc_389.1 kc_389.2 e9 ?_
    obtain ⟨h10, e11, hf⟩ := bnd_some hf
    refine v_iast (pc := 56) F dX10_tryChange_56 kc_389.1 kc_389.2 e11 ?_
    refine v_aload_n (pc := 57) (j := 0) F dX10_tryChange_57 rfl rfl ?_
    refine v_ifl (pc := 58) F fl_X10_56 dX10_tryChange_58 kc_0.1 kc_0.2 fv_9_9 ?_
    refine v_ifl (pc := 61) F fl_X10_229 dX10_tryChange_61 kc_386.1 kc_386.2 fv_7_5 ?_
    refine v_iload_n (pc := 64) (j := 2) F dX10_tryChange_64 rfl rfl ?_
    refine v_iload (pc := 65) (j := 4) F dX10_tryChange_65 rfl ?_
    obtain ⟨h12, e13, hf⟩ := bnd_some hf
    refine v_iast (pc := 67) F dX10_tryChange_67 kc_389.1 kc_389.2 e13 ?_
    refine v_aload_n (pc := 68) (j := 0) F dX10_tryChange_68 rfl rfl ?_
    obtain ⟨f14, e15, hf⟩ := bnd_some hf
    obtain ⟨ho_f14, hk_f14, e15⟩ := rf_in e15
    refine v_ifl (pc := 69) F fl_X10_23 dX10_tryChange_69 kc_0.1 kc_0.2 (fv_9_3 e15) ?_
    refine v_aload_n (pc := 72) (j := 0) F dX10_tryChange_72 rfl rfl ?_
    refine v_ifl (pc := 73) F fl_X10_56 dX10_tryChange_73 kc_0.1 kc_0.2 fv_9_9 ?_
    refine v_iload_n (pc := 76) (j := 3) F dX10_tryChange_76 rfl rfl ?_
    obtain ⟨r16, e17, hf⟩ := bnd_some hf
    refine v_callSv (pc := 77) (As := [.ref (gA g f14), .ref (gA g 386), .int a3]) F cl_X10_214 dX10_tryChange_77 (kX1_passMany ho_f14 hk_f14 kc_386.1 kc_386.2 e17) rfl rfl (Nat.le_of_ble_eq_true rfl) (by decide) (Nat.zero_le _) ?_
    refine V.sub (lv' := []) [] rfl ?_
    exact tX10_tryChange_80 F hr hf
def fX10_change_89 (h : ST) (l1 : Int32) (l2 : Int32) (l3 : Int32) (l4 : Int32) (l5 : Int32) : Option ((ST × Int32 × Int32 × Int32) ⊕ (ST × Int32 × Int32)) :=
  some (.inl (h, l2, l3, l5 + 1))
def fX10_change_40 (l1 : Int32) (l4 : Int32) (s1 : (ST × Int32 × Int32 × Int32)) : Option ((ST × Int32 × Int32 × Int32) ⊕ (ST × Int32 × Int32)) :=
  bnd (rf KC 395 1 (s1.1 0 3)) fun f8 =>
  if (s1.1 f8 13) ≤ s1.2.2.2 then
  some (.inr (s1.1, s1.2.1, s1.2.2.1))
  else
  bnd (fX10_tryChange s1.1 l4 s1.2.2.2 l1) fun r11 =>
    if (r11 386 1) ≤ s1.2.1 then
    fX10_change_89 r11 l1 s1.2.1 s1.2.2.1 l4 s1.2.2.2
    else
    fX10_change_89 r11 l1 (r11 386 1) ((10 * l4) + s1.2.2.2) l4 s1.2.2.2
def fX10_change_22 (l1 : Int32) (s1 : (ST × Int32 × Int32 × Int32)) : Option ((ST × Int32 × Int32 × Int32) ⊕ (ST × Int32)) :=
  bnd (rf KC 395 1 (s1.1 0 3)) fun f5 =>
  if (s1.1 f5 13) ≤ s1.2.2.2 then
  some (.inr (s1.1, s1.2.2.1))
  else
  bnd (lp FU (fX10_change_40 l1 s1.2.2.2) (s1.1, s1.2.1, s1.2.2.1, s1.2.2.2 + 1)) fun x14 =>
    some (.inl (x14.1, x14.2.1, x14.2.2, s1.2.2.2 + 1))
def fX10_change (h : ST) (a1 : Int32) : Option ((Int32 ⊕ Nat) × ST) :=
  bnd (fX10_needAhead h a1) fun r1 =>
  sm r1 (fun _ => bnd (fX10_tryDays h a1) fun r3 =>
  bnd (lp FU (fX10_change_22 a1) (r3, r3 386 1, (-1), 0)) fun x16 =>
  some (.inl x16.2, x16.1)) (fun r1 => some (.inr r1, h))
set_option maxRecDepth 100000 in
set_option maxHeartbeats 4000000 in
theorem tX10_change_89 {p : Program} {l : Launch} {e : Env} {s : State} {m : MethodId} {args : Array Value} {below : List Frame} {meth : Method} {c : Code} {g : GE} {B : Nat} {h : ST}  {l1 : Int32} {l2 : Int32} {l3 : Int32} {l4 : Int32} {l5 : Int32} (F : Fx p s m args meth c cX10_change 6 "DustParish" 395 g B)
    {Q : State → Prop} {y : (ST × Int32 × Int32 × Int32) ⊕ (ST × Int32 × Int32)} (hk : ∀ v : (ST × Int32 × Int32 × Int32), y = Sum.inl v → V p l e 9 1 s m args below meth c Q KC 395 g B 6 1 v.1 40 [(0, .ref (gA g 0)), (1, .int l1), (2, .int v.2.1), (3, .int v.2.2.1), (4, .int l4), (5, .int v.2.2.2)] []) (hx0 : ∀ v : (ST × Int32 × Int32), y = Sum.inr v → V p l e 9 1 s m args below meth c Q KC 395 g B 6 1 v.1 95 [(0, .ref (gA g 0)), (1, .int l1), (2, .int v.2.1), (3, .int v.2.2), (4, .int l4)] []) (hf : fX10_change_89 h l1 l2 l3 l4 l5 = some y) : V p l e 9 1 s m args below meth c Q KC 395 g B 6 1 h 89 [(0, .ref (gA g 0)), (1, .int l1), (2, .int l2), (3, .int l3), (4, .int l4), (5, .int l5)] [] := by
  unfold fX10_change_89 at hf
  refine v_iinc (pc := 89) (j := 5) (v := l5 + 1) (lv' := [(0, .ref (gA g 0)), (1, .int l1), (2, .int l2), (3, .int l3), (4, .int l4), (5, .int (l5 + 1))]) F dX10_change_89 rfl (congrArg (fun z => l5 + z) ic_1) (by decide) rfl ?_
  refine v_goto (pc := 92) (tgt := 40) F dX10_change_92 (by decide) ?_
  exact hk (h, l2, l3, l5 + 1) (Option.some.inj hf).symm
set_option maxRecDepth 100000 in
set_option maxHeartbeats 4000000 in
theorem tX10_change_40 {p : Program} {l : Launch} {e : Env} {s : State} {m : MethodId} {args : Array Value} {below : List Frame} {meth : Method} {c : Code} {g : GE} {B : Nat}   {l1 : Int32} {l4 : Int32} {Q : State → Prop} {x : (ST × Int32 × Int32)} {nf : Nat} {s0 : (ST × Int32 × Int32 × Int32)} (F : Fx p s m args meth c cX10_change 6 "DustParish" 395 g B) (hX0 : V p l e 9 1 s m args below meth c Q KC 395 g B 6 1 x.1 95 [(0, .ref (gA g 0)), (1, .int l1), (2, .int x.2.1), (3, .int x.2.2), (4, .int l4)] []) (hl : lp nf (fX10_change_40 l1 l4) s0 = some x) : V p l e 9 1 s m args below meth c Q KC 395 g B 6 1 s0.1 40 [(0, .ref (gA g 0)), (1, .int l1), (2, .int s0.2.1), (3, .int s0.2.2.1), (4, .int l4), (5, .int s0.2.2.2)] [] := by
  refine lp_ind (P := fun s0 => V p l e 9 1 s m args below meth c Q KC 395 g B 6 1 s0.1 40 [(0, .ref (gA g 0)), (1, .int l1), (2, .int s0.2.1), (3, .int s0.2.2.1), (4, .int l4), (5, .int s0.2.2.2)] []) ?_ nf s0 hl
  intro s1 y hf hk hx
  have hx0 : ∀ v : (ST × Int32 × Int32), y = Sum.inr v → V p l e 9 1 s m args below meth c Q KC 395 g B 6 1 v.1 95 [(0, .ref (gA g 0)), (1, .int l1), (2, .int v.2.1), (3, .int v.2.2), (4, .int l4)] [] := fun v e9 => by rw [hx v e9]; exact hX0
  unfold fX10_change_40 at hf
  refine v_iload (pc := 40) (j := 5) F dX10_change_40 rfl ?_
  refine v_aload_n (pc := 42) (j := 0) F dX10_change_42 rfl rfl ?_
  obtain ⟨f8, e9, hf⟩ := bnd_some hf
  obtain ⟨ho_f8, hk_f8, e9⟩ := rf_in e9
  refine v_ifl (pc := 43) F fl_X10_23 dX10_change_43 kc_0.1 kc_0.2 (fv_9_3 e9) ?_
  refine v_ifl (pc := 46) F fl_X10_113 dX10_change_46 ho_f8 hk_f8 fv_1_13 ?_
  refine v_icmp_ge (pc := 49) (tgt := 95) F dX10_change_49 (by decide) (fun c10 => ?_) (fun c10 => ?_)
  · have hf := ite_t hf c10
    refine V.sub (lv' := [(0, .ref (gA g 0)), (1, .int l1), (2, .int s1.2.1), (3, .int s1.2.2.1), (4, .int l4)]) [0, 1, 2, 3, 4] rfl ?_
    exact hx0 (s1.1, s1.2.1, s1.2.2.1) (Option.some.inj hf).symm
  · have hf := ite_f hf c10
    refine v_aload_n (pc := 52) (j := 0) F dX10_change_52 rfl rfl ?_
    refine v_iload (pc := 53) (j := 4) F dX10_change_53 rfl ?_
    refine v_iload (pc := 55) (j := 5) F dX10_change_55 rfl ?_
    refine v_iload_n (pc := 57) (j := 1) F dX10_change_57 rfl rfl ?_
    obtain ⟨r11, e12, hf⟩ := bnd_some hf
    refine v_callVv (pc := 58) (As := [.int l4, .int s1.2.2.2, .int l1]) F cl_X10_244 dX10_change_58 (kX10_tryChange e12) kc_0.1 kc_0.2 rc_9 rfl rfl (Nat.le_of_ble_eq_true rfl) (by decide) (by decide) ?_
    refine v_aload_n (pc := 61) (j := 0) F dX10_change_61 rfl rfl ?_
    refine v_ifl (pc := 62) F fl_X10_56 dX10_change_62 kc_0.1 kc_0.2 fv_9_9 ?_
    refine v_ifl (pc := 65) F fl_X10_134 dX10_change_65 kc_386.1 kc_386.2 fv_7_1 ?_
    refine v_iload_n (pc := 68) (j := 2) F dX10_change_68 rfl rfl ?_
    refine v_icmp_le (pc := 69) (tgt := 89) F dX10_change_69 (by decide) (fun c13 => ?_) (fun c13 => ?_)
    · have hf := ite_t hf c13
      exact tX10_change_89 F hk hx0 hf
    · have hf := ite_f hf c13
      refine v_aload_n (pc := 72) (j := 0) F dX10_change_72 rfl rfl ?_
      refine v_ifl (pc := 73) F fl_X10_56 dX10_change_73 kc_0.1 kc_0.2 fv_9_9 ?_
      refine v_ifl (pc := 76) F fl_X10_134 dX10_change_76 kc_386.1 kc_386.2 fv_7_1 ?_
      refine v_istore_n (pc := 79) (lv' := [(0, .ref (gA g 0)), (1, .int l1), (2, .int (r11 386 1)), (3, .int s1.2.2.1), (4, .int l4), (5, .int s1.2.2.2)]) F dX10_change_79 rfl (by decide) rfl ?_
      refine v_bipush (pc := 80) (v := 10) F dX10_change_80 bp_10 ?_
      refine v_iload (pc := 82) (j := 4) F dX10_change_82 rfl ?_
      refine v_imul (pc := 84) F dX10_change_84 ?_
      refine v_iload (pc := 85) (j := 5) F dX10_change_85 rfl ?_
      refine v_iadd (pc := 87) F dX10_change_87 ?_
      refine v_istore_n (pc := 88) (lv' := [(0, .ref (gA g 0)), (1, .int l1), (2, .int (r11 386 1)), (3, .int ((10 * l4) + s1.2.2.2)), (4, .int l4), (5, .int s1.2.2.2)]) F dX10_change_88 rfl (by decide) rfl ?_
      exact tX10_change_89 F hk hx0 hf
set_option maxRecDepth 100000 in
set_option maxHeartbeats 4000000 in
theorem tX10_change_22 {p : Program} {l : Launch} {e : Env} {s : State} {m : MethodId} {args : Array Value} {below : List Frame} {meth : Method} {c : Code} {g : GE} {B : Nat}   {l1 : Int32} {Q : State → Prop} {x : (ST × Int32)} {nf : Nat} {s0 : (ST × Int32 × Int32 × Int32)} (F : Fx p s m args meth c cX10_change 6 "DustParish" 395 g B) (hX0 : V p l e 9 1 s m args below meth c Q KC 395 g B 6 1 x.1 101 [(3, .int x.2)] []) (hl : lp nf (fX10_change_22 l1) s0 = some x) : V p l e 9 1 s m args below meth c Q KC 395 g B 6 1 s0.1 22 [(0, .ref (gA g 0)), (1, .int l1), (2, .int s0.2.1), (3, .int s0.2.2.1), (4, .int s0.2.2.2)] [] := by
  refine lp_ind (P := fun s0 => V p l e 9 1 s m args below meth c Q KC 395 g B 6 1 s0.1 22 [(0, .ref (gA g 0)), (1, .int l1), (2, .int s0.2.1), (3, .int s0.2.2.1), (4, .int s0.2.2.2)] []) ?_ nf s0 hl
  intro s1 y hf hk hx
  have hx0 : ∀ v : (ST × Int32), y = Sum.inr v → V p l e 9 1 s m args below meth c Q KC 395 g B 6 1 v.1 101 [(3, .int v.2)] [] := fun v e9 => by rw [hx v e9]; exact hX0
  unfold fX10_change_22 at hf
  refine v_iload (pc := 22) (j := 4) F dX10_change_22 rfl ?_
  refine v_aload_n (pc := 24) (j := 0) F dX10_change_24 rfl rfl ?_
  obtain ⟨f5, e6, hf⟩ := bnd_some hf
  obtain ⟨ho_f5, hk_f5, e6⟩ := rf_in e6
  refine v_ifl (pc := 25) F fl_X10_23 dX10_change_25 kc_0.1 kc_0.2 (fv_9_3 e6) ?_
  refine v_ifl (pc := 28) F fl_X10_113 dX10_change_28 ho_f5 hk_f5 fv_1_13 ?_
  refine v_icmp_ge (pc := 31) (tgt := 101) F dX10_change_31 (by decide) (fun c7 => ?_) (fun c7 => ?_)
  · have hf := ite_t hf c7
    refine V.sub (lv' := [(3, .int s1.2.2.1)]) [3] rfl ?_
    exact hx0 (s1.1, s1.2.2.1) (Option.some.inj hf).symm
  · have hf := ite_f hf c7
    refine v_iload (pc := 34) (j := 4) F dX10_change_34 rfl ?_
    refine v_iconst (pc := 36) (v := 1) F dX10_change_36 ic_1 ?_
    refine v_iadd (pc := 37) F dX10_change_37 ?_
    refine v_istore (pc := 38) (lv' := [(0, .ref (gA g 0)), (1, .int l1), (2, .int s1.2.1), (3, .int s1.2.2.1), (4, .int s1.2.2.2), (5, .int (s1.2.2.2 + 1))]) F dX10_change_38 (by decide) rfl ?_
    obtain ⟨x14, e15, hf⟩ := bnd_some hf
    refine tX10_change_40 (s0 := (s1.1, s1.2.1, s1.2.2.1, s1.2.2.2 + 1)) F ?_ e15
    refine v_iinc (pc := 95) (j := 4) (v := s1.2.2.2 + 1) (lv' := [(0, .ref (gA g 0)), (1, .int l1), (2, .int x14.2.1), (3, .int x14.2.2), (4, .int (s1.2.2.2 + 1))]) F dX10_change_95 rfl (congrArg (fun z => s1.2.2.2 + z) ic_1) (by decide) rfl ?_
    refine v_goto (pc := 98) (tgt := 22) F dX10_change_98 (by decide) ?_
    exact hk (x14.1, x14.2.1, x14.2.2, s1.2.2.2 + 1) (Option.some.inj hf).symm
set_option maxRecDepth 100000 in
set_option maxHeartbeats 4000000 in
theorem kX10_change {l : Launch} {g : GE} {B : Nat} {h : ST} {a1 : Int32} {y : (Int32 ⊕ Nat) × ST} (hT : l.stackTraces = false) (hf : fX10_change h a1 = some y) : XT l yX10_change cX10_change 6 (some .int) 9 1 KC 395 g B [.ref (gA g 0), .int a1] h (ocI y.1) y.2 := by
  refine XT.of pn_X10 (Nat.le_of_ble_eq_true rfl) ?_
  intro p e s m below meth c hr hex F
  have F : Fx p s m _ meth c cX10_change 6 "DustParish" 395 g B := F
  refine V_lv (lv' := [(0, .ref (gA g 0)), (1, .int a1)]) rfl ?_
  unfold fX10_change at hf
  refine v_iload_n (pc := 0) (j := 1) F dX10_change_0 rfl rfl ?_
  obtain ⟨r1, e2, hf⟩ := bnd_some hf
  rcases r1 with v9 | r1
  · have hf := sm_l hf
    refine v_xcallS (pc := 1) (As := [.int a1]) F cl_X10_235 dX10_change_1 (kX10_needAhead hT e2) rfl rfl (Nat.le_of_ble_eq_true rfl) (by decide) (by decide) ?_
    refine v_aload_n (pc := 4) (j := 0) F dX10_change_4 rfl rfl ?_
    refine v_iload_n (pc := 5) (j := 1) F dX10_change_5 rfl rfl ?_
    obtain ⟨r3, e4, hf⟩ := bnd_some hf
    refine v_callVv (pc := 6) (As := [.int a1]) F cl_X10_238 dX10_change_6 (kX10_tryDays e4) kc_0.1 kc_0.2 rc_9 rfl rfl (Nat.le_of_ble_eq_true rfl) (by decide) (by decide) ?_
    refine v_aload_n (pc := 9) (j := 0) F dX10_change_9 rfl rfl ?_
    refine v_ifl (pc := 10) F fl_X10_56 dX10_change_10 kc_0.1 kc_0.2 fv_9_9 ?_
    refine v_ifl (pc := 13) F fl_X10_134 dX10_change_13 kc_386.1 kc_386.2 fv_7_1 ?_
    refine v_istore_n (pc := 16) (lv' := [(0, .ref (gA g 0)), (1, .int a1), (2, .int (r3 386 1))]) F dX10_change_16 rfl (by decide) rfl ?_
    refine v_iconst (pc := 17) (v := (-1)) F dX10_change_17 ic_m1 ?_
    refine v_istore_n (pc := 18) (lv' := [(0, .ref (gA g 0)), (1, .int a1), (2, .int (r3 386 1)), (3, .int (-1))]) F dX10_change_18 rfl (by decide) rfl ?_
    refine v_iconst (pc := 19) (v := 0) F dX10_change_19 ic_0 ?_
    refine v_istore (pc := 20) (lv' := [(0, .ref (gA g 0)), (1, .int a1), (2, .int (r3 386 1)), (3, .int (-1)), (4, .int 0)]) F dX10_change_20 (by decide) rfl ?_
    obtain ⟨x16, e17, hf⟩ := bnd_some hf
    refine tX10_change_22 (s0 := (r3, r3 386 1, (-1), 0)) F ?_ e17
    refine v_iload_n (pc := 101) (j := 0) F dX10_change_101 rfl rfl ?_
    exact v_xiret (pc := 102) F hr dX10_change_102 (some_fst hf) (some_snd hf) (by decide)
  · have hf := sm_r hf
    exact v_xcallSX (pc := 1) (As := [.int a1]) F cl_X10_235 dX10_change_1 (kX10_needAhead hT e2) rfl rfl (Nat.le_of_ble_eq_true rfl) (by decide) (by decide) hex (congrArg ocI (some_fst hf)) (some_snd hf)
def fX1_dustInAll_4 (h : ST) (o1 : Nat) (o2 : Nat) (s1 : (Int32 × Int32)) : Option ((Int32 × Int32) ⊕ Int32) :=
  if (h o1 0) ≤ s1.2 then
  some (.inr s1.1)
  else
  bnd (rd 9 (h (o2 + 1)) s1.2) fun v2 =>
    some (.inl (s1.1 + v2, s1.2 + 1))
def fX1_dustInAll (h : ST) (o1 : Nat) (o2 : Nat) : Option (Int32) :=
  bnd (lp FU (fX1_dustInAll_4 h o1 o2) (0, 0)) fun x4 =>
  some x4
set_option maxRecDepth 100000 in
set_option maxHeartbeats 4000000 in
theorem tX1_dustInAll_4 {p : Program} {l : Launch} {e : Env} {s : State} {m : MethodId} {args : Array Value} {below : List Frame} {meth : Method} {c : Code} {g : GE} {B : Nat}  {h : ST} {o1 : Nat} (ho_o1 : o1 < 395) (hk_o1 : KC o1 = (1, 0)) {o2 : Nat} (ho_o2 : o2 < 395) (hk_o2 : KC o2 = (7, 0)) {Q : State → Prop} {x : Int32} {nf : Nat} {s0 : (Int32 × Int32)} (F : Fx p s m args meth c cX1_dustInAll 4 "DustParish$Course" 395 g B) (hX0 : V p l e 1 0 s m args below meth c Q KC 395 g B 4 0 h 27 [(2, .int x)] []) (hl : lp nf (fX1_dustInAll_4 h o1 o2) s0 = some x) : V p l e 1 0 s m args below meth c Q KC 395 g B 4 0 h 4 [(0, .ref (gA g o1)), (1, .ref (gA g o2)), (2, .int s0.1), (3, .int s0.2)] [] := by
  refine lp_ind (P := fun s0 => V p l e 1 0 s m args below meth c Q KC 395 g B 4 0 h 4 [(0, .ref (gA g o1)), (1, .ref (gA g o2)), (2, .int s0.1), (3, .int s0.2)] []) ?_ nf s0 hl
  intro s1 y hf hk hx
  have hx0 : ∀ v : Int32, y = Sum.inr v → V p l e 1 0 s m args below meth c Q KC 395 g B 4 0 h 27 [(2, .int v)] [] := fun v e9 => by rw [hx v e9]; exact hX0
  unfold fX1_dustInAll_4 at hf
  refine v_iload_n (pc := 4) (j := 3) F dX1_dustInAll_4 rfl rfl ?_
  refine v_aload_n (pc := 5) (j := 0) F dX1_dustInAll_5 rfl rfl ?_
  refine v_ifl (pc := 6) F fl_X1_37 dX1_dustInAll_6 ho_o1 hk_o1 fv_1_0 ?_
  refine v_icmp_ge (pc := 9) (tgt := 27) F dX1_dustInAll_9 (by decide) (fun c1 => ?_) (fun c1 => ?_)
  · have hf := ite_t hf c1
    refine V.sub (lv' := [(2, .int s1.1)]) [2] rfl ?_
    exact hx0 s1.1 (Option.some.inj hf).symm
  · have hf := ite_f hf c1
    refine v_iload_n (pc := 12) (j := 2) F dX1_dustInAll_12 rfl rfl ?_
    refine v_aload_n (pc := 13) (j := 1) F dX1_dustInAll_13 rfl rfl ?_
    refine v_ifl (pc := 14) F fl_X1_62 dX1_dustInAll_14 ho_o2 hk_o2 fv_7_3 ?_
    refine v_iload_n (pc := 17) (j := 3) F dX1_dustInAll_17 rfl rfl ?_
    obtain ⟨v2, e3, hf⟩ := bnd_some hf
    refine v_iald (pc := 18) F dX1_dustInAll_18 (ly_7_3 ho_o2 hk_o2).1 (ly_7_3 ho_o2 hk_o2).2 e3 ?_
    refine v_iadd (pc := 19) F dX1_dustInAll_19 ?_
    refine v_istore_n (pc := 20) (lv' := [(0, .ref (gA g o1)), (1, .ref (gA g o2)), (2, .int (s1.1 + v2)), (3, .int s1.2)]) F dX1_dustInAll_20 rfl (by decide) rfl ?_
    refine v_iinc (pc := 21) (j := 3) (v := s1.2 + 1) (lv' := [(0, .ref (gA g o1)), (1, .ref (gA g o2)), (2, .int (s1.1 + v2)), (3, .int (s1.2 + 1))]) F dX1_dustInAll_21 rfl (congrArg (fun z => s1.2 + z) ic_1) (by decide) rfl ?_
    refine v_goto (pc := 24) (tgt := 4) F dX1_dustInAll_24 (by decide) ?_
    exact hk (s1.1 + v2, s1.2 + 1) (Option.some.inj hf).symm
set_option maxRecDepth 100000 in
set_option maxHeartbeats 4000000 in
theorem kX1_dustInAll {l : Launch} {g : GE} {B : Nat} {h : ST} {o1 : Nat} (ho_o1 : o1 < 395) (hk_o1 : KC o1 = (1, 0)) {o2 : Nat} (ho_o2 : o2 < 395) (hk_o2 : KC o2 = (7, 0)) {y : Int32} (hf : fX1_dustInAll h o1 o2 = some y) : CT l yX1_dustInAll cX1_dustInAll 4 (some .int) 1 KC 395 g B [.ref (gA g o1), .ref (gA g o2)] h (some (.int y)) h := by
  refine CT.of pn_X1 (Nat.le_of_ble_eq_true rfl) ?_
  intro p e s m below meth c hr F
  have F : Fx p s m _ meth c cX1_dustInAll 4 "DustParish$Course" 395 g B := F
  refine V_lv (lv' := [(0, .ref (gA g o1)), (1, .ref (gA g o2))]) rfl ?_
  unfold fX1_dustInAll at hf
  refine v_iconst (pc := 0) (v := 0) F dX1_dustInAll_0 ic_0 ?_
  refine v_istore_n (pc := 1) (lv' := [(0, .ref (gA g o1)), (1, .ref (gA g o2)), (2, .int 0)]) F dX1_dustInAll_1 rfl (by decide) rfl ?_
  refine v_iconst (pc := 2) (v := 0) F dX1_dustInAll_2 ic_0 ?_
  refine v_istore_n (pc := 3) (lv' := [(0, .ref (gA g o1)), (1, .ref (gA g o2)), (2, .int 0), (3, .int 0)]) F dX1_dustInAll_3 rfl (by decide) rfl ?_
  obtain ⟨x4, e5, hf⟩ := bnd_some hf
  refine tX1_dustInAll_4 (s0 := (0, 0)) ho_o1 hk_o1 ho_o2 hk_o2 F ?_ e5
  refine v_iload_n (pc := 27) (j := 0) F dX1_dustInAll_27 rfl rfl ?_
  exact v_iret (pc := 28) F hr dX1_dustInAll_28 (Option.some.inj hf) rfl (Nat.zero_le _)
def fX1_heretics_32 (h : ST) (o1 : Nat) (o2 : Nat) (l2 : Int32) (l3 : Int32) : Option ((Int32 × Int32) ⊕ Int32) :=
  some (.inl (l2, l3 + 1))
def fX1_heretics_4 (h : ST) (o1 : Nat) (o2 : Nat) (s1 : (Int32 × Int32)) : Option ((Int32 × Int32) ⊕ Int32) :=
  if (h o1 0) ≤ s1.2 then
  some (.inr s1.1)
  else
  bnd (fX1_isUnclean h o1 o2 s1.2) fun r2 =>
    if r2 = 0 then
    fX1_heretics_32 h o1 o2 s1.1 s1.2
    else
    bnd (rd 9 (h (o1 + 2)) s1.2) fun v5 =>
      fX1_heretics_32 h o1 o2 (s1.1 ||| ((1 : Int32) <<< (v5 &&& 31))) s1.2
def fX1_heretics (h : ST) (o1 : Nat) (o2 : Nat) : Option (Int32) :=
  bnd (lp FU (fX1_heretics_4 h o1 o2) (0, 0)) fun x7 =>
  some x7
set_option maxRecDepth 100000 in
set_option maxHeartbeats 4000000 in
theorem tX1_heretics_32 {p : Program} {l : Launch} {e : Env} {s : State} {m : MethodId} {args : Array Value} {below : List Frame} {meth : Method} {c : Code} {g : GE} {B : Nat} {h : ST} {o1 : Nat} (ho_o1 : o1 < 395) (hk_o1 : KC o1 = (1, 0)) {o2 : Nat} (ho_o2 : o2 < 395) (hk_o2 : KC o2 = (7, 0)) {l2 : Int32} {l3 : Int32} (F : Fx p s m args meth c cX1_heretics 4 "DustParish$Course" 395 g B)
    {Q : State → Prop} {y : (Int32 × Int32) ⊕ Int32} (hk : ∀ v : (Int32 × Int32), y = Sum.inl v → V p l e 2 0 s m args below meth c Q KC 395 g B 4 0 h 4 [(0, .ref (gA g o1)), (1, .ref (gA g o2)), (2, .int v.1), (3, .int v.2)] []) (hx0 : ∀ v : Int32, y = Sum.inr v → V p l e 2 0 s m args below meth c Q KC 395 g B 4 0 h 38 [(2, .int v)] []) (hf : fX1_heretics_32 h o1 o2 l2 l3 = some y) : V p l e 2 0 s m args below meth c Q KC 395 g B 4 0 h 32 [(0, .ref (gA g o1)), (1, .ref (gA g o2)), (2, .int l2), (3, .int l3)] [] := by
  unfold fX1_heretics_32 at hf
  refine v_iinc (pc := 32) (j := 3) (v := l3 + 1) (lv' := [(0, .ref (gA g o1)), (1, .ref (gA g o2)), (2, .int l2), (3, .int (l3 + 1))]) F dX1_heretics_32 rfl (congrArg (fun z => l3 + z) ic_1) (by decide) rfl ?_
  refine v_goto (pc := 35) (tgt := 4) F dX1_heretics_35 (by decide) ?_
  exact hk (l2, l3 + 1) (Option.some.inj hf).symm
set_option maxRecDepth 100000 in
set_option maxHeartbeats 4000000 in
theorem tX1_heretics_4 {p : Program} {l : Launch} {e : Env} {s : State} {m : MethodId} {args : Array Value} {below : List Frame} {meth : Method} {c : Code} {g : GE} {B : Nat}  {h : ST} {o1 : Nat} (ho_o1 : o1 < 395) (hk_o1 : KC o1 = (1, 0)) {o2 : Nat} (ho_o2 : o2 < 395) (hk_o2 : KC o2 = (7, 0)) {Q : State → Prop} {x : Int32} {nf : Nat} {s0 : (Int32 × Int32)} (F : Fx p s m args meth c cX1_heretics 4 "DustParish$Course" 395 g B) (hX0 : V p l e 2 0 s m args below meth c Q KC 395 g B 4 0 h 38 [(2, .int x)] []) (hl : lp nf (fX1_heretics_4 h o1 o2) s0 = some x) : V p l e 2 0 s m args below meth c Q KC 395 g B 4 0 h 4 [(0, .ref (gA g o1)), (1, .ref (gA g o2)), (2, .int s0.1), (3, .int s0.2)] [] := by
  refine lp_ind (P := fun s0 => V p l e 2 0 s m args below meth c Q KC 395 g B 4 0 h 4 [(0, .ref (gA g o1)), (1, .ref (gA g o2)), (2, .int s0.1), (3, .int s0.2)] []) ?_ nf s0 hl
  intro s1 y hf hk hx
  have hx0 : ∀ v : Int32, y = Sum.inr v → V p l e 2 0 s m args below meth c Q KC 395 g B 4 0 h 38 [(2, .int v)] [] := fun v e9 => by rw [hx v e9]; exact hX0
  unfold fX1_heretics_4 at hf
  refine v_iload_n (pc := 4) (j := 3) F dX1_heretics_4 rfl rfl ?_
  refine v_aload_n (pc := 5) (j := 0) F dX1_heretics_5 rfl rfl ?_
  refine v_ifl (pc := 6) F fl_X1_37 dX1_heretics_6 ho_o1 hk_o1 fv_1_0 ?_
  refine v_icmp_ge (pc := 9) (tgt := 38) F dX1_heretics_9 (by decide) (fun c1 => ?_) (fun c1 => ?_)
  · have hf := ite_t hf c1
    refine V.sub (lv' := [(2, .int s1.1)]) [2] rfl ?_
    exact hx0 s1.1 (Option.some.inj hf).symm
  · have hf := ite_f hf c1
    refine v_aload_n (pc := 12) (j := 0) F dX1_heretics_12 rfl rfl ?_
    refine v_aload_n (pc := 13) (j := 1) F dX1_heretics_13 rfl rfl ?_
    refine v_iload_n (pc := 14) (j := 3) F dX1_heretics_14 rfl rfl ?_
    obtain ⟨r2, e3, hf⟩ := bnd_some hf
    refine v_callSi (pc := 15) (As := [.ref (gA g o1), .ref (gA g o2), .int s1.2]) F cl_X1_121 dX1_heretics_15 (kX1_isUnclean ho_o1 hk_o1 ho_o2 hk_o2 e3) rfl rfl (Nat.le_of_ble_eq_true rfl) (by decide) (Nat.zero_le _) ?_
    refine v_if_eq (pc := 18) (tgt := 32) F dX1_heretics_18 (by decide) (fun c4 => ?_) (fun c4 => ?_)
    · have hf := ite_t hf c4
      exact tX1_heretics_32 ho_o1 hk_o1 ho_o2 hk_o2 F hk hx0 hf
    · have hf := ite_f hf c4
      refine v_iload_n (pc := 21) (j := 2) F dX1_heretics_21 rfl rfl ?_
      refine v_iconst (pc := 22) (v := 1) F dX1_heretics_22 ic_1 ?_
      refine v_aload_n (pc := 23) (j := 0) F dX1_heretics_23 rfl rfl ?_
      refine v_ifl (pc := 24) F fl_X1_103 dX1_heretics_24 ho_o1 hk_o1 fv_1_2 ?_
      refine v_iload_n (pc := 27) (j := 3) F dX1_heretics_27 rfl rfl ?_
      obtain ⟨v5, e6, hf⟩ := bnd_some hf
      refine v_iald (pc := 28) F dX1_heretics_28 (ly_1_2 ho_o1 hk_o1).1 (ly_1_2 ho_o1 hk_o1).2 e6 ?_
      refine v_ishl (pc := 29) F dX1_heretics_29 ?_
      refine v_ior (pc := 30) F dX1_heretics_30 ?_
      refine v_istore_n (pc := 31) (lv' := [(0, .ref (gA g o1)), (1, .ref (gA g o2)), (2, .int (s1.1 ||| ((1 : Int32) <<< (v5 &&& 31)))), (3, .int s1.2)]) F dX1_heretics_31 rfl (by decide) rfl ?_
      exact tX1_heretics_32 ho_o1 hk_o1 ho_o2 hk_o2 F hk hx0 hf
set_option maxRecDepth 100000 in
set_option maxHeartbeats 4000000 in
theorem kX1_heretics {l : Launch} {g : GE} {B : Nat} {h : ST} {o1 : Nat} (ho_o1 : o1 < 395) (hk_o1 : KC o1 = (1, 0)) {o2 : Nat} (ho_o2 : o2 < 395) (hk_o2 : KC o2 = (7, 0)) {y : Int32} (hf : fX1_heretics h o1 o2 = some y) : CT l yX1_heretics cX1_heretics 4 (some .int) 2 KC 395 g B [.ref (gA g o1), .ref (gA g o2)] h (some (.int y)) h := by
  refine CT.of pn_X1 (Nat.le_of_ble_eq_true rfl) ?_
  intro p e s m below meth c hr F
  have F : Fx p s m _ meth c cX1_heretics 4 "DustParish$Course" 395 g B := F
  refine V_lv (lv' := [(0, .ref (gA g o1)), (1, .ref (gA g o2))]) rfl ?_
  unfold fX1_heretics at hf
  refine v_iconst (pc := 0) (v := 0) F dX1_heretics_0 ic_0 ?_
  refine v_istore_n (pc := 1) (lv' := [(0, .ref (gA g o1)), (1, .ref (gA g o2)), (2, .int 0)]) F dX1_heretics_1 rfl (by decide) rfl ?_
  refine v_iconst (pc := 2) (v := 0) F dX1_heretics_2 ic_0 ?_
  refine v_istore_n (pc := 3) (lv' := [(0, .ref (gA g o1)), (1, .ref (gA g o2)), (2, .int 0), (3, .int 0)]) F dX1_heretics_3 rfl (by decide) rfl ?_
  obtain ⟨x7, e8, hf⟩ := bnd_some hf
  refine tX1_heretics_4 (s0 := (0, 0)) ho_o1 hk_o1 ho_o2 hk_o2 F ?_ e8
  refine v_iload_n (pc := 38) (j := 0) F dX1_heretics_38 rfl rfl ?_
  exact v_iret (pc := 39) F hr dX1_heretics_39 (Option.some.inj hf) rfl (Nat.zero_le _)
def fX10_count (h : ST) (a1 : Int32) : Option ((Int32 ⊕ Nat)) :=
  if a1 = 0 then
  bnd (rf KC 395 1 (h 0 3)) fun f2 =>
    some (.inl (h f2 0))
  else
  if a1 = 1 then
  bnd (rf KC 395 1 (h 0 3)) fun f5 =>
    some (.inl (h f5 5))
  else
  if a1 = 2 then
  bnd (rf KC 395 1 (h 0 3)) fun f8 =>
    some (.inl (h f8 8))
  else
  if a1 = 3 then
  bnd (rf KC 395 1 (h 0 3)) fun f11 =>
    some (.inl (h f11 13))
  else
  if a1 = 4 then
  bnd (rf KC 395 1 (h 0 3)) fun f14 =>
    some (.inl (h f14 15))
  else
  if a1 = 5 then
  bnd (rf KC 395 1 (h 0 3)) fun f17 =>
    some (.inl (h f17 16))
  else
  if a1 = 6 then
  some (.inl (h 43 0))
  else
  if a1 = 7 then
  bnd (rf KC 395 1 (h 0 3)) fun f21 =>
    bnd (fX1_dustInAll h f21 43) fun r23 =>
    some (.inl r23)
  else
  if a1 = 8 then
  some (.inl (h 43 1))
  else
  if a1 = 9 then
  some (.inl (h 43 2))
  else
  if a1 = 10 then
  bnd (rf KC 395 1 (h 0 3)) fun f28 =>
    bnd (fX1_heretics h f28 43) fun r30 =>
    some (.inl r30)
  else
  if a1 = 11 then
  some (.inl (h 47 0))
  else
  if a1 = 12 then
  some (.inl (h 209 0))
  else
  if a1 = 13 then
  some (.inl (h 0 1))
  else
  if a1 = 14 then
  bnd (rd 3 (h 213) 0) fun v36 =>
    some (.inl v36)
  else
  if a1 = 15 then
  bnd (rd 3 (h 213) 1) fun v39 =>
    some (.inl v39)
  else
  if a1 = 16 then
  bnd (rd 3 (h 213) 2) fun v42 =>
    some (.inl v42)
  else
  some (.inr 1)
set_option maxRecDepth 100000 in
set_option maxHeartbeats 4000000 in
theorem kX10_count {l : Launch} {g : GE} {B : Nat} {h : ST} {a1 : Int32} {y : (Int32 ⊕ Nat)} (hT : l.stackTraces = false) (hf : fX10_count h a1 = some y) : XT l yX10_count cX10_count 2 (some .int) 8 1 KC 395 g B [.ref (gA g 0), .int a1] h (ocI y) h := by
  refine XT.of pn_X10 (Nat.le_of_ble_eq_true rfl) ?_
  intro p e s m below meth c hr hex F
  have F : Fx p s m _ meth c cX10_count 2 "DustParish" 395 g B := F
  refine V_lv (lv' := [(0, .ref (gA g 0)), (1, .int a1)]) rfl ?_
  unfold fX10_count at hf
  refine v_iload_n (pc := 0) (j := 1) F dX10_count_0 rfl rfl ?_
  by_cases c1 : a1 = 0
  · have hf := ite_t hf c1
    refine v_tabIn (pc := 1) (off := 83) (tgt := 84) F dX10_count_1 (by rw [c1]; decide) (by rw [c1]; decide) (by rw [c1]; rfl) (by decide) ?_
    refine v_aload_n (pc := 84) (j := 0) F dX10_count_84 rfl rfl ?_
    obtain ⟨f2, e3, hf⟩ := bnd_some hf
    obtain ⟨ho_f2, hk_f2, e3⟩ := rf_in e3
    refine v_ifl (pc := 85) F fl_X10_23 dX10_count_85 kc_0.1 kc_0.2 (fv_9_3 e3) ?_
    refine v_ifl (pc := 88) F fl_X10_104 dX10_count_88 ho_f2 hk_f2 fv_1_0 ?_
    exact v_xiret (pc := 91) F hr dX10_count_91 (Option.some.inj hf) rfl (by decide)
  have hf := ite_f hf c1
  by_cases c4 : a1 = 1
  · have hf := ite_t hf c4
    refine v_tabIn (pc := 1) (off := 91) (tgt := 92) F dX10_count_1 (by rw [c4]; decide) (by rw [c4]; decide) (by rw [c4]; rfl) (by decide) ?_
    refine v_aload_n (pc := 92) (j := 0) F dX10_count_92 rfl rfl ?_
    obtain ⟨f5, e6, hf⟩ := bnd_some hf
    obtain ⟨ho_f5, hk_f5, e6⟩ := rf_in e6
    refine v_ifl (pc := 93) F fl_X10_23 dX10_count_93 kc_0.1 kc_0.2 (fv_9_3 e6) ?_
    refine v_ifl (pc := 96) F fl_X10_107 dX10_count_96 ho_f5 hk_f5 fv_1_5 ?_
    exact v_xiret (pc := 99) F hr dX10_count_99 (Option.some.inj hf) rfl (by decide)
  have hf := ite_f hf c4
  by_cases c7 : a1 = 2
  · have hf := ite_t hf c7
    refine v_tabIn (pc := 1) (off := 99) (tgt := 100) F dX10_count_1 (by rw [c7]; decide) (by rw [c7]; decide) (by rw [c7]; rfl) (by decide) ?_
    refine v_aload_n (pc := 100) (j := 0) F dX10_count_100 rfl rfl ?_
    obtain ⟨f8, e9, hf⟩ := bnd_some hf
    obtain ⟨ho_f8, hk_f8, e9⟩ := rf_in e9
    refine v_ifl (pc := 101) F fl_X10_23 dX10_count_101 kc_0.1 kc_0.2 (fv_9_3 e9) ?_
    refine v_ifl (pc := 104) F fl_X10_110 dX10_count_104 ho_f8 hk_f8 fv_1_8 ?_
    exact v_xiret (pc := 107) F hr dX10_count_107 (Option.some.inj hf) rfl (by decide)
  have hf := ite_f hf c7
  by_cases c10 : a1 = 3
  · have hf := ite_t hf c10
    refine v_tabIn (pc := 1) (off := 107) (tgt := 108) F dX10_count_1 (by rw [c10]; decide) (by rw [c10]; decide) (by rw [c10]; rfl) (by decide) ?_
    refine v_aload_n (pc := 108) (j := 0) F dX10_count_108 rfl rfl ?_
    obtain ⟨f11, e12, hf⟩ := bnd_some hf
    obtain ⟨ho_f11, hk_f11, e12⟩ := rf_in e12
    refine v_ifl (pc := 109) F fl_X10_23 dX10_count_109 kc_0.1 kc_0.2 (fv_9_3 e12) ?_
    refine v_ifl (pc := 112) F fl_X10_113 dX10_count_112 ho_f11 hk_f11 fv_1_13 ?_
    exact v_xiret (pc := 115) F hr dX10_count_115 (Option.some.inj hf) rfl (by decide)
  have hf := ite_f hf c10
  by_cases c13 : a1 = 4
  · have hf := ite_t hf c13
    refine v_tabIn (pc := 1) (off := 115) (tgt := 116) F dX10_count_1 (by rw [c13]; decide) (by rw [c13]; decide) (by rw [c13]; rfl) (by decide) ?_
    refine v_aload_n (pc := 116) (j := 0) F dX10_count_116 rfl rfl ?_
    obtain ⟨f14, e15, hf⟩ := bnd_some hf
    obtain ⟨ho_f14, hk_f14, e15⟩ := rf_in e15
    refine v_ifl (pc := 117) F fl_X10_23 dX10_count_117 kc_0.1 kc_0.2 (fv_9_3 e15) ?_
    refine v_ifl (pc := 120) F fl_X10_116 dX10_count_120 ho_f14 hk_f14 fv_1_15 ?_
    exact v_xiret (pc := 123) F hr dX10_count_123 (Option.some.inj hf) rfl (by decide)
  have hf := ite_f hf c13
  by_cases c16 : a1 = 5
  · have hf := ite_t hf c16
    refine v_tabIn (pc := 1) (off := 123) (tgt := 124) F dX10_count_1 (by rw [c16]; decide) (by rw [c16]; decide) (by rw [c16]; rfl) (by decide) ?_
    refine v_aload_n (pc := 124) (j := 0) F dX10_count_124 rfl rfl ?_
    obtain ⟨f17, e18, hf⟩ := bnd_some hf
    obtain ⟨ho_f17, hk_f17, e18⟩ := rf_in e18
    refine v_ifl (pc := 125) F fl_X10_23 dX10_count_125 kc_0.1 kc_0.2 (fv_9_3 e18) ?_
    refine v_ifl (pc := 128) F fl_X10_119 dX10_count_128 ho_f17 hk_f17 fv_1_16 ?_
    exact v_xiret (pc := 131) F hr dX10_count_131 (Option.some.inj hf) rfl (by decide)
  have hf := ite_f hf c16
  by_cases c19 : a1 = 6
  · have hf := ite_t hf c19
    refine v_tabIn (pc := 1) (off := 131) (tgt := 132) F dX10_count_1 (by rw [c19]; decide) (by rw [c19]; decide) (by rw [c19]; rfl) (by decide) ?_
    refine v_aload_n (pc := 132) (j := 0) F dX10_count_132 rfl rfl ?_
    refine v_ifl (pc := 133) F fl_X10_42 dX10_count_133 kc_0.1 kc_0.2 fv_9_6 ?_
    refine v_ifl (pc := 136) F fl_X10_122 dX10_count_136 kc_42.1 kc_42.2 fv_2_0 ?_
    refine v_ifl (pc := 139) F fl_X10_125 dX10_count_139 kc_43.1 kc_43.2 fv_7_0 ?_
    exact v_xiret (pc := 142) F hr dX10_count_142 (Option.some.inj hf) rfl (by decide)
  have hf := ite_f hf c19
  by_cases c20 : a1 = 7
  · have hf := ite_t hf c20
    refine v_tabIn (pc := 1) (off := 142) (tgt := 143) F dX10_count_1 (by rw [c20]; decide) (by rw [c20]; decide) (by rw [c20]; rfl) (by decide) ?_
    refine v_aload_n (pc := 143) (j := 0) F dX10_count_143 rfl rfl ?_
    obtain ⟨f21, e22, hf⟩ := bnd_some hf
    obtain ⟨ho_f21, hk_f21, e22⟩ := rf_in e22
    refine v_ifl (pc := 144) F fl_X10_23 dX10_count_144 kc_0.1 kc_0.2 (fv_9_3 e22) ?_
    refine v_aload_n (pc := 147) (j := 0) F dX10_count_147 rfl rfl ?_
    refine v_ifl (pc := 148) F fl_X10_42 dX10_count_148 kc_0.1 kc_0.2 fv_9_6 ?_
    refine v_ifl (pc := 151) F fl_X10_122 dX10_count_151 kc_42.1 kc_42.2 fv_2_0 ?_
    obtain ⟨r23, e24, hf⟩ := bnd_some hf
    refine v_callSi (pc := 154) (As := [.ref (gA g f21), .ref (gA g 43)]) F cl_X10_128 dX10_count_154 (kX1_dustInAll ho_f21 hk_f21 kc_43.1 kc_43.2 e24) rfl rfl (Nat.le_of_ble_eq_true rfl) (by decide) (Nat.zero_le _) ?_
    exact v_xiret (pc := 157) F hr dX10_count_157 (Option.some.inj hf) rfl (by decide)
  have hf := ite_f hf c20
  by_cases c25 : a1 = 8
  · have hf := ite_t hf c25
    refine v_tabIn (pc := 1) (off := 157) (tgt := 158) F dX10_count_1 (by rw [c25]; decide) (by rw [c25]; decide) (by rw [c25]; rfl) (by decide) ?_
    refine v_aload_n (pc := 158) (j := 0) F dX10_count_158 rfl rfl ?_
    refine v_ifl (pc := 159) F fl_X10_42 dX10_count_159 kc_0.1 kc_0.2 fv_9_6 ?_
    refine v_ifl (pc := 162) F fl_X10_122 dX10_count_162 kc_42.1 kc_42.2 fv_2_0 ?_
    refine v_ifl (pc := 165) F fl_X10_134 dX10_count_165 kc_43.1 kc_43.2 fv_7_1 ?_
    exact v_xiret (pc := 168) F hr dX10_count_168 (Option.some.inj hf) rfl (by decide)
  have hf := ite_f hf c25
  by_cases c26 : a1 = 9
  · have hf := ite_t hf c26
    refine v_tabIn (pc := 1) (off := 168) (tgt := 169) F dX10_count_1 (by rw [c26]; decide) (by rw [c26]; decide) (by rw [c26]; rfl) (by decide) ?_
    refine v_aload_n (pc := 169) (j := 0) F dX10_count_169 rfl rfl ?_
    refine v_ifl (pc := 170) F fl_X10_42 dX10_count_170 kc_0.1 kc_0.2 fv_9_6 ?_
    refine v_ifl (pc := 173) F fl_X10_122 dX10_count_173 kc_42.1 kc_42.2 fv_2_0 ?_
    refine v_ifl (pc := 176) F fl_X10_137 dX10_count_176 kc_43.1 kc_43.2 fv_7_2 ?_
    exact v_xiret (pc := 179) F hr dX10_count_179 (Option.some.inj hf) rfl (by decide)
  have hf := ite_f hf c26
  by_cases c27 : a1 = 10
  · have hf := ite_t hf c27
    refine v_tabIn (pc := 1) (off := 179) (tgt := 180) F dX10_count_1 (by rw [c27]; decide) (by rw [c27]; decide) (by rw [c27]; rfl) (by decide) ?_
    refine v_aload_n (pc := 180) (j := 0) F dX10_count_180 rfl rfl ?_
    obtain ⟨f28, e29, hf⟩ := bnd_some hf
    obtain ⟨ho_f28, hk_f28, e29⟩ := rf_in e29
    refine v_ifl (pc := 181) F fl_X10_23 dX10_count_181 kc_0.1 kc_0.2 (fv_9_3 e29) ?_
    refine v_aload_n (pc := 184) (j := 0) F dX10_count_184 rfl rfl ?_
    refine v_ifl (pc := 185) F fl_X10_42 dX10_count_185 kc_0.1 kc_0.2 fv_9_6 ?_
    refine v_ifl (pc := 188) F fl_X10_122 dX10_count_188 kc_42.1 kc_42.2 fv_2_0 ?_
    obtain ⟨r30, e31, hf⟩ := bnd_some hf
    refine v_callSi (pc := 191) (As := [.ref (gA g f28), .ref (gA g 43)]) F cl_X10_140 dX10_count_191 (kX1_heretics ho_f28 hk_f28 kc_43.1 kc_43.2 e31) rfl rfl (Nat.le_of_ble_eq_true rfl) (by decide) (Nat.zero_le _) ?_
    exact v_xiret (pc := 194) F hr dX10_count_194 (Option.some.inj hf) rfl (by decide)
  have hf := ite_f hf c27
  by_cases c32 : a1 = 11
  · have hf := ite_t hf c32
    refine v_tabIn (pc := 1) (off := 194) (tgt := 195) F dX10_count_1 (by rw [c32]; decide) (by rw [c32]; decide) (by rw [c32]; rfl) (by decide) ?_
    refine v_aload_n (pc := 195) (j := 0) F dX10_count_195 rfl rfl ?_
    refine v_ifl (pc := 196) F fl_X10_42 dX10_count_196 kc_0.1 kc_0.2 fv_9_6 ?_
    refine v_ifl (pc := 199) F fl_X10_143 dX10_count_199 kc_42.1 kc_42.2 fv_2_1 ?_
    refine v_ifl (pc := 202) F fl_X10_147 dX10_count_202 kc_47.1 kc_47.2 fv_0_0 ?_
    exact v_xiret (pc := 205) F hr dX10_count_205 (Option.some.inj hf) rfl (by decide)
  have hf := ite_f hf c32
  by_cases c33 : a1 = 12
  · have hf := ite_t hf c33
    refine v_tabIn (pc := 1) (off := 205) (tgt := 206) F dX10_count_1 (by rw [c33]; decide) (by rw [c33]; decide) (by rw [c33]; rfl) (by decide) ?_
    refine v_aload_n (pc := 206) (j := 0) F dX10_count_206 rfl rfl ?_
    refine v_ifl (pc := 207) F fl_X10_42 dX10_count_207 kc_0.1 kc_0.2 fv_9_6 ?_
    refine v_ifl (pc := 210) F fl_X10_152 dX10_count_210 kc_42.1 kc_42.2 fv_2_2 ?_
    refine v_ifl (pc := 213) F fl_X10_156 dX10_count_213 kc_209.1 kc_209.2 fv_6_0 ?_
    exact v_xiret (pc := 216) F hr dX10_count_216 (Option.some.inj hf) rfl (by decide)
  have hf := ite_f hf c33
  by_cases c34 : a1 = 13
  · have hf := ite_t hf c34
    refine v_tabIn (pc := 1) (off := 216) (tgt := 217) F dX10_count_1 (by rw [c34]; decide) (by rw [c34]; decide) (by rw [c34]; rfl) (by decide) ?_
    refine v_aload_n (pc := 217) (j := 0) F dX10_count_217 rfl rfl ?_
    refine v_ifl (pc := 218) F fl_X10_13 dX10_count_218 kc_0.1 kc_0.2 fv_9_1 ?_
    exact v_xiret (pc := 221) F hr dX10_count_221 (Option.some.inj hf) rfl (by decide)
  have hf := ite_f hf c34
  by_cases c35 : a1 = 14
  · have hf := ite_t hf c35
    refine v_tabIn (pc := 1) (off := 221) (tgt := 222) F dX10_count_1 (by rw [c35]; decide) (by rw [c35]; decide) (by rw [c35]; rfl) (by decide) ?_
    refine v_aload_n (pc := 222) (j := 0) F dX10_count_222 rfl rfl ?_
    refine v_ifl (pc := 223) F fl_X10_42 dX10_count_223 kc_0.1 kc_0.2 fv_9_6 ?_
    refine v_ifl (pc := 226) F fl_X10_94 dX10_count_226 kc_42.1 kc_42.2 fv_2_3 ?_
    refine v_iconst (pc := 229) (v := 0) F dX10_count_229 ic_0 ?_
    obtain ⟨v36, e37, hf⟩ := bnd_some hf
    refine v_iald (pc := 230) F dX10_count_230 kc_213.1 kc_213.2 e37 ?_
    exact v_xiret (pc := 231) F hr dX10_count_231 (Option.some.inj hf) rfl (by decide)
  have hf := ite_f hf c35
  by_cases c38 : a1 = 15
  · have hf := ite_t hf c38
    refine v_tabIn (pc := 1) (off := 231) (tgt := 232) F dX10_count_1 (by rw [c38]; decide) (by rw [c38]; decide) (by rw [c38]; rfl) (by decide) ?_
    refine v_aload_n (pc := 232) (j := 0) F dX10_count_232 rfl rfl ?_
    refine v_ifl (pc := 233) F fl_X10_42 dX10_count_233 kc_0.1 kc_0.2 fv_9_6 ?_
    refine v_ifl (pc := 236) F fl_X10_94 dX10_count_236 kc_42.1 kc_42.2 fv_2_3 ?_
    refine v_iconst (pc := 239) (v := 1) F dX10_count_239 ic_1 ?_
    obtain ⟨v39, e40, hf⟩ := bnd_some hf
    refine v_iald (pc := 240) F dX10_count_240 kc_213.1 kc_213.2 e40 ?_
    exact v_xiret (pc := 241) F hr dX10_count_241 (Option.some.inj hf) rfl (by decide)
  have hf := ite_f hf c38
  by_cases c41 : a1 = 16
  · have hf := ite_t hf c41
    refine v_tabIn (pc := 1) (off := 241) (tgt := 242) F dX10_count_1 (by rw [c41]; decide) (by rw [c41]; decide) (by rw [c41]; rfl) (by decide) ?_
    refine v_aload_n (pc := 242) (j := 0) F dX10_count_242 rfl rfl ?_
    refine v_ifl (pc := 243) F fl_X10_42 dX10_count_243 kc_0.1 kc_0.2 fv_9_6 ?_
    refine v_ifl (pc := 246) F fl_X10_94 dX10_count_246 kc_42.1 kc_42.2 fv_2_3 ?_
    refine v_iconst (pc := 249) (v := 2) F dX10_count_249 ic_2 ?_
    obtain ⟨v42, e43, hf⟩ := bnd_some hf
    refine v_iald (pc := 250) F dX10_count_250 kc_213.1 kc_213.2 e43 ?_
    exact v_xiret (pc := 251) F hr dX10_count_251 (Option.some.inj hf) rfl (by decide)
  have hf := ite_f hf c41
  have n_c1 : ¬ (a1).toInt = 0 := lv_neT c1 rfl
  have n_c4 : ¬ (a1).toInt = 1 := lv_neT c4 rfl
  have n_c7 : ¬ (a1).toInt = 2 := lv_neT c7 rfl
  have n_c10 : ¬ (a1).toInt = 3 := lv_neT c10 rfl
  have n_c13 : ¬ (a1).toInt = 4 := lv_neT c13 rfl
  have n_c16 : ¬ (a1).toInt = 5 := lv_neT c16 rfl
  have n_c19 : ¬ (a1).toInt = 6 := lv_neT c19 rfl
  have n_c20 : ¬ (a1).toInt = 7 := lv_neT c20 rfl
  have n_c25 : ¬ (a1).toInt = 8 := lv_neT c25 rfl
  have n_c26 : ¬ (a1).toInt = 9 := lv_neT c26 rfl
  have n_c27 : ¬ (a1).toInt = 10 := lv_neT c27 rfl
  have n_c32 : ¬ (a1).toInt = 11 := lv_neT c32 rfl
  have n_c33 : ¬ (a1).toInt = 12 := lv_neT c33 rfl
  have n_c34 : ¬ (a1).toInt = 13 := lv_neT c34 rfl
  have n_c35 : ¬ (a1).toInt = 14 := lv_neT c35 rfl
  have n_c38 : ¬ (a1).toInt = 15 := lv_neT c38 rfl
  have n_c41 : ¬ (a1).toInt = 16 := lv_neT c41 rfl
  refine v_tabOut (pc := 1) (tgt := 252) F dX10_count_1 (by omega) (by decide) ?_
  exact v_throw0 (pc := 252) (E := xNS) F hT xw_NS hex dX10_count_252 dX10_count_255 dX10_count_256 dX10_count_259 (congrArg ocI (Option.some.inj hf)) rfl (by decide) (Nat.le_of_ble_eq_true rfl) (by decide)
def fX10_refuse (h : ST) (a1 : Int32) : Option (Int32 × ST) :=
  bnd (rd 3 (h 213) a1) fun v1 =>
  bnd (wr 3 h 213 a1 (v1 + 1)) fun h3 =>
  some ((-1), h3)
set_option maxRecDepth 100000 in
set_option maxHeartbeats 4000000 in
theorem kX10_refuse {l : Launch} {g : GE} {B : Nat} {h : ST} {a1 : Int32} {y : Int32 × ST} (hf : fX10_refuse h a1 = some y) : CT l yX10_refuse cX10_refuse 2 (some .int) 1 KC 395 g B [.ref (gA g 0), .int a1] h (some (.int y.1)) y.2 := by
  refine CT.of pn_X10 (Nat.le_of_ble_eq_true rfl) ?_
  intro p e s m below meth c hr F
  have F : Fx p s m _ meth c cX10_refuse 2 "DustParish" 395 g B := F
  refine V_lv (lv' := [(0, .ref (gA g 0)), (1, .int a1)]) rfl ?_
  unfold fX10_refuse at hf
  refine v_aload_n (pc := 0) (j := 0) F dX10_refuse_0 rfl rfl ?_
  refine v_ifl (pc := 1) F fl_X10_42 dX10_refuse_1 kc_0.1 kc_0.2 fv_9_6 ?_
  refine v_ifl (pc := 4) F fl_X10_94 dX10_refuse_4 kc_42.1 kc_42.2 fv_2_3 ?_
  refine v_iload_n (pc := 7) (j := 1) F dX10_refuse_7 rfl rfl ?_
  refine v_dup2_11 (pc := 8) F dX10_refuse_8 rfl rfl ?_
  obtain ⟨v1, e2, hf⟩ := bnd_some hf
  refine v_iald (pc := 9) F dX10_refuse_9 kc_213.1 kc_213.2 e2 ?_
  refine v_iconst (pc := 10) (v := 1) F dX10_refuse_10 ic_1 ?_
  refine v_iadd (pc := 11) F dX10_refuse_11 ?_
  obtain ⟨h3, e4, hf⟩ := bnd_some hf
  refine v_iast (pc := 12) F dX10_refuse_12 kc_213.1 kc_213.2 e4 ?_
  refine v_iconst (pc := 13) (v := (-1)) F dX10_refuse_13 ic_m1 ?_
  exact v_iret (pc := 14) F hr dX10_refuse_14 (some_fst hf) (some_snd hf) (Nat.zero_le _)
def fX0_remember_32 (h : ST) (o : Nat) (o1 : Nat)  : Option (ST) :=
  bnd (bst (o + 1) (((h o 1) + (h o 0)) - ((h o 1) + (h o 0)) / 40 * 40)) fun f2 =>
  bnd (fX8_copy h f2 o1) fun r4 =>
  bnd (pw r4 o 0 ((r4 o 0) + 1)) fun h6 =>
  some h6
def fX0_remember (h : ST) (o : Nat) (o1 : Nat) : Option (ST) :=
  if (h o 0) = 40 then
  bnd (pw h o 1 (((h o 1) + 1) - ((h o 1) + 1) / 40 * 40)) fun h8 =>
    bnd (pw h8 o 0 ((h8 o 0) - 1)) fun h10 =>
    fX0_remember_32 h10 o o1 
  else
  fX0_remember_32 h o o1 
set_option maxRecDepth 100000 in
set_option maxHeartbeats 4000000 in
theorem tX0_remember_32 {p : Program} {l : Launch} {e : Env} {s : State} {m : MethodId} {args : Array Value} {below : List Frame} {meth : Method} {c : Code} {g : GE} {B : Nat} {h : ST} {o : Nat} (ho_o : o < 395) (hk_o : KC o = (0, 0)) {o1 : Nat} (ho_o1 : o1 < 395) (hk_o1 : KC o1 = (7, 0)) (F : Fx p s m args meth c cX0_remember 2 "DustParish$Acts" 395 g B)
    {y : ST} (hr : meth.sig.returnType = none) (hf : fX0_remember_32 h o o1  = some y) : V p l e 2 0 s m args below meth c (MQ below (QO KC 395 g none y) args s 0 (6 * 0) (WA 395 g)) KC 395 g B 2 0 h 32 [(0, .ref (gA g o)), (1, .ref (gA g o1))] [] := by
  unfold fX0_remember_32 at hf
  refine v_aload_n (pc := 32) (j := 0) F dX0_remember_32 rfl rfl ?_
  refine v_ifl (pc := 33) F fl_X0_20 dX0_remember_33 ho_o hk_o fv_0_2 ?_
  refine v_aload_n (pc := 36) (j := 0) F dX0_remember_36 rfl rfl ?_
  refine v_ifl (pc := 37) F fl_X0_15 dX0_remember_37 ho_o hk_o fv_0_1 ?_
  refine v_aload_n (pc := 40) (j := 0) F dX0_remember_40 rfl rfl ?_
  refine v_ifl (pc := 41) F fl_X0_9 dX0_remember_41 ho_o hk_o fv_0_0 ?_
  refine v_iadd (pc := 44) F dX0_remember_44 ?_
  refine v_bipush (pc := 45) (v := 40) F dX0_remember_45 bp_40 ?_
  refine v_irem (pc := 47) F dX0_remember_47 (by decide) ?_
  obtain ⟨f2, e3, hf⟩ := bnd_some hf
  obtain ⟨ho_f2, hk_f2, hv_f2, e3⟩ := bst_in (ly_0_2 ho_o hk_o).1 (ly_0_2 ho_o hk_o).2 e3
  refine v_aald (pc := 48) (v := .ref (gA g f2)) F dX0_remember_48 (ly_0_2 ho_o hk_o).1 (ly_0_2 ho_o hk_o).2 (by decide) (by decide) hv_f2 (av23 e3) ?_
  refine v_aload_n (pc := 49) (j := 1) F dX0_remember_49 rfl rfl ?_
  obtain ⟨r4, e5, hf⟩ := bnd_some hf
  refine v_callVv (pc := 50) (As := [.ref (gA g o1)]) F cl_X0_25 dX0_remember_50 (kX8_copy ho_f2 hk_f2 ho_o1 hk_o1 e5) ho_f2 hk_f2 rc_7 rfl rfl (Nat.le_of_ble_eq_true rfl) (by decide) (Nat.zero_le _) ?_
  refine v_aload_n (pc := 53) (j := 0) F dX0_remember_53 rfl rfl ?_
  refine v_dup (pc := 54) F dX0_remember_54 rfl ?_
  refine v_ifl (pc := 55) F fl_X0_9 dX0_remember_55 ho_o hk_o fv_0_0 ?_
  refine v_iconst (pc := 58) (v := 1) F dX0_remember_58 ic_1 ?_
  refine v_iadd (pc := 59) F dX0_remember_59 ?_
  obtain ⟨h6, e7, hf⟩ := bnd_some hf
  refine v_pfl (pc := 60) F fl_X0_9 pl_0_0 dX0_remember_60 ho_o hk_o fv_0_0 rfl rfl e7 ?_
  exact v_vret (pc := 63) F hr dX0_remember_63 (Option.some.inj hf) (Nat.zero_le _)
set_option maxRecDepth 100000 in
set_option maxHeartbeats 4000000 in
theorem kX0_remember {l : Launch} {g : GE} {B : Nat} {h : ST} {o : Nat} (ho_o : o < 395) (hk_o : KC o = (0, 0)) {o1 : Nat} (ho_o1 : o1 < 395) (hk_o1 : KC o1 = (7, 0)) {y : ST} (hf : fX0_remember h o o1 = some y) : CT l yX0_remember cX0_remember 2 none 2 KC 395 g B [.ref (gA g o), .ref (gA g o1)] h none y := by
  refine CT.of pn_X0 (Nat.le_of_ble_eq_true rfl) ?_
  intro p e s m below meth c hr F
  have F : Fx p s m _ meth c cX0_remember 2 "DustParish$Acts" 395 g B := F
  refine V_lv (lv' := [(0, .ref (gA g o)), (1, .ref (gA g o1))]) rfl ?_
  unfold fX0_remember at hf
  refine v_aload_n (pc := 0) (j := 0) F dX0_remember_0 rfl rfl ?_
  refine v_ifl (pc := 1) F fl_X0_9 dX0_remember_1 ho_o hk_o fv_0_0 ?_
  refine v_bipush (pc := 4) (v := 40) F dX0_remember_4 bp_40 ?_
  refine v_icmp_ne (pc := 6) (tgt := 32) F dX0_remember_6 (by decide) (fun c1 => ?_) (fun c1 => ?_)
  · have hf := ite_f hf c1
    exact tX0_remember_32 ho_o hk_o ho_o1 hk_o1 F hr hf
  · have hf := ite_t hf c1
    refine v_aload_n (pc := 9) (j := 0) F dX0_remember_9 rfl rfl ?_
    refine v_aload_n (pc := 10) (j := 0) F dX0_remember_10 rfl rfl ?_
    refine v_ifl (pc := 11) F fl_X0_15 dX0_remember_11 ho_o hk_o fv_0_1 ?_
    refine v_iconst (pc := 14) (v := 1) F dX0_remember_14 ic_1 ?_
    refine v_iadd (pc := 15) F dX0_remember_15 ?_
    refine v_bipush (pc := 16) (v := 40) F dX0_remember_16 bp_40 ?_
    refine v_irem (pc := 18) F dX0_remember_18 (by decide) ?_
    obtain ⟨h8, e9, hf⟩ := bnd_some hf
    refine v_pfl (pc := 19) F fl_X0_15 pl_0_1 dX0_remember_19 ho_o hk_o fv_0_1 rfl rfl e9 ?_
    refine v_aload_n (pc := 22) (j := 0) F dX0_remember_22 rfl rfl ?_
    refine v_dup (pc := 23) F dX0_remember_23 rfl ?_
    refine v_ifl (pc := 24) F fl_X0_9 dX0_remember_24 ho_o hk_o fv_0_0 ?_
    refine v_iconst (pc := 27) (v := 1) F dX0_remember_27 ic_1 ?_
    refine v_isub (pc := 28) F dX0_remember_28 ?_
    obtain ⟨h10, e11, hf⟩ := bnd_some hf
    refine v_pfl (pc := 29) F fl_X0_9 pl_0_0 dX0_remember_29 ho_o hk_o fv_0_0 rfl rfl e11 ?_
    exact tX0_remember_32 ho_o hk_o ho_o1 hk_o1 F hr hf
def fX10_days_29 (h : ST)  : Option (Int32 × ST) :=
  bnd (fX10_refuse h 1) fun r2 =>
  some (r2.1, r2.2)
def fX10_days (h : ST) (a1 : Int32) : Option (Int32 × ST) :=
  if a1 < 1 then
  fX10_days_29 h 
  else
  if 30 < a1 then
    fX10_days_29 h 
    else
    if ((h 43 0) + a1) ≤ 999 then
      bnd (fX0_remember h 47 43) fun r6 =>
        bnd (rf KC 395 1 (r6 0 3)) fun f8 =>
        bnd (fX1_passMany r6 f8 43 a1) fun r10 =>
        some (r10 43 0, r10)
      else
      fX10_days_29 h 
set_option maxRecDepth 100000 in
set_option maxHeartbeats 4000000 in
theorem tX10_days_29 {p : Program} {l : Launch} {e : Env} {s : State} {m : MethodId} {args : Array Value} {below : List Frame} {meth : Method} {c : Code} {g : GE} {B : Nat} {h : ST}  (F : Fx p s m args meth c cX10_days 2 "DustParish" 395 g B)
    {y : Int32 × ST} (hr : meth.sig.returnType = (some .int)) (hf : fX10_days_29 h  = some y) : V p l e 7 0 s m args below meth c (MQ below (QO KC 395 g (some (.int y.1)) y.2) args s 0 (6 * 0) (WA 395 g)) KC 395 g B 2 0 h 29 [(0, .ref (gA g 0))] [] := by
  unfold fX10_days_29 at hf
  refine v_aload_n (pc := 29) (j := 0) F dX10_days_29 rfl rfl ?_
  refine v_iconst (pc := 30) (v := 1) F dX10_days_30 ic_1 ?_
  obtain ⟨r2, e3, hf⟩ := bnd_some hf
  refine v_callVi (pc := 31) (As := [.int 1]) F cl_X10_207 dX10_days_31 (kX10_refuse e3) kc_0.1 kc_0.2 rc_9 rfl rfl (Nat.le_of_ble_eq_true rfl) (by decide) (Nat.zero_le _) ?_
  exact v_iret (pc := 34) F hr dX10_days_34 (some_fst hf) (some_snd hf) (Nat.zero_le _)
set_option maxRecDepth 100000 in
set_option maxHeartbeats 4000000 in
theorem kX10_days {l : Launch} {g : GE} {B : Nat} {h : ST} {a1 : Int32} {y : Int32 × ST} (hf : fX10_days h a1 = some y) : CT l yX10_days cX10_days 2 (some .int) 7 KC 395 g B [.ref (gA g 0), .int a1] h (some (.int y.1)) y.2 := by
  refine CT.of pn_X10 (Nat.le_of_ble_eq_true rfl) ?_
  intro p e s m below meth c hr F
  have F : Fx p s m _ meth c cX10_days 2 "DustParish" 395 g B := F
  refine V_lv (lv' := [(0, .ref (gA g 0)), (1, .int a1)]) rfl ?_
  unfold fX10_days at hf
  refine v_iload_n (pc := 0) (j := 1) F dX10_days_0 rfl rfl ?_
  refine v_iconst (pc := 1) (v := 1) F dX10_days_1 ic_1 ?_
  refine v_icmp_lt (pc := 2) (tgt := 29) F dX10_days_2 (by decide) (fun c1 => ?_) (fun c1 => ?_)
  · have hf := ite_t hf c1
    refine V.sub (lv' := [(0, .ref (gA g 0))]) [0] rfl ?_
    exact tX10_days_29 F hr hf
  · have hf := ite_f hf c1
    refine v_iload_n (pc := 5) (j := 1) F dX10_days_5 rfl rfl ?_
    refine v_bipush (pc := 6) (v := 30) F dX10_days_6 bp_30 ?_
    refine v_icmp_gt (pc := 8) (tgt := 29) F dX10_days_8 (by decide) (fun c4 => ?_) (fun c4 => ?_)
    · have hf := ite_t hf c4
      refine V.sub (lv' := [(0, .ref (gA g 0))]) [0] rfl ?_
      exact tX10_days_29 F hr hf
    · have hf := ite_f hf c4
      refine v_aload_n (pc := 11) (j := 0) F dX10_days_11 rfl rfl ?_
      refine v_ifl (pc := 12) F fl_X10_42 dX10_days_12 kc_0.1 kc_0.2 fv_9_6 ?_
      refine v_ifl (pc := 15) F fl_X10_122 dX10_days_15 kc_42.1 kc_42.2 fv_2_0 ?_
      refine v_ifl (pc := 18) F fl_X10_125 dX10_days_18 kc_43.1 kc_43.2 fv_7_0 ?_
      refine v_iload_n (pc := 21) (j := 1) F dX10_days_21 rfl rfl ?_
      refine v_iadd (pc := 22) F dX10_days_22 ?_
      refine v_sipush (pc := 23) (v := 999) F dX10_days_23 sp_999 ?_
      refine v_icmp_le (pc := 26) (tgt := 35) F dX10_days_26 (by decide) (fun c5 => ?_) (fun c5 => ?_)
      · have hf := ite_t hf c5
        refine v_aload_n (pc := 35) (j := 0) F dX10_days_35 rfl rfl ?_
        refine v_ifl (pc := 36) F fl_X10_42 dX10_days_36 kc_0.1 kc_0.2 fv_9_6 ?_
        refine v_ifl (pc := 39) F fl_X10_143 dX10_days_39 kc_42.1 kc_42.2 fv_2_1 ?_
        refine v_aload_n (pc := 42) (j := 0) F dX10_days_42 rfl rfl ?_
        refine v_ifl (pc := 43) F fl_X10_42 dX10_days_43 kc_0.1 kc_0.2 fv_9_6 ?_
        refine v_ifl (pc := 46) F fl_X10_122 dX10_days_46 kc_42.1 kc_42.2 fv_2_0 ?_
        obtain ⟨r6, e7, hf⟩ := bnd_some hf
        refine v_callVv (pc := 49) (As := [.ref (gA g 43)]) F cl_X10_210 dX10_days_49 (kX0_remember kc_47.1 kc_47.2 kc_43.1 kc_43.2 e7) kc_47.1 kc_47.2 rc_0 rfl rfl (Nat.le_of_ble_eq_true rfl) (by decide) (Nat.zero_le _) ?_
        refine v_aload_n (pc := 52) (j := 0) F dX10_days_52 rfl rfl ?_
        obtain ⟨f8, e9, hf⟩ := bnd_some hf
        obtain ⟨ho_f8, hk_f8, e9⟩ := rf_in e9
        refine v_ifl (pc := 53) F fl_X10_23 dX10_days_53 kc_0.1 kc_0.2 (fv_9_3 e9) ?_
        refine v_aload_n (pc := 56) (j := 0) F dX10_days_56 rfl rfl ?_
        refine v_ifl (pc := 57) F fl_X10_42 dX10_days_57 kc_0.1 kc_0.2 fv_9_6 ?_
        refine v_ifl (pc := 60) F fl_X10_122 dX10_days_60 kc_42.1 kc_42.2 fv_2_0 ?_
        refine v_iload_n (pc := 63) (j := 1) F dX10_days_63 rfl rfl ?_
        obtain ⟨r10, e11, hf⟩ := bnd_some hf
        refine v_callSv (pc := 64) (As := [.ref (gA g f8), .ref (gA g 43), .int a1]) F cl_X10_214 dX10_days_64 (kX1_passMany ho_f8 hk_f8 kc_43.1 kc_43.2 e11) rfl rfl (Nat.le_of_ble_eq_true rfl) (by decide) (Nat.zero_le _) ?_
        refine v_aload_n (pc := 67) (j := 0) F dX10_days_67 rfl rfl ?_
        refine v_ifl (pc := 68) F fl_X10_42 dX10_days_68 kc_0.1 kc_0.2 fv_9_6 ?_
        refine v_ifl (pc := 71) F fl_X10_122 dX10_days_71 kc_42.1 kc_42.2 fv_2_0 ?_
        refine v_ifl (pc := 74) F fl_X10_125 dX10_days_74 kc_43.1 kc_43.2 fv_7_0 ?_
        exact v_iret (pc := 77) F hr dX10_days_77 (some_fst hf) (some_snd hf) (Nat.zero_le _)
      · have hf := ite_f hf c5
        refine V.sub (lv' := [(0, .ref (gA g 0))]) [0] rfl ?_
        exact tX10_days_29 F hr hf
def fX10_draw_18 (h : ST) (q0 : Int32) : Option (Int32) :=
  some q0
def fX10_draw (h : ST) (a1 : Int32) (a2 : Int32) : Option (Int32) :=
  if a2 ≤ 0 then
  fX10_draw_18 h 0
  else
  grd (¬ a2 = 0) (
    fX10_draw_18 h ((((a1.toUInt32 >>> ((16 : Int32).toUInt32 &&& Int32.toUInt32 31)).toInt32) &&& 32767) - (((a1.toUInt32 >>> ((16 : Int32).toUInt32 &&& Int32.toUInt32 31)).toInt32) &&& 32767) / a2 * a2))
set_option maxRecDepth 100000 in
set_option maxHeartbeats 4000000 in
theorem tX10_draw_18 {p : Program} {l : Launch} {e : Env} {s : State} {m : MethodId} {args : Array Value} {below : List Frame} {meth : Method} {c : Code} {g : GE} {B : Nat} {h : ST}  {q0 : Int32} (F : Fx p s m args meth c cX10_draw 2 "DustParish" 395 g B)
    {y : Int32} (hr : meth.sig.returnType = (some .int)) (hf : fX10_draw_18 h q0 = some y) : V p l e 1 0 s m args below meth c (MQ below (QO KC 395 g (some (.int y)) h) args s 0 (6 * 0) (WA 395 g)) KC 395 g B 2 0 h 18 [] [.int q0] := by
  unfold fX10_draw_18 at hf
  exact v_iret (pc := 18) F hr dX10_draw_18 (Option.some.inj hf) rfl (Nat.zero_le _)
set_option maxRecDepth 100000 in
set_option maxHeartbeats 4000000 in
theorem kX10_draw {l : Launch} {g : GE} {B : Nat} {h : ST} {a1 : Int32} {a2 : Int32} {y : Int32} (hf : fX10_draw h a1 a2 = some y) : CT l yX10_draw cX10_draw 2 (some .int) 1 KC 395 g B [.int a1, .int a2] h (some (.int y)) h := by
  refine CT.of pn_X10 (Nat.le_of_ble_eq_true rfl) ?_
  intro p e s m below meth c hr F
  have F : Fx p s m _ meth c cX10_draw 2 "DustParish" 395 g B := F
  refine V_lv (lv' := [(0, .int a1), (1, .int a2)]) rfl ?_
  unfold fX10_draw at hf
  refine v_iload_n (pc := 0) (j := 1) F dX10_draw_0 rfl rfl ?_
  refine v_if_le (pc := 1) (tgt := 17) F dX10_draw_1 (by decide) (fun c1 => ?_) (fun c1 => ?_)
  · have hf := ite_t hf c1
    refine v_iconst (pc := 17) (v := 0) F dX10_draw_17 ic_0 ?_
    refine V.sub (lv' := []) [] rfl ?_
    exact tX10_draw_18 F hr hf
  · have hf := ite_f hf c1
    refine v_iload_n (pc := 4) (j := 0) F dX10_draw_4 rfl rfl ?_
    refine v_bipush (pc := 5) (v := 16) F dX10_draw_5 bp_16 ?_
    refine v_iushr (pc := 7) F dX10_draw_7 rfl ?_
    refine v_sipush (pc := 8) (v := 32767) F dX10_draw_8 sp_32767 ?_
    refine v_iand (pc := 11) F dX10_draw_11 ?_
    refine v_iload_n (pc := 12) (j := 1) F dX10_draw_12 rfl rfl ?_
    obtain ⟨g2, hf⟩ := grd_some hf
    refine v_irem (pc := 13) F dX10_draw_13 g2 ?_
    refine v_goto (pc := 14) (tgt := 18) F dX10_draw_14 (by decide) ?_
    refine V.sub (lv' := []) [] rfl ?_
    exact tX10_draw_18 F hr hf
def fX10_evenest_127 (R : ST → Int32 → Int32 → Int32 → Option (Int32 × ST)) (h : ST) (l1 : Int32) (l2 : Int32) (l4 : Int32) (l5 : Int32) (l6 : Int32) : Option ((ST × Int32 × Int32) ⊕ ((ST × Int32) ⊕ (ST × Int32))) :=
  bnd (rd 4 (h 393) l6) fun v10 =>
  if v10 = 0 then
  some (.inr (.inl (h, l5)))
  else
  some (.inl (h, l5, l6 + 1))
def fX10_evenest_70 (R : ST → Int32 → Int32 → Int32 → Option (Int32 × ST)) (l1 : Int32) (l2 : Int32) (l4 : Int32) (s1 : (ST × Int32 × Int32)) : Option ((ST × Int32 × Int32) ⊕ ((ST × Int32) ⊕ (ST × Int32))) :=
  if l2 ≤ s1.2.2 then
  some (.inr (.inr (s1.1, s1.2.1)))
  else
  bnd (rd 4 (s1.1 393) s1.2.2) fun v7 =>
    if s1.2.1 ≤ (v7 + l4) then
    fX10_evenest_127 R s1.1 l1 l2 l4 s1.2.1 s1.2.2
    else
    bnd (rd 4 (s1.1 393) s1.2.2) fun v13 =>
      bnd (wr 4 s1.1 393 s1.2.2 (v13 + l4)) fun h15 =>
      bnd (R h15 (l1 + 1) l2 s1.2.1) fun r17 =>
      bnd (rd 4 (r17.2 393) s1.2.2) fun v19 =>
      bnd (wr 4 r17.2 393 s1.2.2 (v19 - l4)) fun h21 =>
      fX10_evenest_127 R h21 l1 l2 l4 r17.1 s1.2.2
def fX10_evenest_146 (R : ST → Int32 → Int32 → Int32 → Option (Int32 × ST)) (h : ST) (l5 : Int32) : Option (Int32 × ST) :=
  some (l5, h)
def fX10_evenest_17 (R : ST → Int32 → Int32 → Int32 → Option (Int32 × ST)) (h : ST) (l2 : Int32) (l3 : Int32) (s1 : (Int32 × Int32)) : Option ((Int32 × Int32) ⊕ Int32) :=
  if l2 ≤ s1.2 then
  some (.inr s1.1)
  else
  bnd (rd 4 (h 393) s1.2) fun v26 =>
    some (.inl ((if s1.1 < v26 then v26 else s1.1), s1.2 + 1))
def fX10_evenest_b (R : ST → Int32 → Int32 → Int32 → Option (Int32 × ST)) (h : ST) (a1 : Int32) (a2 : Int32) (a3 : Int32) : Option (Int32 × ST) :=
  bnd (rf KC 395 1 (h 0 3)) fun f1 =>
  if a1 < (h f1 0) then
  bnd (rd 9 (h 44) a1) fun v4 =>
    bnd (lp FU (fX10_evenest_70 R a1 a2 v4) (h, a3, 0)) fun x23 =>
    sm x23 (fun v => fX10_evenest_146 R v.1 v.2) (fun v => fX10_evenest_146 R v.1 v.2)
  else
  bnd (lp FU (fX10_evenest_17 R h a2 a3) (0, 0)) fun x28 =>
    some ((if x28 < a3 then x28 else a3), h)
set_option maxRecDepth 100000 in
set_option maxHeartbeats 4000000 in
theorem tX10_evenest_127 {p : Program} {l : Launch} {e : Env} {s : State} {m : MethodId} {args : Array Value} {below : List Frame} {meth : Method} {c : Code} {g : GE} {B : Nat} {dd : Nat} {R : ST → Int32 → Int32 → Int32 → Option (Int32 × ST)} (hR : ∀ {h : ST} {a1 a2 a3 : Int32} {y : Int32 × ST}, R h a1 a2 a3 = some y → CT l yX10_evenest cX10_evenest 7 (some .int) (2 + 1 * dd) KC 395 g B [.ref (gA g 0), .int a1, .int a2, .int a3] h (some (.int y.1)) y.2) {h : ST}  {l1 : Int32} {l2 : Int32} {l4 : Int32} {l5 : Int32} {l6 : Int32} (F : Fx p s m args meth c cX10_evenest 7 "DustParish" 395 g B)
    {Q : State → Prop} {y : (ST × Int32 × Int32) ⊕ ((ST × Int32) ⊕ (ST × Int32))} (hk : ∀ v : (ST × Int32 × Int32), y = Sum.inl v → V p l e (2 + 1 * dd + 1) 0 s m args below meth c Q KC 395 g B 7 0 v.1 70 [(0, .ref (gA g 0)), (1, .int l1), (2, .int l2), (4, .int l4), (5, .int v.2.1), (6, .int v.2.2)] []) (hx0 : ∀ v : (ST × Int32), y = Sum.inr (.inl v) → V p l e (2 + 1 * dd + 1) 0 s m args below meth c Q KC 395 g B 7 0 v.1 137 [(5, .int v.2)] []) (hx1 : ∀ v : (ST × Int32), y = Sum.inr (.inr v) → V p l e (2 + 1 * dd + 1) 0 s m args below meth c Q KC 395 g B 7 0 v.1 146 [(5, .int v.2)] []) (hf : fX10_evenest_127 R h l1 l2 l4 l5 l6 = some y) : V p l e (2 + 1 * dd + 1) 0 s m args below meth c Q KC 395 g B 7 0 h 127 [(0, .ref (gA g 0)), (1, .int l1), (2, .int l2), (4, .int l4), (5, .int l5), (6, .int l6)] [] := by
  unfold fX10_evenest_127 at hf
  refine v_aload_n (pc := 127) (j := 0) F dX10_evenest_127 rfl rfl ?_
  refine v_ifl (pc := 128) F fl_X10_70 dX10_evenest_128 kc_0.1 kc_0.2 fv_9_13 ?_
  refine v_iload (pc := 131) (j := 5) F dX10_evenest_131 rfl ?_
  obtain ⟨v10, e11, hf⟩ := bnd_some hf
  refine v_iald (pc := 133) F dX10_evenest_133 kc_393.1 kc_393.2 e11 ?_
  refine v_if_ne (pc := 134) (tgt := 140) F dX10_evenest_134 (by decide) (fun c12 => ?_) (fun c12 => ?_)
  · have hf := ite_f hf c12
    refine v_iinc (pc := 140) (j := 5) (v := l6 + 1) (lv' := [(0, .ref (gA g 0)), (1, .int l1), (2, .int l2), (4, .int l4), (5, .int l5), (6, .int (l6 + 1))]) F dX10_evenest_140 rfl (congrArg (fun z => l6 + z) ic_1) (by decide) rfl ?_
    refine v_goto (pc := 143) (tgt := 70) F dX10_evenest_143 (by decide) ?_
    exact hk (h, l5, l6 + 1) (Option.some.inj hf).symm
  · have hf := ite_t hf c12
    refine V.sub (lv' := [(5, .int l5)]) [4] rfl ?_
    exact hx0 (h, l5) (Option.some.inj hf).symm
set_option maxRecDepth 100000 in
set_option maxHeartbeats 4000000 in
theorem tX10_evenest_70 {p : Program} {l : Launch} {e : Env} {s : State} {m : MethodId} {args : Array Value} {below : List Frame} {meth : Method} {c : Code} {g : GE} {B : Nat} {dd : Nat} {R : ST → Int32 → Int32 → Int32 → Option (Int32 × ST)} (hR : ∀ {h : ST} {a1 a2 a3 : Int32} {y : Int32 × ST}, R h a1 a2 a3 = some y → CT l yX10_evenest cX10_evenest 7 (some .int) (2 + 1 * dd) KC 395 g B [.ref (gA g 0), .int a1, .int a2, .int a3] h (some (.int y.1)) y.2)   {l1 : Int32} {l2 : Int32} {l4 : Int32} {Q : State → Prop} {x : ((ST × Int32) ⊕ (ST × Int32))} {nf : Nat} {s0 : (ST × Int32 × Int32)} (F : Fx p s m args meth c cX10_evenest 7 "DustParish" 395 g B) (hX0 : ∀ v : (ST × Int32), x = (.inl v) → V p l e (2 + 1 * dd + 1) 0 s m args below meth c Q KC 395 g B 7 0 v.1 137 [(5, .int v.2)] []) (hX1 : ∀ v : (ST × Int32), x = (.inr v) → V p l e (2 + 1 * dd + 1) 0 s m args below meth c Q KC 395 g B 7 0 v.1 146 [(5, .int v.2)] []) (hl : lp nf (fX10_evenest_70 R l1 l2 l4) s0 = some x) : V p l e (2 + 1 * dd + 1) 0 s m args below meth c Q KC 395 g B 7 0 s0.1 70 [(0, .ref (gA g 0)), (1, .int l1), (2, .int l2), (4, .int l4), (5, .int s0.2.1), (6, .int s0.2.2)] [] := by
  refine lp_ind (P := fun s0 => V p l e (2 + 1 * dd + 1) 0 s m args below meth c Q KC 395 g B 7 0 s0.1 70 [(0, .ref (gA g 0)), (1, .int l1), (2, .int l2), (4, .int l4), (5, .int s0.2.1), (6, .int s0.2.2)] []) ?_ nf s0 hl
  intro s1 y hf hk hx
  have hx0 : ∀ v : (ST × Int32), y = Sum.inr (.inl v) → V p l e (2 + 1 * dd + 1) 0 s m args below meth c Q KC 395 g B 7 0 v.1 137 [(5, .int v.2)] [] := fun v e9 => hX0 v (hx _ e9).symm
  have hx1 : ∀ v : (ST × Int32), y = Sum.inr (.inr v) → V p l e (2 + 1 * dd + 1) 0 s m args below meth c Q KC 395 g B 7 0 v.1 146 [(5, .int v.2)] [] := fun v e9 => hX1 v (hx _ e9).symm
  unfold fX10_evenest_70 at hf
  refine v_iload (pc := 70) (j := 5) F dX10_evenest_70 rfl ?_
  refine v_iload_n (pc := 72) (j := 2) F dX10_evenest_72 rfl rfl ?_
  refine v_icmp_ge (pc := 73) (tgt := 146) F dX10_evenest_73 (by decide) (fun c6 => ?_) (fun c6 => ?_)
  · have hf := ite_t hf c6
    refine V.sub (lv' := [(5, .int s1.2.1)]) [4] rfl ?_
    exact hx1 (s1.1, s1.2.1) (Option.some.inj hf).symm
  · have hf := ite_f hf c6
    refine v_aload_n (pc := 76) (j := 0) F dX10_evenest_76 rfl rfl ?_
    refine v_ifl (pc := 77) F fl_X10_70 dX10_evenest_77 kc_0.1 kc_0.2 fv_9_13 ?_
    refine v_iload (pc := 80) (j := 5) F dX10_evenest_80 rfl ?_
    obtain ⟨v7, e8, hf⟩ := bnd_some hf
    refine v_iald (pc := 82) F dX10_evenest_82 kc_393.1 kc_393.2 e8 ?_
    refine v_iload (pc := 83) (j := 3) F dX10_evenest_83 rfl ?_
    refine v_iadd (pc := 85) F dX10_evenest_85 ?_
    refine v_iload (pc := 86) (j := 4) F dX10_evenest_86 rfl ?_
    refine v_icmp_ge (pc := 88) (tgt := 127) F dX10_evenest_88 (by decide) (fun c9 => ?_) (fun c9 => ?_)
    · have hf := ite_t hf c9
      exact tX10_evenest_127 hR F hk hx0 hx1 hf
    · have hf := ite_f hf c9
      refine v_aload_n (pc := 91) (j := 0) F dX10_evenest_91 rfl rfl ?_
      refine v_ifl (pc := 92) F fl_X10_70 dX10_evenest_92 kc_0.1 kc_0.2 fv_9_13 ?_
      refine v_iload (pc := 95) (j := 5) F dX10_evenest_95 rfl ?_
      refine v_dup2_11 (pc := 97) F dX10_evenest_97 rfl rfl ?_
      obtain ⟨v13, e14, hf⟩ := bnd_some hf
      refine v_iald (pc := 98) F dX10_evenest_98 kc_393.1 kc_393.2 e14 ?_
      refine v_iload (pc := 99) (j := 3) F dX10_evenest_99 rfl ?_
      refine v_iadd (pc := 101) F dX10_evenest_101 ?_
      obtain ⟨h15, e16, hf⟩ := bnd_some hf
      refine v_iast (pc := 102) F dX10_evenest_102 kc_393.1 kc_393.2 e16 ?_
      refine v_aload_n (pc := 103) (j := 0) F dX10_evenest_103 rfl rfl ?_
      refine v_iload_n (pc := 104) (j := 1) F dX10_evenest_104 rfl rfl ?_
      refine v_iconst (pc := 105) (v := 1) F dX10_evenest_105 ic_1 ?_
      refine v_iadd (pc := 106) F dX10_evenest_106 ?_
      refine v_iload_n (pc := 107) (j := 2) F dX10_evenest_107 rfl rfl ?_
      refine v_iload (pc := 108) (j := 4) F dX10_evenest_108 rfl ?_
      obtain ⟨r17, e18, hf⟩ := bnd_some hf
      refine v_callVi (pc := 110) (As := [.int (l1 + 1), .int l2, .int s1.2.1]) F cl_X10_297 dX10_evenest_110 (hR e18) kc_0.1 kc_0.2 rc_9 rfl rfl (Nat.le_of_ble_eq_true rfl) (by omega) (Nat.zero_le _) ?_
      refine v_istore (pc := 113) (lv' := [(0, .ref (gA g 0)), (1, .int l1), (2, .int l2), (4, .int l4), (5, .int r17.1), (6, .int s1.2.2)]) F dX10_evenest_113 (by decide) rfl ?_
      refine v_aload_n (pc := 115) (j := 0) F dX10_evenest_115 rfl rfl ?_
      refine v_ifl (pc := 116) F fl_X10_70 dX10_evenest_116 kc_0.1 kc_0.2 fv_9_13 ?_
      refine v_iload (pc := 119) (j := 5) F dX10_evenest_119 rfl ?_
      refine v_dup2_11 (pc := 121) F dX10_evenest_121 rfl rfl ?_
      obtain ⟨v19, e20, hf⟩ := bnd_some hf
      refine v_iald (pc := 122) F dX10_evenest_122 kc_393.1 kc_393.2 e20 ?_
      refine v_iload (pc := 123) (j := 3) F dX10_evenest_123 rfl ?_
      refine v_isub (pc := 125) F dX10_evenest_125 ?_
      obtain ⟨h21, e22, hf⟩ := bnd_some hf
      refine v_iast (pc := 126) F dX10_evenest_126 kc_393.1 kc_393.2 e22 ?_
      exact tX10_evenest_127 hR F hk hx0 hx1 hf
set_option maxRecDepth 100000 in
set_option maxHeartbeats 4000000 in
theorem tX10_evenest_146 {p : Program} {l : Launch} {e : Env} {s : State} {m : MethodId} {args : Array Value} {below : List Frame} {meth : Method} {c : Code} {g : GE} {B : Nat} {dd : Nat} {R : ST → Int32 → Int32 → Int32 → Option (Int32 × ST)} (hR : ∀ {h : ST} {a1 a2 a3 : Int32} {y : Int32 × ST}, R h a1 a2 a3 = some y → CT l yX10_evenest cX10_evenest 7 (some .int) (2 + 1 * dd) KC 395 g B [.ref (gA g 0), .int a1, .int a2, .int a3] h (some (.int y.1)) y.2) {h : ST}  {l5 : Int32} (F : Fx p s m args meth c cX10_evenest 7 "DustParish" 395 g B)
    {y : Int32 × ST} (hr : meth.sig.returnType = (some .int)) (hf : fX10_evenest_146 R h l5 = some y) : V p l e (2 + 1 * dd + 1) 0 s m args below meth c (MQ below (QO KC 395 g (some (.int y.1)) y.2) args s 0 (6 * 0) (WA 395 g)) KC 395 g B 7 0 h 146 [(5, .int l5)] [] := by
  unfold fX10_evenest_146 at hf
  refine v_iload (pc := 146) (j := 0) F dX10_evenest_146 rfl ?_
  exact v_iret (pc := 148) F hr dX10_evenest_148 (some_fst hf) (some_snd hf) (Nat.zero_le _)
set_option maxRecDepth 100000 in
set_option maxHeartbeats 4000000 in
theorem tX10_evenest_17 {p : Program} {l : Launch} {e : Env} {s : State} {m : MethodId} {args : Array Value} {below : List Frame} {meth : Method} {c : Code} {g : GE} {B : Nat} {dd : Nat} {R : ST → Int32 → Int32 → Int32 → Option (Int32 × ST)} (hR : ∀ {h : ST} {a1 a2 a3 : Int32} {y : Int32 × ST}, R h a1 a2 a3 = some y → CT l yX10_evenest cX10_evenest 7 (some .int) (2 + 1 * dd) KC 395 g B [.ref (gA g 0), .int a1, .int a2, .int a3] h (some (.int y.1)) y.2)  {h : ST}  {l2 : Int32} {l3 : Int32} {Q : State → Prop} {x : Int32} {nf : Nat} {s0 : (Int32 × Int32)} (F : Fx p s m args meth c cX10_evenest 7 "DustParish" 395 g B) (hX0 : V p l e (2 + 1 * dd + 1) 0 s m args below meth c Q KC 395 g B 7 0 h 43 [(3, .int l3), (4, .int x)] []) (hl : lp nf (fX10_evenest_17 R h l2 l3) s0 = some x) : V p l e (2 + 1 * dd + 1) 0 s m args below meth c Q KC 395 g B 7 0 h 17 [(0, .ref (gA g 0)), (2, .int l2), (3, .int l3), (4, .int s0.1), (5, .int s0.2)] [] := by
  refine lp_ind (P := fun s0 => V p l e (2 + 1 * dd + 1) 0 s m args below meth c Q KC 395 g B 7 0 h 17 [(0, .ref (gA g 0)), (2, .int l2), (3, .int l3), (4, .int s0.1), (5, .int s0.2)] []) ?_ nf s0 hl
  intro s1 y hf hk hx
  have hx0 : ∀ v : Int32, y = Sum.inr v → V p l e (2 + 1 * dd + 1) 0 s m args below meth c Q KC 395 g B 7 0 h 43 [(3, .int l3), (4, .int v)] [] := fun v e9 => by rw [hx v e9]; exact hX0
  unfold fX10_evenest_17 at hf
  refine v_iload (pc := 17) (j := 4) F dX10_evenest_17 rfl ?_
  refine v_iload_n (pc := 19) (j := 1) F dX10_evenest_19 rfl rfl ?_
  refine v_icmp_ge (pc := 20) (tgt := 43) F dX10_evenest_20 (by decide) (fun c25 => ?_) (fun c25 => ?_)
  · have hf := ite_t hf c25
    refine V.sub (lv' := [(3, .int l3), (4, .int s1.1)]) [2, 3] rfl ?_
    exact hx0 s1.1 (Option.some.inj hf).symm
  · have hf := ite_f hf c25
    refine v_iload (pc := 23) (j := 3) F dX10_evenest_23 rfl ?_
    refine v_aload_n (pc := 25) (j := 0) F dX10_evenest_25 rfl rfl ?_
    refine v_ifl (pc := 26) F fl_X10_70 dX10_evenest_26 kc_0.1 kc_0.2 fv_9_13 ?_
    refine v_iload (pc := 29) (j := 4) F dX10_evenest_29 rfl ?_
    obtain ⟨v26, e27, hf⟩ := bnd_some hf
    refine v_iald (pc := 31) F dX10_evenest_31 kc_393.1 kc_393.2 e27 ?_
    refine v_mmax (pc := 32) F tw_1109 mmaxW dX10_evenest_32 (by omega) (Nat.le_of_ble_eq_true rfl) (Nat.zero_le _) ?_
    refine v_istore (pc := 35) (lv' := [(0, .ref (gA g 0)), (2, .int l2), (3, .int l3), (4, .int (if s1.1 < v26 then v26 else s1.1)), (5, .int s1.2)]) F dX10_evenest_35 (by decide) rfl ?_
    refine v_iinc (pc := 37) (j := 4) (v := s1.2 + 1) (lv' := [(0, .ref (gA g 0)), (2, .int l2), (3, .int l3), (4, .int (if s1.1 < v26 then v26 else s1.1)), (5, .int (s1.2 + 1))]) F dX10_evenest_37 rfl (congrArg (fun z => s1.2 + z) ic_1) (by decide) rfl ?_
    refine v_goto (pc := 40) (tgt := 17) F dX10_evenest_40 (by decide) ?_
    exact hk ((if s1.1 < v26 then v26 else s1.1), s1.2 + 1) (Option.some.inj hf).symm
set_option maxRecDepth 100000 in
set_option maxHeartbeats 4000000 in
theorem kX10_evenest_b {l : Launch} {g : GE} {B : Nat} {dd : Nat} {R : ST → Int32 → Int32 → Int32 → Option (Int32 × ST)} (hR : ∀ {h : ST} {a1 a2 a3 : Int32} {y : Int32 × ST}, R h a1 a2 a3 = some y → CT l yX10_evenest cX10_evenest 7 (some .int) (2 + 1 * dd) KC 395 g B [.ref (gA g 0), .int a1, .int a2, .int a3] h (some (.int y.1)) y.2) {h : ST} {a1 : Int32} {a2 : Int32} {a3 : Int32} {y : Int32 × ST} (hf : fX10_evenest_b R h a1 a2 a3 = some y) : CT l yX10_evenest cX10_evenest 7 (some .int) (2 + 1 * dd + 1) KC 395 g B [.ref (gA g 0), .int a1, .int a2, .int a3] h (some (.int y.1)) y.2 := by
  refine CT.of pn_X10 (Nat.le_of_ble_eq_true rfl) ?_
  intro p e s m below meth c hr F
  have F : Fx p s m _ meth c cX10_evenest 7 "DustParish" 395 g B := F
  refine V_lv (lv' := [(0, .ref (gA g 0)), (1, .int a1), (2, .int a2), (3, .int a3)]) rfl ?_
  unfold fX10_evenest_b at hf
  refine v_iload_n (pc := 0) (j := 1) F dX10_evenest_0 rfl rfl ?_
  refine v_aload_n (pc := 1) (j := 0) F dX10_evenest_1 rfl rfl ?_
  obtain ⟨f1, e2, hf⟩ := bnd_some hf
  obtain ⟨ho_f1, hk_f1, e2⟩ := rf_in e2
  refine v_ifl (pc := 2) F fl_X10_23 dX10_evenest_2 kc_0.1 kc_0.2 (fv_9_3 e2) ?_
  refine v_ifl (pc := 5) F fl_X10_104 dX10_evenest_5 ho_f1 hk_f1 fv_1_0 ?_
  refine v_icmp_lt (pc := 8) (tgt := 50) F dX10_evenest_8 (by decide) (fun c3 => ?_) (fun c3 => ?_)
  · have hf := ite_t hf c3
    refine v_aload_n (pc := 50) (j := 0) F dX10_evenest_50 rfl rfl ?_
    refine v_ifl (pc := 51) F fl_X10_42 dX10_evenest_51 kc_0.1 kc_0.2 fv_9_6 ?_
    refine v_ifl (pc := 54) F fl_X10_122 dX10_evenest_54 kc_42.1 kc_42.2 fv_2_0 ?_
    refine v_ifl (pc := 57) F fl_X10_171 dX10_evenest_57 kc_43.1 kc_43.2 fv_7_3 ?_
    refine v_iload_n (pc := 60) (j := 1) F dX10_evenest_60 rfl rfl ?_
    obtain ⟨v4, e5, hf⟩ := bnd_some hf
    refine v_iald (pc := 61) F dX10_evenest_61 kc_44.1 kc_44.2 e5 ?_
    refine v_istore (pc := 62) (lv' := [(0, .ref (gA g 0)), (1, .int a1), (2, .int a2), (3, .int a3), (4, .int v4)]) F dX10_evenest_62 (by decide) rfl ?_
    refine v_iload_n (pc := 64) (j := 3) F dX10_evenest_64 rfl rfl ?_
    refine v_istore (pc := 65) (lv' := [(0, .ref (gA g 0)), (1, .int a1), (2, .int a2), (3, .int a3), (4, .int v4), (5, .int a3)]) F dX10_evenest_65 (by decide) rfl ?_
    refine v_iconst (pc := 67) (v := 0) F dX10_evenest_67 ic_0 ?_
    refine v_istore (pc := 68) (lv' := [(0, .ref (gA g 0)), (1, .int a1), (2, .int a2), (3, .int a3), (4, .int v4), (5, .int a3), (6, .int 0)]) F dX10_evenest_68 (by decide) rfl ?_
    obtain ⟨x23, e24, hf⟩ := bnd_some hf
    refine V.sub (lv' := [(0, .ref (gA g 0)), (1, .int a1), (2, .int a2), (4, .int v4), (5, .int a3), (6, .int 0)]) [0, 1, 2, 4, 5, 6] rfl ?_
    refine tX10_evenest_70 (s0 := (h, a3, 0)) hR F (fun v e9 => ?_) (fun v e9 => ?_) e24
    · subst e9
      have hf := sm_l hf
      refine v_goto (pc := 137) (tgt := 146) F dX10_evenest_137 (by decide) ?_
      exact tX10_evenest_146 hR F hr hf
    · subst e9
      have hf := sm_r hf
      exact tX10_evenest_146 hR F hr hf
  · have hf := ite_f hf c3
    refine v_iconst (pc := 11) (v := 0) F dX10_evenest_11 ic_0 ?_
    refine v_istore (pc := 12) (lv' := [(0, .ref (gA g 0)), (1, .int a1), (2, .int a2), (3, .int a3), (4, .int 0)]) F dX10_evenest_12 (by decide) rfl ?_
    refine v_iconst (pc := 14) (v := 0) F dX10_evenest_14 ic_0 ?_
    refine v_istore (pc := 15) (lv' := [(0, .ref (gA g 0)), (1, .int a1), (2, .int a2), (3, .int a3), (4, .int 0), (5, .int 0)]) F dX10_evenest_15 (by decide) rfl ?_
    obtain ⟨x28, e29, hf⟩ := bnd_some hf
    refine V.sub (lv' := [(0, .ref (gA g 0)), (2, .int a2), (3, .int a3), (4, .int 0), (5, .int 0)]) [0, 2, 3, 4, 5] rfl ?_
    refine tX10_evenest_17 (s0 := (0, 0)) hR F ?_ e29
    refine v_iload_n (pc := 43) (j := 0) F dX10_evenest_43 rfl rfl ?_
    refine v_iload (pc := 44) (j := 1) F dX10_evenest_44 rfl ?_
    refine v_mmin (pc := 46) F tw_918 mminW dX10_evenest_46 (by omega) (Nat.le_of_ble_eq_true rfl) (Nat.zero_le _) ?_
    exact v_iret (pc := 49) F hr dX10_evenest_49 (some_fst hf) (some_snd hf) (Nat.zero_le _)
def fX10_evenest : Nat → ST → Int32 → Int32 → Int32 → Option (Int32 × ST)
  | 0, _, _, _, _ => none
  | dd + 1, h, a1, a2, a3 => fX10_evenest_b (fX10_evenest dd) h a1 a2 a3
theorem kX10_evenest {l : Launch} {g : GE} {B : Nat} : ∀ {dd : Nat} {h : ST} {a1 a2 a3 : Int32} {y : Int32 × ST}, fX10_evenest dd h a1 a2 a3 = some y → CT l yX10_evenest cX10_evenest 7 (some .int) (2 + 1 * dd) KC 395 g B [.ref (gA g 0), .int a1, .int a2, .int a3] h (some (.int y.1)) y.2
  | 0, _, _, _, _, _, hf => by cases hf
  | dd + 1, _, _, _, _, _, hf => by
    have e : 2 + 1 * (dd + 1) = 2 + 1 * dd + 1 := by omega
    rw [e]
    exact kX10_evenest_b (fun hf => kX10_evenest hf) hf
def fX10_needRoom_15 (h : ST)  : Option ((Unit ⊕ Nat)) :=
  some (.inr 1)
def fX10_needRoom (h : ST) (a1 : Int32) : Option ((Unit ⊕ Nat)) :=
  if a1 < 0 then
  fX10_needRoom_15 h 
  else
  bnd (rf KC 395 1 (h 0 3)) fun f2 =>
    if a1 < (h f2 0) then
    some (.inl ())
    else
    fX10_needRoom_15 h 
set_option maxRecDepth 100000 in
set_option maxHeartbeats 4000000 in
theorem tX10_needRoom_15 {p : Program} {l : Launch} {e : Env} {s : State} {m : MethodId} {args : Array Value} {below : List Frame} {meth : Method} {c : Code} {g : GE} {B : Nat} {h : ST}  (F : Fx p s m args meth c cX10_needRoom 2 "DustParish" 395 g B)
    {y : (Unit ⊕ Nat)} (hr : meth.sig.returnType = none) (hT : l.stackTraces = false) (hex : ∀ x ∈ c.exceptionTable.toList, False) (hf : fX10_needRoom_15 h  = some y) : V p l e 8 1 s m args below meth c (vx_MQ below (QX KC 395 g (ocV y) h) (XX KC 395 g (ocV y) h) args s 1 (6 * 1) (WA 395 g)) KC 395 g B 2 0 h 15 [] [] := by
  unfold fX10_needRoom_15 at hf
  exact v_throw0 (pc := 15) (E := xNS) F hT xw_NS hex dX10_needRoom_15 dX10_needRoom_18 dX10_needRoom_19 dX10_needRoom_22 (congrArg ocV (Option.some.inj hf)) rfl (by decide) (Nat.le_of_ble_eq_true rfl) (by decide)
set_option maxRecDepth 100000 in
set_option maxHeartbeats 4000000 in
theorem kX10_needRoom {l : Launch} {g : GE} {B : Nat} {h : ST} {a1 : Int32} {y : (Unit ⊕ Nat)} (hT : l.stackTraces = false) (hf : fX10_needRoom h a1 = some y) : XT l yX10_needRoom cX10_needRoom 2 none 8 1 KC 395 g B [.ref (gA g 0), .int a1] h (ocV y) h := by
  refine XT.of pn_X10 (Nat.le_of_ble_eq_true rfl) ?_
  intro p e s m below meth c hr hex F
  have F : Fx p s m _ meth c cX10_needRoom 2 "DustParish" 395 g B := F
  refine V_lv (lv' := [(0, .ref (gA g 0)), (1, .int a1)]) rfl ?_
  unfold fX10_needRoom at hf
  refine v_iload_n (pc := 0) (j := 1) F dX10_needRoom_0 rfl rfl ?_
  refine v_if_lt (pc := 1) (tgt := 15) F dX10_needRoom_1 (by decide) (fun c1 => ?_) (fun c1 => ?_)
  · have hf := ite_t hf c1
    refine V.sub (lv' := []) [] rfl ?_
    exact tX10_needRoom_15 F hr hT hex hf
  · have hf := ite_f hf c1
    refine v_iload_n (pc := 4) (j := 1) F dX10_needRoom_4 rfl rfl ?_
    refine v_aload_n (pc := 5) (j := 0) F dX10_needRoom_5 rfl rfl ?_
    obtain ⟨f2, e3, hf⟩ := bnd_some hf
    obtain ⟨ho_f2, hk_f2, e3⟩ := rf_in e3
    refine v_ifl (pc := 6) F fl_X10_23 dX10_needRoom_6 kc_0.1 kc_0.2 (fv_9_3 e3) ?_
    refine v_ifl (pc := 9) F fl_X10_104 dX10_needRoom_9 ho_f2 hk_f2 fv_1_0 ?_
    refine v_icmp_lt (pc := 12) (tgt := 23) F dX10_needRoom_12 (by decide) (fun c4 => ?_) (fun c4 => ?_)
    · have hf := ite_t hf c4
      exact v_xvret (pc := 23) F hr dX10_needRoom_23 (Option.some.inj hf) rfl (by decide)
    · have hf := ite_f hf c4
      refine V.sub (lv' := []) [] rfl ?_
      exact tX10_needRoom_15 F hr hT hex hf
def fX2_wayFrom (h : ST) (o : Nat) (a1 : Int32) (a2 : Int32) : Option (Int32) :=
  bnd (rd 81 (h (o + 16)) ((a1 * 9) + a2)) fun v1 =>
  some v1
set_option maxRecDepth 100000 in
set_option maxHeartbeats 4000000 in
theorem kX2_wayFrom {l : Launch} {g : GE} {B : Nat} {h : ST} {o : Nat} (ho_o : o < 395) (hk_o : KC o = (1, 0)) {a1 : Int32} {a2 : Int32} {y : Int32} (hf : fX2_wayFrom h o a1 a2 = some y) : CT l yX2_wayFrom cX2_wayFrom 3 (some .int) 1 KC 395 g B [.ref (gA g o), .int a1, .int a2] h (some (.int y)) h := by
  refine CT.of pn_X2 (Nat.le_of_ble_eq_true rfl) ?_
  intro p e s m below meth c hr F
  have F : Fx p s m _ meth c cX2_wayFrom 3 "DustParish$Facts" 395 g B := F
  refine V_lv (lv' := [(0, .ref (gA g o)), (1, .int a1), (2, .int a2)]) rfl ?_
  unfold fX2_wayFrom at hf
  refine v_aload_n (pc := 0) (j := 0) F dX2_wayFrom_0 rfl rfl ?_
  refine v_ifl (pc := 1) F fl_X2_52 dX2_wayFrom_1 ho_o hk_o fv_1_18 ?_
  refine v_iload_n (pc := 4) (j := 1) F dX2_wayFrom_4 rfl rfl ?_
  refine v_bipush (pc := 5) (v := 9) F dX2_wayFrom_5 bp_9 ?_
  refine v_imul (pc := 7) F dX2_wayFrom_7 ?_
  refine v_iload_n (pc := 8) (j := 2) F dX2_wayFrom_8 rfl rfl ?_
  refine v_iadd (pc := 9) F dX2_wayFrom_9 ?_
  obtain ⟨v1, e2, hf⟩ := bnd_some hf
  refine v_iald (pc := 10) F dX2_wayFrom_10 (ly_1_18 ho_o hk_o).1 (ly_1_18 ho_o hk_o).2 e2 ?_
  exact v_iret (pc := 11) F hr dX2_wayFrom_11 (Option.some.inj hf) rfl (Nat.zero_le _)
