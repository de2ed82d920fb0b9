def fX0_giveBack_38 (h : ST)  : Option (ST) :=
  some h
def fX0_giveBack (h : ST) (o : Nat) (o1 : Nat) : Option (ST) :=
  if (h o 0) ≤ 0 then
  fX0_giveBack_38 h 
  else
  bnd (pw h o 0 ((h o 0) - 1)) fun h2 =>
    bnd (bst (o + 1) (((h2 o 1) + (h2 o 0)) - ((h2 o 1) + (h2 o 0)) / 40 * 40)) fun f4 =>
    bnd (fX8_copy h2 o1 f4) fun r6 =>
    fX0_giveBack_38 r6 
set_option maxRecDepth 100000 in
set_option maxHeartbeats 4000000 in
theorem tX0_giveBack_38 {p : Program} {l : Launch} {e : Env} {s : State} {m : MethodId} {args : Array Value} {below : List Frame} {meth : Method} {c : Code} {g : GE} {B : Nat} {h : ST}  (F : Fx p s m args meth c cX0_giveBack 2 "DustParish$Acts" 395 g B)
    {y : ST} (hr : meth.sig.returnType = none) (hf : fX0_giveBack_38 h  = some y) : V p l e 2 0 s m args below meth c (MQ below (QO KC 395 g none y) args s 0 (6 * 0) (WA 395 g)) KC 395 g B 2 0 h 38 [] [] := by
  unfold fX0_giveBack_38 at hf
  exact v_vret (pc := 38) F hr dX0_giveBack_38 (Option.some.inj hf) (Nat.zero_le _)
set_option maxRecDepth 100000 in
set_option maxHeartbeats 4000000 in
theorem kX0_giveBack {l : Launch} {g : GE} {B : Nat} {h : ST} {o : Nat} (ho_o : o < 395) (hk_o : KC o = (0, 0)) {o1 : Nat} (ho_o1 : o1 < 395) (hk_o1 : KC o1 = (7, 0)) {y : ST} (hf : fX0_giveBack h o o1 = some y) : CT l yX0_giveBack cX0_giveBack 2 none 2 KC 395 g B [.ref (gA g o), .ref (gA g o1)] h none y := by
  refine CT.of pn_X0 (Nat.le_of_ble_eq_true rfl) ?_
  intro p e s m below meth c hr F
  have F : Fx p s m _ meth c cX0_giveBack 2 "DustParish$Acts" 395 g B := F
  refine V_lv (lv' := [(0, .ref (gA g o)), (1, .ref (gA g o1))]) rfl ?_
  unfold fX0_giveBack at hf
  refine v_aload_n (pc := 0) (j := 0) F dX0_giveBack_0 rfl rfl ?_
  refine v_ifl (pc := 1) F fl_X0_9 dX0_giveBack_1 ho_o hk_o fv_0_0 ?_
  refine v_if_le (pc := 4) (tgt := 38) F dX0_giveBack_4 (by decide) (fun c1 => ?_) (fun c1 => ?_)
  · have hf := ite_t hf c1
    refine V.sub (lv' := []) [] rfl ?_
    exact tX0_giveBack_38 F hr hf
  · have hf := ite_f hf c1
    refine v_aload_n (pc := 7) (j := 0) F dX0_giveBack_7 rfl rfl ?_
    refine v_dup (pc := 8) F dX0_giveBack_8 rfl ?_
    refine v_ifl (pc := 9) F fl_X0_9 dX0_giveBack_9 ho_o hk_o fv_0_0 ?_
    refine v_iconst (pc := 12) (v := 1) F dX0_giveBack_12 ic_1 ?_
    refine v_isub (pc := 13) F dX0_giveBack_13 ?_
    obtain ⟨h2, e3, hf⟩ := bnd_some hf
    refine v_pfl (pc := 14) F fl_X0_9 pl_0_0 dX0_giveBack_14 ho_o hk_o fv_0_0 rfl rfl e3 ?_
    refine v_aload_n (pc := 17) (j := 1) F dX0_giveBack_17 rfl rfl ?_
    refine v_aload_n (pc := 18) (j := 0) F dX0_giveBack_18 rfl rfl ?_
    refine v_ifl (pc := 19) F fl_X0_20 dX0_giveBack_19 ho_o hk_o fv_0_2 ?_
    refine v_aload_n (pc := 22) (j := 0) F dX0_giveBack_22 rfl rfl ?_
    refine v_ifl (pc := 23) F fl_X0_15 dX0_giveBack_23 ho_o hk_o fv_0_1 ?_
    refine v_aload_n (pc := 26) (j := 0) F dX0_giveBack_26 rfl rfl ?_
    refine v_ifl (pc := 27) F fl_X0_9 dX0_giveBack_27 ho_o hk_o fv_0_0 ?_
    refine v_iadd (pc := 30) F dX0_giveBack_30 ?_
    refine v_bipush (pc := 31) (v := 40) F dX0_giveBack_31 bp_40 ?_
    refine v_irem (pc := 33) F dX0_giveBack_33 (by decide) ?_
    obtain ⟨f4, e5, hf⟩ := bnd_some hf
    obtain ⟨ho_f4, hk_f4, hv_f4, e5⟩ := bst_in (ly_0_2 ho_o hk_o).1 (ly_0_2 ho_o hk_o).2 e5
    refine v_aald (pc := 34) (v := .ref (gA g f4)) F dX0_giveBack_34 (ly_0_2 ho_o hk_o).1 (ly_0_2 ho_o hk_o).2 (by decide) (by decide) hv_f4 (av23 e5) ?_
    obtain ⟨r6, e7, hf⟩ := bnd_some hf
    refine v_callVv (pc := 35) (As := [.ref (gA g f4)]) F cl_X0_25 dX0_giveBack_35 (kX8_copy ho_o1 hk_o1 ho_f4 hk_f4 e7) ho_o1 hk_o1 rc_7 rfl rfl (Nat.le_of_ble_eq_true rfl) (by decide) (Nat.zero_le _) ?_
    refine V.sub (lv' := []) [] rfl ?_
    exact tX0_giveBack_38 F hr hf
def fX10_undo (h : ST) : Option (Int32 × ST) :=
  if (h 47 0) = 0 then
  some ((-1), h)
  else
  bnd (fX0_giveBack h 47 43) fun r2 =>
    some (r2 47 0, r2)
set_option maxRecDepth 100000 in
set_option maxHeartbeats 4000000 in
theorem kX10_undo {l : Launch} {g : GE} {B : Nat} {h : ST} {y : Int32 × ST} (hf : fX10_undo h = some y) : CT l yX10_undo cX10_undo 1 (some .int) 3 KC 395 g B [.ref (gA g 0)] h (some (.int y.1)) y.2 := by
  refine CT.of pn_X10 (Nat.le_of_ble_eq_true rfl) ?_
  intro p e s m below meth c hr F
  have F : Fx p s m _ meth c cX10_undo 1 "DustParish" 395 g B := F
  refine V_lv (lv' := [(0, .ref (gA g 0))]) rfl ?_
  unfold fX10_undo at hf
  refine v_aload_n (pc := 0) (j := 0) F dX10_undo_0 rfl rfl ?_
  refine v_ifl (pc := 1) F fl_X10_42 dX10_undo_1 kc_0.1 kc_0.2 fv_9_6 ?_
  refine v_ifl (pc := 4) F fl_X10_143 dX10_undo_4 kc_42.1 kc_42.2 fv_2_1 ?_
  refine v_ifl (pc := 7) F fl_X10_147 dX10_undo_7 kc_47.1 kc_47.2 fv_0_0 ?_
  refine v_if_ne (pc := 10) (tgt := 15) F dX10_undo_10 (by decide) (fun c1 => ?_) (fun c1 => ?_)
  · have hf := ite_f hf c1
    refine v_aload_n (pc := 15) (j := 0) F dX10_undo_15 rfl rfl ?_
    refine v_ifl (pc := 16) F fl_X10_42 dX10_undo_16 kc_0.1 kc_0.2 fv_9_6 ?_
    refine v_ifl (pc := 19) F fl_X10_143 dX10_undo_19 kc_42.1 kc_42.2 fv_2_1 ?_
    refine v_aload_n (pc := 22) (j := 0) F dX10_undo_22 rfl rfl ?_
    refine v_ifl (pc := 23) F fl_X10_42 dX10_undo_23 kc_0.1 kc_0.2 fv_9_6 ?_
    refine v_ifl (pc := 26) F fl_X10_122 dX10_undo_26 kc_42.1 kc_42.2 fv_2_0 ?_
    obtain ⟨r2, e3, hf⟩ := bnd_some hf
    refine v_callVv (pc := 29) (As := [.ref (gA g 43)]) F cl_X10_232 dX10_undo_29 (kX0_giveBack kc_47.1 kc_47.2 kc_43.1 kc_43.2 e3) kc_47.1 kc_47.2 rc_0 rfl rfl (Nat.le_of_ble_eq_true rfl) (by decide) (Nat.zero_le _) ?_
    refine v_aload_n (pc := 32) (j := 0) F dX10_undo_32 rfl rfl ?_
    refine v_ifl (pc := 33) F fl_X10_42 dX10_undo_33 kc_0.1 kc_0.2 fv_9_6 ?_
    refine v_ifl (pc := 36) F fl_X10_143 dX10_undo_36 kc_42.1 kc_42.2 fv_2_1 ?_
    refine v_ifl (pc := 39) F fl_X10_147 dX10_undo_39 kc_47.1 kc_47.2 fv_0_0 ?_
    exact v_iret (pc := 42) F hr dX10_undo_42 (some_fst hf) (some_snd hf) (Nat.zero_le _)
  · have hf := ite_t hf c1
    refine v_iconst (pc := 13) (v := (-1)) F dX10_undo_13 ic_m1 ?_
    exact v_iret (pc := 14) F hr dX10_undo_14 (some_fst hf) (some_snd hf) (Nat.zero_le _)
def fX10_wind_11 (h : ST)  : Option ((Int32 ⊕ Nat)) :=
  some (.inr 2)
def fX10_wind (h : ST) (a1 : Int32) : Option ((Int32 ⊕ Nat)) :=
  if a1 < 0 then
  fX10_wind_11 h 
  else
  if a1 ≤ 9999 then
    bnd (rf KC 395 1 (h 0 3)) fun f3 =>
      bnd (fX1_windOf h f3 43 a1) fun r5 =>
      some (.inl r5)
    else
    fX10_wind_11 h 
set_option maxRecDepth 100000 in
set_option maxHeartbeats 4000000 in
theorem tX10_wind_11 {p : Program} {l : Launch} {e : Env} {s : State} {m : MethodId} {args : Array Value} {below : List Frame} {meth : Method} {c : Code} {g : GE} {B : Nat} {h : ST}  (F : Fx p s m args meth c cX10_wind 2 "DustParish" 395 g B)
    {y : (Int32 ⊕ Nat)} (hr : meth.sig.returnType = (some .int)) (hT : l.stackTraces = false) (hex : ∀ x ∈ c.exceptionTable.toList, False) (hf : fX10_wind_11 h  = some y) : V p l e 8 1 s m args below meth c (vx_MQ below (QX KC 395 g (ocI y) h) (XX KC 395 g (ocI y) h) args s 1 (6 * 1) (WA 395 g)) KC 395 g B 2 0 h 11 [] [] := by
  unfold fX10_wind_11 at hf
  exact v_throw0 (pc := 11) (E := xIA) F hT xw_IA hex dX10_wind_11 dX10_wind_14 dX10_wind_15 dX10_wind_18 (congrArg ocI (Option.some.inj hf)) rfl (by decide) (Nat.le_of_ble_eq_true rfl) (by decide)
set_option maxRecDepth 100000 in
set_option maxHeartbeats 4000000 in
theorem kX10_wind {l : Launch} {g : GE} {B : Nat} {h : ST} {a1 : Int32} {y : (Int32 ⊕ Nat)} (hT : l.stackTraces = false) (hf : fX10_wind h a1 = some y) : XT l yX10_wind cX10_wind 2 (some .int) 8 1 KC 395 g B [.ref (gA g 0), .int a1] h (ocI y) h := by
  refine XT.of pn_X10 (Nat.le_of_ble_eq_true rfl) ?_
  intro p e s m below meth c hr hex F
  have F : Fx p s m _ meth c cX10_wind 2 "DustParish" 395 g B := F
  refine V_lv (lv' := [(0, .ref (gA g 0)), (1, .int a1)]) rfl ?_
  unfold fX10_wind at hf
  refine v_iload_n (pc := 0) (j := 1) F dX10_wind_0 rfl rfl ?_
  refine v_if_lt (pc := 1) (tgt := 11) F dX10_wind_1 (by decide) (fun c1 => ?_) (fun c1 => ?_)
  · have hf := ite_t hf c1
    refine V.sub (lv' := []) [] rfl ?_
    exact tX10_wind_11 F hr hT hex hf
  · have hf := ite_f hf c1
    refine v_iload_n (pc := 4) (j := 1) F dX10_wind_4 rfl rfl ?_
    refine v_sipush (pc := 5) (v := 9999) F dX10_wind_5 sp_9999 ?_
    refine v_icmp_le (pc := 8) (tgt := 19) F dX10_wind_8 (by decide) (fun c2 => ?_) (fun c2 => ?_)
    · have hf := ite_t hf c2
      refine v_aload_n (pc := 19) (j := 0) F dX10_wind_19 rfl rfl ?_
      obtain ⟨f3, e4, hf⟩ := bnd_some hf
      obtain ⟨ho_f3, hk_f3, e4⟩ := rf_in e4
      refine v_ifl (pc := 20) F fl_X10_23 dX10_wind_20 kc_0.1 kc_0.2 (fv_9_3 e4) ?_
      refine v_aload_n (pc := 23) (j := 0) F dX10_wind_23 rfl rfl ?_
      refine v_ifl (pc := 24) F fl_X10_42 dX10_wind_24 kc_0.1 kc_0.2 fv_9_6 ?_
      refine v_ifl (pc := 27) F fl_X10_122 dX10_wind_27 kc_42.1 kc_42.2 fv_2_0 ?_
      refine v_iload_n (pc := 30) (j := 1) F dX10_wind_30 rfl rfl ?_
      obtain ⟨r5, e6, hf⟩ := bnd_some hf
      refine v_callSi (pc := 31) (As := [.ref (gA g f3), .ref (gA g 43), .int a1]) F cl_X10_204 dX10_wind_31 (kX1_windOf ho_f3 hk_f3 kc_43.1 kc_43.2 e6) rfl rfl (Nat.le_of_ble_eq_true rfl) (by decide) (Nat.zero_le _) ?_
      exact v_xiret (pc := 34) F hr dX10_wind_34 (Option.some.inj hf) rfl (by decide)
    · have hf := ite_f hf c2
      refine V.sub (lv' := []) [] rfl ?_
      exact tX10_wind_11 F hr hT hex hf
def fX10_years_9 (h : ST)  : Option ((Int32 ⊕ Nat) × ST) :=
  some (.inr 1, h)
def fX10_years_27 (h : ST)  : Option ((Int32 ⊕ Nat) × ST) :=
  some (.inr 2, h)
def fX10_years_147 (h : ST) (l2 : Int32) (l3 : Int32) (l4 : Int32) (l6 : Int32) (q0 : Int32) (q1 : Int32) : Option ((ST × Int32 × Int32 × Int32) ⊕ (ST × Int32)) :=
  some (.inl (h, l4, q0 + q1, l6 + 1))
def fX10_years_114 (h : ST) (l2 : Int32) (l3 : Int32) (l4 : Int32) (l5 : Int32) (l6 : Int32) : Option ((ST × Int32 × Int32 × Int32) ⊕ (ST × Int32)) :=
  bnd (rf KC 395 1 (h 0 3)) fun f11 =>
  bnd (fX1_passMany h f11 386 1) fun r13 =>
  bnd (rf KC 395 1 (r13 0 3)) fun f15 =>
  bnd (fX1_heretics r13 f15 386) fun r17 =>
  if r17 = 0 then
  fX10_years_147 r13 l2 l3 l4 l6 l5 0
  else
  fX10_years_147 r13 l2 l3 l4 l6 l5 1
def fX10_years_58 (l2 : Int32) (l3 : Int32) (s1 : (ST × Int32 × Int32 × Int32)) : Option ((ST × Int32 × Int32 × Int32) ⊕ (ST × Int32)) :=
  if l2 ≤ s1.2.2.2 then
  some (.inr (s1.1, s1.2.2.1))
  else
  bnd (rf KC 395 1 (s1.1 0 3)) fun f8 =>
    if (s1.1 f8 0) ≤ 0 then
    fX10_years_114 s1.1 l2 l3 s1.2.1 s1.2.2.1 s1.2.2.2
    else
    bnd (fX10_nextSeed s1.1 s1.2.1) fun r20 =>
      bnd (rf KC 395 1 (s1.1 0 3)) fun f22 =>
      bnd (fX10_draw s1.1 r20 (s1.1 f22 0)) fun r24 =>
      bnd (fX10_nextSeed s1.1 r20) fun r26 =>
      bnd (fX10_draw s1.1 r26 4) fun r28 =>
      bnd (fX10_happen s1.1 r24 r28) fun r30 =>
      fX10_years_114 r30 l2 l3 r26 s1.2.2.1 s1.2.2.2
def fX10_years_193 (h : ST) (q0 : Int32) : Option ((Int32 ⊕ Nat) × ST) :=
  some (.inl q0, h)
def fX10_years (h : ST) (a1 : Int32) (a2 : Int32) (a3 : Int32) : Option ((Int32 ⊕ Nat) × ST) :=
  if a3 < 0 then
  fX10_years_9 h 
  else
  if a3 ≤ 2 then
    if a2 < 0 then
      fX10_years_27 h 
      else
      if a2 ≤ 60 then
        bnd (fX8_copy h 386 43) fun r5 =>
          bnd (lp FU (fX10_years_58 a2 a3) (r5, a1, 0, 0)) fun x32 =>
          if a3 = 1 then
          some (.inl x32.2, x32.1)
          else
          if a3 = 0 then
            fX10_years_193 x32.1 ((x32.1 386 1) - (x32.1 43 1))
            else
            bnd (fX10_fullestTrialRoom x32.1) fun r36 =>
              fX10_years_193 x32.1 r36
        else
        fX10_years_27 h 
    else
    fX10_years_9 h 
set_option maxRecDepth 100000 in
set_option maxHeartbeats 4000000 in
theorem tX10_years_9 {p : Program} {l : Launch} {e : Env} {s : State} {m : MethodId} {args : Array Value} {below : List Frame} {meth : Method} {c : Code} {g : GE} {B : Nat} {h : ST}  (F : Fx p s m args meth c cX10_years 8 "DustParish" 395 g B)
    {y : (Int32 ⊕ Nat) × ST} (hr : meth.sig.returnType = (some .int)) (hT : l.stackTraces = false) (hex : ∀ x ∈ c.exceptionTable.toList, False) (hf : fX10_years_9 h  = some y) : V p l e 8 1 s m args below meth c (vx_MQ below (QX KC 395 g (ocI y.1) y.2) (XX KC 395 g (ocI y.1) y.2) args s 1 (6 * 1) (WA 395 g)) KC 395 g B 8 0 h 9 [] [] := by
  unfold fX10_years_9 at hf
  exact v_throw0 (pc := 9) (E := xNS) F hT xw_NS hex dX10_years_9 dX10_years_12 dX10_years_13 dX10_years_16 (congrArg ocI (some_fst hf)) (some_snd hf) (by decide) (Nat.le_of_ble_eq_true rfl) (by decide)
set_option maxRecDepth 100000 in
set_option maxHeartbeats 4000000 in
theorem tX10_years_27 {p : Program} {l : Launch} {e : Env} {s : State} {m : MethodId} {args : Array Value} {below : List Frame} {meth : Method} {c : Code} {g : GE} {B : Nat} {h : ST}  (F : Fx p s m args meth c cX10_years 8 "DustParish" 395 g B)
    {y : (Int32 ⊕ Nat) × ST} (hr : meth.sig.returnType = (some .int)) (hT : l.stackTraces = false) (hex : ∀ x ∈ c.exceptionTable.toList, False) (hf : fX10_years_27 h  = some y) : V p l e 8 1 s m args below meth c (vx_MQ below (QX KC 395 g (ocI y.1) y.2) (XX KC 395 g (ocI y.1) y.2) args s 1 (6 * 1) (WA 395 g)) KC 395 g B 8 0 h 27 [] [] := by
  unfold fX10_years_27 at hf
  exact v_throw0 (pc := 27) (E := xIA) F hT xw_IA hex dX10_years_27 dX10_years_30 dX10_years_31 dX10_years_34 (congrArg ocI (some_fst hf)) (some_snd hf) (by decide) (Nat.le_of_ble_eq_true rfl) (by decide)
set_option maxRecDepth 100000 in
set_option maxHeartbeats 4000000 in
theorem tX10_years_147 {p : Program} {l : Launch} {e : Env} {s : State} {m : MethodId} {args : Array Value} {below : List Frame} {meth : Method} {c : Code} {g : GE} {B : Nat} {h : ST}  {l2 : Int32} {l3 : Int32} {l4 : Int32} {l6 : Int32} {q0 : Int32} {q1 : Int32} (F : Fx p s m args meth c cX10_years 8 "DustParish" 395 g B)
    {Q : State → Prop} {y : (ST × Int32 × Int32 × Int32) ⊕ (ST × Int32)} (hk : ∀ v : (ST × Int32 × Int32 × Int32), y = Sum.inl v → V p l e 8 1 s m args below meth c Q KC 395 g B 8 0 v.1 58 [(0, .ref (gA g 0)), (2, .int l2), (3, .int l3), (4, .int v.2.1), (5, .int v.2.2.1), (6, .int v.2.2.2)] []) (hx0 : ∀ v : (ST × Int32), y = Sum.inr v → V p l e 8 1 s m args below meth c Q KC 395 g B 8 0 v.1 156 [(0, .ref (gA g 0)), (3, .int l3), (5, .int v.2)] []) (hf : fX10_years_147 h l2 l3 l4 l6 q0 q1 = some y) : V p l e 8 1 s m args below meth c Q KC 395 g B 8 0 h 147 [(0, .ref (gA g 0)), (2, .int l2), (3, .int l3), (4, .int l4), (6, .int l6)] [.int q1, .int q0] := by
  unfold fX10_years_147 at hf
  refine v_iadd (pc := 147) F dX10_years_147 ?_
  refine v_istore (pc := 148) (lv' := [(0, .ref (gA g 0)), (2, .int l2), (3, .int l3), (4, .int l4), (5, .int (q0 + q1)), (6, .int l6)]) F dX10_years_148 (by decide) rfl ?_
  refine v_iinc (pc := 150) (j := 5) (v := l6 + 1) (lv' := [(0, .ref (gA g 0)), (2, .int l2), (3, .int l3), (4, .int l4), (5, .int (q0 + q1)), (6, .int (l6 + 1))]) F dX10_years_150 rfl (congrArg (fun z => l6 + z) ic_1) (by decide) rfl ?_
  refine v_goto (pc := 153) (tgt := 58) F dX10_years_153 (by decide) ?_
  exact hk (h, l4, q0 + q1, l6 + 1) (Option.some.inj hf).symm
set_option maxRecDepth 100000 in
set_option maxHeartbeats 4000000 in
theorem tX10_years_114 {p : Program} {l : Launch} {e : Env} {s : State} {m : MethodId} {args : Array Value} {below : List Frame} {meth : Method} {c : Code} {g : GE} {B : Nat} {h : ST}  {l2 : Int32} {l3 : Int32} {l4 : Int32} {l5 : Int32} {l6 : Int32} (F : Fx p s m args meth c cX10_years 8 "DustParish" 395 g B)
    {Q : State → Prop} {y : (ST × Int32 × Int32 × Int32) ⊕ (ST × Int32)} (hk : ∀ v : (ST × Int32 × Int32 × Int32), y = Sum.inl v → V p l e 8 1 s m args below meth c Q KC 395 g B 8 0 v.1 58 [(0, .ref (gA g 0)), (2, .int l2), (3, .int l3), (4, .int v.2.1), (5, .int v.2.2.1), (6, .int v.2.2.2)] []) (hx0 : ∀ v : (ST × Int32), y = Sum.inr v → V p l e 8 1 s m args below meth c Q KC 395 g B 8 0 v.1 156 [(0, .ref (gA g 0)), (3, .int l3), (5, .int v.2)] []) (hf : fX10_years_114 h l2 l3 l4 l5 l6 = some y) : V p l e 8 1 s m args below meth c Q KC 395 g B 8 0 h 114 [(0, .ref (gA g 0)), (2, .int l2), (3, .int l3), (4, .int l4), (5, .int l5), (6, .int l6)] [] := by
  unfold fX10_years_114 at hf
  refine v_aload_n (pc := 114) (j := 0) F dX10_years_114 rfl rfl ?_
  obtain ⟨f11, e12, hf⟩ := bnd_some hf
  obtain ⟨ho_f11, hk_f11, e12⟩ := rf_in e12
  refine v_ifl (pc := 115) F fl_X10_23 dX10_years_115 kc_0.1 kc_0.2 (fv_9_3 e12) ?_
  refine v_aload_n (pc := 118) (j := 0) F dX10_years_118 rfl rfl ?_
  refine v_ifl (pc := 119) F fl_X10_56 dX10_years_119 kc_0.1 kc_0.2 fv_9_9 ?_
  refine v_iconst (pc := 122) (v := 1) F dX10_years_122 ic_1 ?_
  obtain ⟨r13, e14, hf⟩ := bnd_some hf
  refine v_callSv (pc := 123) (As := [.ref (gA g f11), .ref (gA g 386), .int 1]) F cl_X10_214 dX10_years_123 (kX1_passMany ho_f11 hk_f11 kc_386.1 kc_386.2 e14) rfl rfl (Nat.le_of_ble_eq_true rfl) (by decide) (Nat.zero_le _) ?_
  refine v_iload (pc := 126) (j := 4) F dX10_years_126 rfl ?_
  refine v_aload_n (pc := 128) (j := 0) F dX10_years_128 rfl rfl ?_
  obtain ⟨f15, e16, hf⟩ := bnd_some hf
  obtain ⟨ho_f15, hk_f15, e16⟩ := rf_in e16
  refine v_ifl (pc := 129) F fl_X10_23 dX10_years_129 kc_0.1 kc_0.2 (fv_9_3 e16) ?_
  refine v_aload_n (pc := 132) (j := 0) F dX10_years_132 rfl rfl ?_
  refine v_ifl (pc := 133) F fl_X10_56 dX10_years_133 kc_0.1 kc_0.2 fv_9_9 ?_
  obtain ⟨r17, e18, hf⟩ := bnd_some hf
  refine v_callSi (pc := 136) (As := [.ref (gA g f15), .ref (gA g 386)]) F cl_X10_140 dX10_years_136 (kX1_heretics ho_f15 hk_f15 kc_386.1 kc_386.2 e18) rfl rfl (Nat.le_of_ble_eq_true rfl) (by decide) (Nat.zero_le _) ?_
  refine v_if_eq (pc := 139) (tgt := 146) F dX10_years_139 (by decide) (fun c19 => ?_) (fun c19 => ?_)
  · have hf := ite_t hf c19
    refine v_iconst (pc := 146) (v := 0) F dX10_years_146 ic_0 ?_
    refine V.sub (lv' := [(0, .ref (gA g 0)), (2, .int l2), (3, .int l3), (4, .int l4), (6, .int l6)]) [0, 1, 2, 3, 5] rfl ?_
    exact tX10_years_147 F hk hx0 hf
  · have hf := ite_f hf c19
    refine v_iconst (pc := 142) (v := 1) F dX10_years_142 ic_1 ?_
    refine v_goto (pc := 143) (tgt := 147) F dX10_years_143 (by decide) ?_
    refine V.sub (lv' := [(0, .ref (gA g 0)), (2, .int l2), (3, .int l3), (4, .int l4), (6, .int l6)]) [0, 1, 2, 3, 5] rfl ?_
    exact tX10_years_147 F hk hx0 hf
set_option maxRecDepth 100000 in
set_option maxHeartbeats 4000000 in
theorem tX10_years_58 {p : Program} {l : Launch} {e : Env} {s : State} {m : MethodId} {args : Array Value} {below : List Frame} {meth : Method} {c : Code} {g : GE} {B : Nat}  {l2 : Int32} {l3 : Int32} {Q : State → Prop} {x : (ST × Int32)} {nf : Nat} {s0 : (ST × Int32 × Int32 × Int32)} (F : Fx p s m args meth c cX10_years 8 "DustParish" 395 g B) (hX0 : V p l e 8 1 s m args below meth c Q KC 395 g B 8 0 x.1 156 [(0, .ref (gA g 0)), (3, .int l3), (5, .int x.2)] []) (hl : lp nf (fX10_years_58 l2 l3) s0 = some x) : V p l e 8 1 s m args below meth c Q KC 395 g B 8 0 s0.1 58 [(0, .ref (gA g 0)), (2, .int l2), (3, .int l3), (4, .int s0.2.1), (5, .int s0.2.2.1), (6, .int s0.2.2.2)] [] := by
  refine lp_ind (P := fun s0 => V p l e 8 1 s m args below meth c Q KC 395 g B 8 0 s0.1 58 [(0, .ref (gA g 0)), (2, .int l2), (3, .int l3), (4, .int s0.2.1), (5, .int s0.2.2.1), (6, .int s0.2.2.2)] []) ?_ nf s0 hl
  intro s1 y hf hk hx
  have hx0 : ∀ v : (ST × Int32), y = Sum.inr v → V p l e 8 1 s m args below meth c Q KC 395 g B 8 0 v.1 156 [(0, .ref (gA g 0)), (3, .int l3), (5, .int v.2)] [] := fun v e9 => by rw [hx v e9]; exact hX0
  unfold fX10_years_58 at hf
  refine v_iload (pc := 58) (j := 5) F dX10_years_58 rfl ?_
  refine v_iload_n (pc := 60) (j := 1) F dX10_years_60 rfl rfl ?_
  refine v_icmp_ge (pc := 61) (tgt := 156) F dX10_years_61 (by decide) (fun c7 => ?_) (fun c7 => ?_)
  · have hf := ite_t hf c7
    refine V.sub (lv' := [(0, .ref (gA g 0)), (3, .int l3), (5, .int s1.2.2.1)]) [0, 2, 4] rfl ?_
    exact hx0 (s1.1, s1.2.2.1) (Option.some.inj hf).symm
  · have hf := ite_f hf c7
    refine v_aload_n (pc := 64) (j := 0) F dX10_years_64 rfl rfl ?_
    obtain ⟨f8, e9, hf⟩ := bnd_some hf
    obtain ⟨ho_f8, hk_f8, e9⟩ := rf_in e9
    refine v_ifl (pc := 65) F fl_X10_23 dX10_years_65 kc_0.1 kc_0.2 (fv_9_3 e9) ?_
    refine v_ifl (pc := 68) F fl_X10_104 dX10_years_68 ho_f8 hk_f8 fv_1_0 ?_
    refine v_if_le (pc := 71) (tgt := 114) F dX10_years_71 (by decide) (fun c10 => ?_) (fun c10 => ?_)
    · have hf := ite_t hf c10
      exact tX10_years_114 F hk hx0 hf
    · have hf := ite_f hf c10
      refine v_iload (pc := 74) (j := 3) F dX10_years_74 rfl ?_
      obtain ⟨r20, e21, hf⟩ := bnd_some hf
      refine v_callSi (pc := 76) (As := [.int s1.2.1]) F cl_X10_333 dX10_years_76 (kX10_nextSeed e21) rfl rfl (Nat.le_of_ble_eq_true rfl) (by decide) (Nat.zero_le _) ?_
      refine v_istore (pc := 79) (lv' := [(0, .ref (gA g 0)), (2, .int l2), (3, .int l3), (4, .int r20), (5, .int s1.2.2.1), (6, .int s1.2.2.2)]) F dX10_years_79 (by decide) rfl ?_
      refine v_iload (pc := 81) (j := 3) F dX10_years_81 rfl ?_
      refine v_aload_n (pc := 83) (j := 0) F dX10_years_83 rfl rfl ?_
      obtain ⟨f22, e23, hf⟩ := bnd_some hf
      obtain ⟨ho_f22, hk_f22, e23⟩ := rf_in e23
      refine v_ifl (pc := 84) F fl_X10_23 dX10_years_84 kc_0.1 kc_0.2 (fv_9_3 e23) ?_
      refine v_ifl (pc := 87) F fl_X10_104 dX10_years_87 ho_f22 hk_f22 fv_1_0 ?_
      obtain ⟨r24, e25, hf⟩ := bnd_some hf
      refine v_callSi (pc := 90) (As := [.int r20, .int (s1.1 f22 0)]) F cl_X10_336 dX10_years_90 (kX10_draw e25) rfl rfl (Nat.le_of_ble_eq_true rfl) (by decide) (Nat.zero_le _) ?_
      refine v_istore (pc := 93) (lv' := [(0, .ref (gA g 0)), (2, .int l2), (3, .int l3), (4, .int r20), (5, .int s1.2.2.1), (6, .int s1.2.2.2), (7, .int r24)]) F dX10_years_93 (by decide) rfl ?_
      refine v_iload (pc := 95) (j := 3) F dX10_years_95 rfl ?_
      obtain ⟨r26, e27, hf⟩ := bnd_some hf
      refine v_callSi (pc := 97) (As := [.int r20]) F cl_X10_333 dX10_years_97 (kX10_nextSeed e27) rfl rfl (Nat.le_of_ble_eq_true rfl) (by decide) (Nat.zero_le _) ?_
      refine v_istore (pc := 100) (lv' := [(0, .ref (gA g 0)), (2, .int l2), (3, .int l3), (4, .int r26), (5, .int s1.2.2.1), (6, .int s1.2.2.2), (7, .int r24)]) F dX10_years_100 (by decide) rfl ?_
      refine v_aload_n (pc := 102) (j := 0) F dX10_years_102 rfl rfl ?_
      refine v_iload (pc := 103) (j := 6) F dX10_years_103 rfl ?_
      refine v_iload (pc := 105) (j := 3) F dX10_years_105 rfl ?_
      refine v_iconst (pc := 107) (v := 4) F dX10_years_107 ic_4 ?_
      obtain ⟨r28, e29, hf⟩ := bnd_some hf
      refine v_callSi (pc := 108) (As := [.int r26, .int 4]) F cl_X10_336 dX10_years_108 (kX10_draw e29) rfl rfl (Nat.le_of_ble_eq_true rfl) (by decide) (Nat.zero_le _) ?_
      obtain ⟨r30, e31, hf⟩ := bnd_some hf
      refine v_callVv (pc := 111) (As := [.int r24, .int r28]) F cl_X10_339 dX10_years_111 (kX10_happen e31) kc_0.1 kc_0.2 rc_9 rfl rfl (Nat.le_of_ble_eq_true rfl) (by decide) (Nat.zero_le _) ?_
      refine V.sub (lv' := [(0, .ref (gA g 0)), (2, .int l2), (3, .int l3), (4, .int r26), (5, .int s1.2.2.1), (6, .int s1.2.2.2)]) [0, 1, 2, 3, 4, 5] rfl ?_
      exact tX10_years_114 F hk hx0 hf
set_option maxRecDepth 100000 in
set_option maxHeartbeats 4000000 in
theorem tX10_years_193 {p : Program} {l : Launch} {e : Env} {s : State} {m : MethodId} {args : Array Value} {below : List Frame} {meth : Method} {c : Code} {g : GE} {B : Nat} {h : ST}  {q0 : Int32} (F : Fx p s m args meth c cX10_years 8 "DustParish" 395 g B)
    {y : (Int32 ⊕ Nat) × ST} (hr : meth.sig.returnType = (some .int)) (hT : l.stackTraces = false) (hex : ∀ x ∈ c.exceptionTable.toList, False) (hf : fX10_years_193 h q0 = some y) : V p l e 8 1 s m args below meth c (vx_MQ below (QX KC 395 g (ocI y.1) y.2) (XX KC 395 g (ocI y.1) y.2) args s 1 (6 * 1) (WA 395 g)) KC 395 g B 8 0 h 193 [] [.int q0] := by
  unfold fX10_years_193 at hf
  exact v_xiret (pc := 193) F hr dX10_years_193 (some_fst hf) (some_snd hf) (by decide)
set_option maxRecDepth 100000 in
set_option maxHeartbeats 4000000 in
theorem kX10_years {l : Launch} {g : GE} {B : Nat} {h : ST} {a1 : Int32} {a2 : Int32} {a3 : Int32} {y : (Int32 ⊕ Nat) × ST} (hT : l.stackTraces = false) (hf : fX10_years h a1 a2 a3 = some y) : XT l yX10_years cX10_years 8 (some .int) 8 1 KC 395 g B [.ref (gA g 0), .int a1, .int a2, .int a3] h (ocI y.1) y.2 := by
  refine XT.of pn_X10 (Nat.le_of_ble_eq_true rfl) ?_
  intro p e s m below meth c hr hex F
  have F : Fx p s m _ meth c cX10_years 8 "DustParish" 395 g B := F
  refine V_lv (lv' := [(0, .ref (gA g 0)), (1, .int a1), (2, .int a2), (3, .int a3)]) rfl ?_
  unfold fX10_years at hf
  refine v_iload_n (pc := 0) (j := 3) F dX10_years_0 rfl rfl ?_
  refine v_if_lt (pc := 1) (tgt := 9) F dX10_years_1 (by decide) (fun c1 => ?_) (fun c1 => ?_)
  · have hf := ite_t hf c1
    refine V.sub (lv' := []) [] rfl ?_
    exact tX10_years_9 F hr hT hex hf
  · have hf := ite_f hf c1
    refine v_iload_n (pc := 4) (j := 3) F dX10_years_4 rfl rfl ?_
    refine v_iconst (pc := 5) (v := 2) F dX10_years_5 ic_2 ?_
    refine v_icmp_le (pc := 6) (tgt := 17) F dX10_years_6 (by decide) (fun c2 => ?_) (fun c2 => ?_)
    · have hf := ite_t hf c2
      refine v_iload_n (pc := 17) (j := 2) F dX10_years_17 rfl rfl ?_
      refine v_if_lt (pc := 18) (tgt := 27) F dX10_years_18 (by decide) (fun c3 => ?_) (fun c3 => ?_)
      · have hf := ite_t hf c3
        refine V.sub (lv' := []) [] rfl ?_
        exact tX10_years_27 F hr hT hex hf
      · have hf := ite_f hf c3
        refine v_iload_n (pc := 21) (j := 2) F dX10_years_21 rfl rfl ?_
        refine v_bipush (pc := 22) (v := 60) F dX10_years_22 bp_60 ?_
        refine v_icmp_le (pc := 24) (tgt := 35) F dX10_years_24 (by decide) (fun c4 => ?_) (fun c4 => ?_)
        · have hf := ite_t hf c4
          refine v_aload_n (pc := 35) (j := 0) F dX10_years_35 rfl rfl ?_
          refine v_ifl (pc := 36) F fl_X10_56 dX10_years_36 kc_0.1 kc_0.2 fv_9_9 ?_
          refine v_aload_n (pc := 39) (j := 0) F dX10_years_39 rfl rfl ?_
          refine v_ifl (pc := 40) F fl_X10_42 dX10_years_40 kc_0.1 kc_0.2 fv_9_6 ?_
          refine v_ifl (pc := 43) F fl_X10_122 dX10_years_43 kc_42.1 kc_42.2 fv_2_0 ?_
          obtain ⟨r5, e6, hf⟩ := bnd_some hf
          refine v_callVv (pc := 46) (As := [.ref (gA g 43)]) F cl_X10_241 dX10_years_46 (kX8_copy kc_386.1 kc_386.2 kc_43.1 kc_43.2 e6) kc_386.1 kc_386.2 rc_7 rfl rfl (Nat.le_of_ble_eq_true rfl) (by decide) (Nat.zero_le _) ?_
          refine v_iload_n (pc := 49) (j := 1) F dX10_years_49 rfl rfl ?_
          refine v_istore (pc := 50) (lv' := [(0, .ref (gA g 0)), (1, .int a1), (2, .int a2), (3, .int a3), (4, .int a1)]) F dX10_years_50 (by decide) rfl ?_
          refine v_iconst (pc := 52) (v := 0) F dX10_years_52 ic_0 ?_
          refine v_istore (pc := 53) (lv' := [(0, .ref (gA g 0)), (1, .int a1), (2, .int a2), (3, .int a3), (4, .int a1), (5, .int 0)]) F dX10_years_53 (by decide) rfl ?_
          refine v_iconst (pc := 55) (v := 0) F dX10_years_55 ic_0 ?_
          refine v_istore (pc := 56) (lv' := [(0, .ref (gA g 0)), (1, .int a1), (2, .int a2), (3, .int a3), (4, .int a1), (5, .int 0), (6, .int 0)]) F dX10_years_56 (by decide) rfl ?_
          obtain ⟨x32, e33, hf⟩ := bnd_some hf
          refine V.sub (lv' := [(0, .ref (gA g 0)), (2, .int a2), (3, .int a3), (4, .int a1), (5, .int 0), (6, .int 0)]) [0, 2, 3, 4, 5, 6] rfl ?_
          refine tX10_years_58 (s0 := (r5, a1, 0, 0)) F ?_ e33
          refine v_iload_n (pc := 156) (j := 1) F dX10_years_156 rfl rfl ?_
          refine v_iconst (pc := 157) (v := 1) F dX10_years_157 ic_1 ?_
          refine v_icmp_ne (pc := 158) (tgt := 164) F dX10_years_158 (by decide) (fun c34 => ?_) (fun c34 => ?_)
          · have hf := ite_f hf c34
            refine v_iload_n (pc := 164) (j := 1) F dX10_years_164 rfl rfl ?_
            refine v_if_ne (pc := 165) (tgt := 189) F dX10_years_165 (by decide) (fun c35 => ?_) (fun c35 => ?_)
            · have hf := ite_f hf c35
              refine v_aload_n (pc := 189) (j := 0) F dX10_years_189 rfl rfl ?_
              obtain ⟨r36, e37, hf⟩ := bnd_some hf
              refine v_callVi (pc := 190) (As := []) F cl_X10_342 dX10_years_190 (kX10_fullestTrialRoom e37) kc_0.1 kc_0.2 rc_9 rfl rfl (Nat.le_of_ble_eq_true rfl) (by decide) (Nat.zero_le _) ?_
              refine V.sub (lv' := []) [] rfl ?_
              exact tX10_years_193 F hr hT hex hf
            · have hf := ite_t hf c35
              refine v_aload_n (pc := 168) (j := 0) F dX10_years_168 rfl rfl ?_
              refine v_ifl (pc := 169) F fl_X10_56 dX10_years_169 kc_0.1 kc_0.2 fv_9_9 ?_
              refine v_ifl (pc := 172) F fl_X10_134 dX10_years_172 kc_386.1 kc_386.2 fv_7_1 ?_
              refine v_aload_n (pc := 175) (j := 0) F dX10_years_175 rfl rfl ?_
              refine v_ifl (pc := 176) F fl_X10_42 dX10_years_176 kc_0.1 kc_0.2 fv_9_6 ?_
              refine v_ifl (pc := 179) F fl_X10_122 dX10_years_179 kc_42.1 kc_42.2 fv_2_0 ?_
              refine v_ifl (pc := 182) F fl_X10_134 dX10_years_182 kc_43.1 kc_43.2 fv_7_1 ?_
              refine v_isub (pc := 185) F dX10_years_185 ?_
              refine v_goto (pc := 186) (tgt := 193) F dX10_years_186 (by decide) ?_
              refine V.sub (lv' := []) [] rfl ?_
              exact tX10_years_193 F hr hT hex hf
          · have hf := ite_t hf c34
            refine v_iload (pc := 161) (j := 2) F dX10_years_161 rfl ?_
            exact v_xiret (pc := 163) F hr dX10_years_163 (some_fst hf) (some_snd hf) (by decide)
        · have hf := ite_f hf c4
          refine V.sub (lv' := []) [] rfl ?_
          exact tX10_years_27 F hr hT hex hf
    · have hf := ite_f hf c2
      refine V.sub (lv' := []) [] rfl ?_
      exact tX10_years_9 F hr hT hex hf
