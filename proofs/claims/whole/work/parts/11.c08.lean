def fX10_shares_10 (h : ST)  : Option ((Int32 ⊕ Nat) × ST) :=
  some (.inr 2, h)
def fX10_shares (h : ST) (a1 : Int32) : Option ((Int32 ⊕ Nat) × ST) :=
  if a1 < 1 then
  fX10_shares_10 h 
  else
  if a1 ≤ 4 then
    bnd (fJ7_fill_53178 h 393 4 0) fun r3 =>
      bnd (rf KC 395 1 (r3 0 3)) fun f5 =>
      bnd (fX1_dustInAll r3 f5 43) fun r7 =>
      bnd (fX10_evenest 12 r3 0 a1 (r7 + 1)) fun r9 =>
      some (.inl r9.1, r9.2)
    else
    fX10_shares_10 h 
set_option maxRecDepth 100000 in
set_option maxHeartbeats 4000000 in
theorem tX10_shares_10 {p : Program} {l : Launch} {e : Env} {s : State} {m : MethodId} {args : Array Value} {below : List Frame} {meth : Method} {c : Code} {g : GE} {B : Nat} {h : ST}  (F : Fx p s m args meth c cX10_shares 2 "DustParish" 395 g B)
    {y : (Int32 ⊕ Nat) × ST} (hr : meth.sig.returnType = (some .int)) (hT : l.stackTraces = false) (hex : ∀ x ∈ c.exceptionTable.toList, False) (hf : fX10_shares_10 h  = some y) : V p l e 15 1 s m args below meth c (vx_MQ below (QX KC 395 g (ocI y.1) y.2) (XX KC 395 g (ocI y.1) y.2) args s 1 (6 * 1) (WA 395 g)) KC 395 g B 2 0 h 10 [] [] := by
  unfold fX10_shares_10 at hf
  exact v_throw0 (pc := 10) (E := xIA) F hT xw_IA hex dX10_shares_10 dX10_shares_13 dX10_shares_14 dX10_shares_17 (congrArg ocI (some_fst hf)) (some_snd hf) (by decide) (Nat.le_of_ble_eq_true rfl) (by decide)
set_option maxRecDepth 100000 in
set_option maxHeartbeats 4000000 in
theorem kX10_shares {l : Launch} {g : GE} {B : Nat} {h : ST} {a1 : Int32} {y : (Int32 ⊕ Nat) × ST} (hT : l.stackTraces = false) (hf : fX10_shares h a1 = some y) : XT l yX10_shares cX10_shares 2 (some .int) 15 1 KC 395 g B [.ref (gA g 0), .int a1] h (ocI y.1) y.2 := by
  refine XT.of pn_X10 (Nat.le_of_ble_eq_true rfl) ?_
  intro p e s m below meth c hr hex F
  have F : Fx p s m _ meth c cX10_shares 2 "DustParish" 395 g B := F
  refine V_lv (lv' := [(0, .ref (gA g 0)), (1, .int a1)]) rfl ?_
  unfold fX10_shares at hf
  refine v_iload_n (pc := 0) (j := 1) F dX10_shares_0 rfl rfl ?_
  refine v_iconst (pc := 1) (v := 1) F dX10_shares_1 ic_1 ?_
  refine v_icmp_lt (pc := 2) (tgt := 10) F dX10_shares_2 (by decide) (fun c1 => ?_) (fun c1 => ?_)
  · have hf := ite_t hf c1
    refine V.sub (lv' := []) [] rfl ?_
    exact tX10_shares_10 F hr hT hex hf
  · have hf := ite_f hf c1
    refine v_iload_n (pc := 5) (j := 1) F dX10_shares_5 rfl rfl ?_
    refine v_iconst (pc := 6) (v := 4) F dX10_shares_6 ic_4 ?_
    refine v_icmp_le (pc := 7) (tgt := 18) F dX10_shares_7 (by decide) (fun c2 => ?_) (fun c2 => ?_)
    · have hf := ite_t hf c2
      refine v_aload_n (pc := 18) (j := 0) F dX10_shares_18 rfl rfl ?_
      refine v_ifl (pc := 19) F fl_X10_70 dX10_shares_19 kc_0.1 kc_0.2 fv_9_13 ?_
      refine v_iconst (pc := 22) (v := 0) F dX10_shares_22 ic_0 ?_
      obtain ⟨r3, e4, hf⟩ := bnd_some hf
      refine v_callSv (pc := 23) (As := [.ref (gA g 393), .int 0]) F cl_X10_282 dX10_shares_23 (kJ7_fill_53178 kc_393.1 kc_393.2 e4) rfl rfl (Nat.le_of_ble_eq_true rfl) (by decide) (Nat.zero_le _) ?_
      refine v_aload_n (pc := 26) (j := 0) F dX10_shares_26 rfl rfl ?_
      refine v_iconst (pc := 27) (v := 0) F dX10_shares_27 ic_0 ?_
      refine v_iload_n (pc := 28) (j := 1) F dX10_shares_28 rfl rfl ?_
      refine v_aload_n (pc := 29) (j := 0) F dX10_shares_29 rfl rfl ?_
      obtain ⟨f5, e6, hf⟩ := bnd_some hf
      obtain ⟨ho_f5, hk_f5, e6⟩ := rf_in e6
      refine v_ifl (pc := 30) F fl_X10_23 dX10_shares_30 kc_0.1 kc_0.2 (fv_9_3 e6) ?_
      refine v_aload_n (pc := 33) (j := 0) F dX10_shares_33 rfl rfl ?_
      refine v_ifl (pc := 34) F fl_X10_42 dX10_shares_34 kc_0.1 kc_0.2 fv_9_6 ?_
      refine v_ifl (pc := 37) F fl_X10_122 dX10_shares_37 kc_42.1 kc_42.2 fv_2_0 ?_
      obtain ⟨r7, e8, hf⟩ := bnd_some hf
      refine v_callSi (pc := 40) (As := [.ref (gA g f5), .ref (gA g 43)]) F cl_X10_128 dX10_shares_40 (kX1_dustInAll ho_f5 hk_f5 kc_43.1 kc_43.2 e8) rfl rfl (Nat.le_of_ble_eq_true rfl) (by decide) (Nat.zero_le _) ?_
      refine v_iconst (pc := 43) (v := 1) F dX10_shares_43 ic_1 ?_
      refine v_iadd (pc := 44) F dX10_shares_44 ?_
      obtain ⟨r9, e10, hf⟩ := bnd_some hf
      refine v_callVi (pc := 45) (As := [.int 0, .int a1, .int (r7 + 1)]) F cl_X10_297 dX10_shares_45 (kX10_evenest (dd := 12) e10) kc_0.1 kc_0.2 rc_9 rfl rfl (Nat.le_of_ble_eq_true rfl) (by decide) (Nat.zero_le _) ?_
      exact v_xiret (pc := 48) F hr dX10_shares_48 (some_fst hf) (some_snd hf) (by decide)
    · have hf := ite_f hf c2
      refine V.sub (lv' := []) [] rfl ?_
      exact tX10_shares_10 F hr hT hex hf
def fX10_sneeze_16 (h : ST)  : Option ((Int32 ⊕ Nat) × ST) :=
  bnd (fX10_refuse h 1) fun r4 =>
  some (.inl r4.1, r4.2)
def fX10_sneeze (h : ST) (a1 : Int32) (a2 : Int32) : Option ((Int32 ⊕ Nat) × ST) :=
  bnd (fX10_needRoom h a1) fun r1 =>
  sm r1 (fun _ => if a2 < 1 then
  fX10_sneeze_16 h 
  else
  if a2 ≤ 99 then
    bnd (fX0_remember h 47 43) fun r7 =>
      bnd (fX8_steal r7 43 a1 a2) fun r9 =>
      some (.inl r9.1, r9.2)
    else
    fX10_sneeze_16 h ) (fun r1 => some (.inr r1, h))
set_option maxRecDepth 100000 in
set_option maxHeartbeats 4000000 in
theorem tX10_sneeze_16 {p : Program} {l : Launch} {e : Env} {s : State} {m : MethodId} {args : Array Value} {below : List Frame} {meth : Method} {c : Code} {g : GE} {B : Nat} {h : ST}  (F : Fx p s m args meth c cX10_sneeze 3 "DustParish" 395 g B)
    {y : (Int32 ⊕ Nat) × ST} (hr : meth.sig.returnType = (some .int)) (hT : l.stackTraces = false) (hex : ∀ x ∈ c.exceptionTable.toList, False) (hf : fX10_sneeze_16 h  = some y) : V p l e 9 1 s m args below meth c (vx_MQ below (QX KC 395 g (ocI y.1) y.2) (XX KC 395 g (ocI y.1) y.2) args s 1 (6 * 1) (WA 395 g)) KC 395 g B 3 1 h 16 [(0, .ref (gA g 0))] [] := by
  unfold fX10_sneeze_16 at hf
  refine v_aload_n (pc := 16) (j := 0) F dX10_sneeze_16 rfl rfl ?_
  refine v_iconst (pc := 17) (v := 1) F dX10_sneeze_17 ic_1 ?_
  obtain ⟨r4, e5, hf⟩ := bnd_some hf
  refine v_callVi (pc := 18) (As := [.int 1]) F cl_X10_207 dX10_sneeze_18 (kX10_refuse e5) kc_0.1 kc_0.2 rc_9 rfl rfl (Nat.le_of_ble_eq_true rfl) (by decide) (by decide) ?_
  exact v_xiret (pc := 21) F hr dX10_sneeze_21 (some_fst hf) (some_snd hf) (by decide)
set_option maxRecDepth 100000 in
set_option maxHeartbeats 4000000 in
theorem kX10_sneeze {l : Launch} {g : GE} {B : Nat} {h : ST} {a1 : Int32} {a2 : Int32} {y : (Int32 ⊕ Nat) × ST} (hT : l.stackTraces = false) (hf : fX10_sneeze h a1 a2 = some y) : XT l yX10_sneeze cX10_sneeze 3 (some .int) 9 1 KC 395 g B [.ref (gA g 0), .int a1, .int a2] h (ocI y.1) y.2 := by
  refine XT.of pn_X10 (Nat.le_of_ble_eq_true rfl) ?_
  intro p e s m below meth c hr hex F
  have F : Fx p s m _ meth c cX10_sneeze 3 "DustParish" 395 g B := F
  refine V_lv (lv' := [(0, .ref (gA g 0)), (1, .int a1), (2, .int a2)]) rfl ?_
  unfold fX10_sneeze at hf
  refine v_aload_n (pc := 0) (j := 0) F dX10_sneeze_0 rfl rfl ?_
  refine v_iload_n (pc := 1) (j := 1) F dX10_sneeze_1 rfl rfl ?_
  obtain ⟨r1, e2, hf⟩ := bnd_some hf
  rcases r1 with v9 | r1
  · have hf := sm_l hf
    refine v_xcallV (pc := 2) (As := [.int a1]) F cl_X10_162 dX10_sneeze_2 (kX10_needRoom hT e2) kc_0.1 kc_0.2 rc_9 rfl rfl (Nat.le_of_ble_eq_true rfl) (by decide) (by decide) ?_
    refine v_iload_n (pc := 5) (j := 2) F dX10_sneeze_5 rfl rfl ?_
    refine v_iconst (pc := 6) (v := 1) F dX10_sneeze_6 ic_1 ?_
    refine v_icmp_lt (pc := 7) (tgt := 16) F dX10_sneeze_7 (by decide) (fun c3 => ?_) (fun c3 => ?_)
    · have hf := ite_t hf c3
      refine V.sub (lv' := [(0, .ref (gA g 0))]) [0] rfl ?_
      exact tX10_sneeze_16 F hr hT hex hf
    · have hf := ite_f hf c3
      refine v_iload_n (pc := 10) (j := 2) F dX10_sneeze_10 rfl rfl ?_
      refine v_bipush (pc := 11) (v := 99) F dX10_sneeze_11 bp_99 ?_
      refine v_icmp_le (pc := 13) (tgt := 22) F dX10_sneeze_13 (by decide) (fun c6 => ?_) (fun c6 => ?_)
      · have hf := ite_t hf c6
        refine v_aload_n (pc := 22) (j := 0) F dX10_sneeze_22 rfl rfl ?_
        refine v_ifl (pc := 23) F fl_X10_42 dX10_sneeze_23 kc_0.1 kc_0.2 fv_9_6 ?_
        refine v_ifl (pc := 26) F fl_X10_143 dX10_sneeze_26 kc_42.1 kc_42.2 fv_2_1 ?_
        refine v_aload_n (pc := 29) (j := 0) F dX10_sneeze_29 rfl rfl ?_
        refine v_ifl (pc := 30) F fl_X10_42 dX10_sneeze_30 kc_0.1 kc_0.2 fv_9_6 ?_
        refine v_ifl (pc := 33) F fl_X10_122 dX10_sneeze_33 kc_42.1 kc_42.2 fv_2_0 ?_
        obtain ⟨r7, e8, hf⟩ := bnd_some hf
        refine v_callVv (pc := 36) (As := [.ref (gA g 43)]) F cl_X10_210 dX10_sneeze_36 (kX0_remember kc_47.1 kc_47.2 kc_43.1 kc_43.2 e8) kc_47.1 kc_47.2 rc_0 rfl rfl (Nat.le_of_ble_eq_true rfl) (by decide) (by decide) ?_
        refine v_aload_n (pc := 39) (j := 0) F dX10_sneeze_39 rfl rfl ?_
        refine v_ifl (pc := 40) F fl_X10_42 dX10_sneeze_40 kc_0.1 kc_0.2 fv_9_6 ?_
        refine v_ifl (pc := 43) F fl_X10_122 dX10_sneeze_43 kc_42.1 kc_42.2 fv_2_0 ?_
        refine v_iload_n (pc := 46) (j := 1) F dX10_sneeze_46 rfl rfl ?_
        refine v_iload_n (pc := 47) (j := 2) F dX10_sneeze_47 rfl rfl ?_
        obtain ⟨r9, e10, hf⟩ := bnd_some hf
        refine v_callVi (pc := 48) (As := [.int a1, .int a2]) F cl_X10_226 dX10_sneeze_48 (kX8_steal kc_43.1 kc_43.2 e10) kc_43.1 kc_43.2 rc_7 rfl rfl (Nat.le_of_ble_eq_true rfl) (by decide) (by decide) ?_
        exact v_xiret (pc := 51) F hr dX10_sneeze_51 (some_fst hf) (some_snd hf) (by decide)
      · have hf := ite_f hf c6
        refine V.sub (lv' := [(0, .ref (gA g 0))]) [0] rfl ?_
        exact tX10_sneeze_16 F hr hT hex hf
  · have hf := sm_r hf
    exact v_xcallX (pc := 2) (As := [.int a1]) F cl_X10_162 dX10_sneeze_2 (kX10_needRoom hT e2) kc_0.1 kc_0.2 rc_9 rfl rfl (Nat.le_of_ble_eq_true rfl) (by decide) (by decide) hex (congrArg ocI (some_fst hf)) (some_snd hf)
def fX10_sweep_50 (h : ST)  : Option ((Int32 ⊕ Nat) × ST) :=
  bnd (fX10_refuse h 1) fun r10 =>
  some (.inl r10.1, r10.2)
def fX10_sweep (h : ST) (a1 : Int32) (a2 : Int32) (a3 : Int32) : Option ((Int32 ⊕ Nat) × ST) :=
  bnd (fX10_needRoom h a1) fun r1 =>
  sm r1 (fun _ => bnd (fX10_needRoom h a2) fun r3 =>
  sm r3 (fun _ => bnd (rf KC 395 1 (h 0 3)) fun f5 =>
  bnd (fX2_hasDoor h f5 a1 a2) fun r7 =>
  if r7 = 0 then
  fX10_sweep_50 h 
  else
  if a3 < 1 then
    fX10_sweep_50 h 
    else
    if 999 < a3 then
      fX10_sweep_50 h 
      else
      bnd (rd 9 (h 44) a1) fun v14 =>
        if a3 ≤ v14 then
        bnd (fX0_remember h 47 43) fun r17 =>
          bnd (fX8_bring r17 43 a1 a2 a3) fun r19 =>
          bnd (rd 9 (r19 44) a1) fun v21 =>
          some (.inl v21, r19)
        else
        fX10_sweep_50 h ) (fun r3 => some (.inr r3, h))) (fun r1 => some (.inr r1, h))
set_option maxRecDepth 100000 in
set_option maxHeartbeats 4000000 in
theorem tX10_sweep_50 {p : Program} {l : Launch} {e : Env} {s : State} {m : MethodId} {args : Array Value} {below : List Frame} {meth : Method} {c : Code} {g : GE} {B : Nat} {h : ST}  (F : Fx p s m args meth c cX10_sweep 4 "DustParish" 395 g B)
    {y : (Int32 ⊕ Nat) × ST} (hr : meth.sig.returnType = (some .int)) (hT : l.stackTraces = false) (hex : ∀ x ∈ c.exceptionTable.toList, False) (hf : fX10_sweep_50 h  = some y) : V p l e 9 2 s m args below meth c (vx_MQ below (QX KC 395 g (ocI y.1) y.2) (XX KC 395 g (ocI y.1) y.2) args s 2 (6 * 2) (WA 395 g)) KC 395 g B 4 2 h 50 [(0, .ref (gA g 0))] [] := by
  unfold fX10_sweep_50 at hf
  refine v_aload_n (pc := 50) (j := 0) F dX10_sweep_50 rfl rfl ?_
  refine v_iconst (pc := 51) (v := 1) F dX10_sweep_51 ic_1 ?_
  obtain ⟨r10, e11, hf⟩ := bnd_some hf
  refine v_callVi (pc := 52) (As := [.int 1]) F cl_X10_207 dX10_sweep_52 (kX10_refuse e11) kc_0.1 kc_0.2 rc_9 rfl rfl (Nat.le_of_ble_eq_true rfl) (by decide) (by decide) ?_
  exact v_xiret (pc := 55) F hr dX10_sweep_55 (some_fst hf) (some_snd hf) (by decide)
set_option maxRecDepth 100000 in
set_option maxHeartbeats 4000000 in
theorem kX10_sweep {l : Launch} {g : GE} {B : Nat} {h : ST} {a1 : Int32} {a2 : Int32} {a3 : Int32} {y : (Int32 ⊕ Nat) × ST} (hT : l.stackTraces = false) (hf : fX10_sweep h a1 a2 a3 = some y) : XT l yX10_sweep cX10_sweep 4 (some .int) 9 2 KC 395 g B [.ref (gA g 0), .int a1, .int a2, .int a3] h (ocI y.1) y.2 := by
  refine XT.of pn_X10 (Nat.le_of_ble_eq_true rfl) ?_
  intro p e s m below meth c hr hex F
  have F : Fx p s m _ meth c cX10_sweep 4 "DustParish" 395 g B := F
  refine V_lv (lv' := [(0, .ref (gA g 0)), (1, .int a1), (2, .int a2), (3, .int a3)]) rfl ?_
  unfold fX10_sweep at hf
  refine v_aload_n (pc := 0) (j := 0) F dX10_sweep_0 rfl rfl ?_
  refine v_iload_n (pc := 1) (j := 1) F dX10_sweep_1 rfl rfl ?_
  obtain ⟨r1, e2, hf⟩ := bnd_some hf
  rcases r1 with v9 | r1
  · have hf := sm_l hf
    refine v_xcallV (pc := 2) (As := [.int a1]) F cl_X10_162 dX10_sweep_2 (kX10_needRoom hT e2) kc_0.1 kc_0.2 rc_9 rfl rfl (Nat.le_of_ble_eq_true rfl) (by decide) (by decide) ?_
    refine v_aload_n (pc := 5) (j := 0) F dX10_sweep_5 rfl rfl ?_
    refine v_iload_n (pc := 6) (j := 2) F dX10_sweep_6 rfl rfl ?_
    obtain ⟨r3, e4, hf⟩ := bnd_some hf
    rcases r3 with v9 | r3
    · have hf := sm_l hf
      refine v_xcallV (pc := 7) (As := [.int a2]) F cl_X10_162 dX10_sweep_7 (kX10_needRoom hT e4) kc_0.1 kc_0.2 rc_9 rfl rfl (Nat.le_of_ble_eq_true rfl) (by decide) (by decide) ?_
      refine v_aload_n (pc := 10) (j := 0) F dX10_sweep_10 rfl rfl ?_
      obtain ⟨f5, e6, hf⟩ := bnd_some hf
      obtain ⟨ho_f5, hk_f5, e6⟩ := rf_in e6
      refine v_ifl (pc := 11) F fl_X10_23 dX10_sweep_11 kc_0.1 kc_0.2 (fv_9_3 e6) ?_
      refine v_iload_n (pc := 14) (j := 1) F dX10_sweep_14 rfl rfl ?_
      refine v_iload_n (pc := 15) (j := 2) F dX10_sweep_15 rfl rfl ?_
      obtain ⟨r7, e8, hf⟩ := bnd_some hf
      refine v_callVi (pc := 16) (As := [.int a1, .int a2]) F cl_X10_218 dX10_sweep_16 (kX2_hasDoor ho_f5 hk_f5 e8) ho_f5 hk_f5 rc_1 rfl rfl (Nat.le_of_ble_eq_true rfl) (by decide) (by decide) ?_
      refine v_if_eq (pc := 19) (tgt := 50) F dX10_sweep_19 (by decide) (fun c9 => ?_) (fun c9 => ?_)
      · have hf := ite_t hf c9
        refine V.sub (lv' := [(0, .ref (gA g 0))]) [0] rfl ?_
        exact tX10_sweep_50 F hr hT hex hf
      · have hf := ite_f hf c9
        refine v_iload_n (pc := 22) (j := 3) F dX10_sweep_22 rfl rfl ?_
        refine v_iconst (pc := 23) (v := 1) F dX10_sweep_23 ic_1 ?_
        refine v_icmp_lt (pc := 24) (tgt := 50) F dX10_sweep_24 (by decide) (fun c12 => ?_) (fun c12 => ?_)
        · have hf := ite_t hf c12
          refine V.sub (lv' := [(0, .ref (gA g 0))]) [0] rfl ?_
          exact tX10_sweep_50 F hr hT hex hf
        · have hf := ite_f hf c12
          refine v_iload_n (pc := 27) (j := 3) F dX10_sweep_27 rfl rfl ?_
          refine v_sipush (pc := 28) (v := 999) F dX10_sweep_28 sp_999 ?_
          refine v_icmp_gt (pc := 31) (tgt := 50) F dX10_sweep_31 (by decide) (fun c13 => ?_) (fun c13 => ?_)
          · have hf := ite_t hf c13
            refine V.sub (lv' := [(0, .ref (gA g 0))]) [0] rfl ?_
            exact tX10_sweep_50 F hr hT hex hf
          · have hf := ite_f hf c13
            refine v_iload_n (pc := 34) (j := 3) F dX10_sweep_34 rfl rfl ?_
            refine v_aload_n (pc := 35) (j := 0) F dX10_sweep_35 rfl rfl ?_
            refine v_ifl (pc := 36) F fl_X10_42 dX10_sweep_36 kc_0.1 kc_0.2 fv_9_6 ?_
            refine v_ifl (pc := 39) F fl_X10_122 dX10_sweep_39 kc_42.1 kc_42.2 fv_2_0 ?_
            refine v_ifl (pc := 42) F fl_X10_171 dX10_sweep_42 kc_43.1 kc_43.2 fv_7_3 ?_
            refine v_iload_n (pc := 45) (j := 1) F dX10_sweep_45 rfl rfl ?_
            obtain ⟨v14, e15, hf⟩ := bnd_some hf
            refine v_iald (pc := 46) F dX10_sweep_46 kc_44.1 kc_44.2 e15 ?_
            refine v_icmp_le (pc := 47) (tgt := 56) F dX10_sweep_47 (by decide) (fun c16 => ?_) (fun c16 => ?_)
            · have hf := ite_t hf c16
              refine v_aload_n (pc := 56) (j := 0) F dX10_sweep_56 rfl rfl ?_
              refine v_ifl (pc := 57) F fl_X10_42 dX10_sweep_57 kc_0.1 kc_0.2 fv_9_6 ?_
              refine v_ifl (pc := 60) F fl_X10_143 dX10_sweep_60 kc_42.1 kc_42.2 fv_2_1 ?_
              refine v_aload_n (pc := 63) (j := 0) F dX10_sweep_63 rfl rfl ?_
              refine v_ifl (pc := 64) F fl_X10_42 dX10_sweep_64 kc_0.1 kc_0.2 fv_9_6 ?_
              refine v_ifl (pc := 67) F fl_X10_122 dX10_sweep_67 kc_42.1 kc_42.2 fv_2_0 ?_
              obtain ⟨r17, e18, hf⟩ := bnd_some hf
              refine v_callVv (pc := 70) (As := [.ref (gA g 43)]) F cl_X10_210 dX10_sweep_70 (kX0_remember kc_47.1 kc_47.2 kc_43.1 kc_43.2 e18) kc_47.1 kc_47.2 rc_0 rfl rfl (Nat.le_of_ble_eq_true rfl) (by decide) (by decide) ?_
              refine v_aload_n (pc := 73) (j := 0) F dX10_sweep_73 rfl rfl ?_
              refine v_ifl (pc := 74) F fl_X10_42 dX10_sweep_74 kc_0.1 kc_0.2 fv_9_6 ?_
              refine v_ifl (pc := 77) F fl_X10_122 dX10_sweep_77 kc_42.1 kc_42.2 fv_2_0 ?_
              refine v_iload_n (pc := 80) (j := 1) F dX10_sweep_80 rfl rfl ?_
              refine v_iload_n (pc := 81) (j := 2) F dX10_sweep_81 rfl rfl ?_
              refine v_iload_n (pc := 82) (j := 3) F dX10_sweep_82 rfl rfl ?_
              obtain ⟨r19, e20, hf⟩ := bnd_some hf
              refine v_callVv (pc := 83) (As := [.int a1, .int a2, .int a3]) F cl_X10_222 dX10_sweep_83 (kX8_bring kc_43.1 kc_43.2 e20) kc_43.1 kc_43.2 rc_7 rfl rfl (Nat.le_of_ble_eq_true rfl) (by decide) (by decide) ?_
              refine v_aload_n (pc := 86) (j := 0) F dX10_sweep_86 rfl rfl ?_
              refine v_ifl (pc := 87) F fl_X10_42 dX10_sweep_87 kc_0.1 kc_0.2 fv_9_6 ?_
              refine v_ifl (pc := 90) F fl_X10_122 dX10_sweep_90 kc_42.1 kc_42.2 fv_2_0 ?_
              refine v_ifl (pc := 93) F fl_X10_171 dX10_sweep_93 kc_43.1 kc_43.2 fv_7_3 ?_
              refine v_iload_n (pc := 96) (j := 1) F dX10_sweep_96 rfl rfl ?_
              obtain ⟨v21, e22, hf⟩ := bnd_some hf
              refine v_iald (pc := 97) F dX10_sweep_97 kc_44.1 kc_44.2 e22 ?_
              exact v_xiret (pc := 98) F hr dX10_sweep_98 (some_fst hf) (some_snd hf) (by decide)
            · have hf := ite_f hf c16
              refine V.sub (lv' := [(0, .ref (gA g 0))]) [0] rfl ?_
              exact tX10_sweep_50 F hr hT hex hf
    · have hf := sm_r hf
      exact v_xcallX (pc := 7) (As := [.int a2]) F cl_X10_162 dX10_sweep_7 (kX10_needRoom hT e4) kc_0.1 kc_0.2 rc_9 rfl rfl (Nat.le_of_ble_eq_true rfl) (by decide) (by decide) hex (congrArg ocI (some_fst hf)) (some_snd hf)
  · have hf := sm_r hf
    exact v_xcallX (pc := 2) (As := [.int a1]) F cl_X10_162 dX10_sweep_2 (kX10_needRoom hT e2) kc_0.1 kc_0.2 rc_9 rfl rfl (Nat.le_of_ble_eq_true rfl) (by decide) (by decide) hex (congrArg ocI (some_fst hf)) (some_snd hf)
def fX10_taken (h : ST) (a1 : Int32) : Option ((Int32 ⊕ Nat) × ST) :=
  bnd (fX10_needAhead h a1) fun r1 =>
  sm r1 (fun _ => bnd (fX10_tryDays h a1) fun r3 =>
  some (.inl ((r3 386 1) - (r3 43 1)), r3)) (fun r1 => some (.inr r1, h))
set_option maxRecDepth 100000 in
set_option maxHeartbeats 4000000 in
theorem kX10_taken {l : Launch} {g : GE} {B : Nat} {h : ST} {a1 : Int32} {y : (Int32 ⊕ Nat) × ST} (hT : l.stackTraces = false) (hf : fX10_taken h a1 = some y) : XT l yX10_taken cX10_taken 2 (some .int) 9 1 KC 395 g B [.ref (gA g 0), .int a1] h (ocI y.1) y.2 := by
  refine XT.of pn_X10 (Nat.le_of_ble_eq_true rfl) ?_
  intro p e s m below meth c hr hex F
  have F : Fx p s m _ meth c cX10_taken 2 "DustParish" 395 g B := F
  refine V_lv (lv' := [(0, .ref (gA g 0)), (1, .int a1)]) rfl ?_
  unfold fX10_taken at hf
  refine v_iload_n (pc := 0) (j := 1) F dX10_taken_0 rfl rfl ?_
  obtain ⟨r1, e2, hf⟩ := bnd_some hf
  rcases r1 with v9 | r1
  · have hf := sm_l hf
    refine v_xcallS (pc := 1) (As := [.int a1]) F cl_X10_235 dX10_taken_1 (kX10_needAhead hT e2) rfl rfl (Nat.le_of_ble_eq_true rfl) (by decide) (by decide) ?_
    refine v_aload_n (pc := 4) (j := 0) F dX10_taken_4 rfl rfl ?_
    refine v_iload_n (pc := 5) (j := 1) F dX10_taken_5 rfl rfl ?_
    obtain ⟨r3, e4, hf⟩ := bnd_some hf
    refine v_callVv (pc := 6) (As := [.int a1]) F cl_X10_238 dX10_taken_6 (kX10_tryDays e4) kc_0.1 kc_0.2 rc_9 rfl rfl (Nat.le_of_ble_eq_true rfl) (by decide) (by decide) ?_
    refine v_aload_n (pc := 9) (j := 0) F dX10_taken_9 rfl rfl ?_
    refine v_ifl (pc := 10) F fl_X10_56 dX10_taken_10 kc_0.1 kc_0.2 fv_9_9 ?_
    refine v_ifl (pc := 13) F fl_X10_134 dX10_taken_13 kc_386.1 kc_386.2 fv_7_1 ?_
    refine v_aload_n (pc := 16) (j := 0) F dX10_taken_16 rfl rfl ?_
    refine v_ifl (pc := 17) F fl_X10_42 dX10_taken_17 kc_0.1 kc_0.2 fv_9_6 ?_
    refine v_ifl (pc := 20) F fl_X10_122 dX10_taken_20 kc_42.1 kc_42.2 fv_2_0 ?_
    refine v_ifl (pc := 23) F fl_X10_134 dX10_taken_23 kc_43.1 kc_43.2 fv_7_1 ?_
    refine v_isub (pc := 26) F dX10_taken_26 ?_
    exact v_xiret (pc := 27) F hr dX10_taken_27 (some_fst hf) (some_snd hf) (by decide)
  · have hf := sm_r hf
    exact v_xcallSX (pc := 1) (As := [.int a1]) F cl_X10_235 dX10_taken_1 (kX10_needAhead hT e2) rfl rfl (Nat.le_of_ble_eq_true rfl) (by decide) (by decide) hex (congrArg ocI (some_fst hf)) (some_snd hf)
def fX10_then (h : ST) (a1 : Int32) (a2 : Int32) : Option ((Int32 ⊕ Nat) × ST) :=
  bnd (fX10_needRoom h a1) fun r1 =>
  sm r1 (fun _ => bnd (fX10_needAhead h a2) fun r3 =>
  sm r3 (fun _ => bnd (fX10_tryDays h a2) fun r5 =>
  bnd (rd 9 (r5 387) a1) fun v7 =>
  some (.inl v7, r5)) (fun r3 => some (.inr r3, h))) (fun r1 => some (.inr r1, h))
set_option maxRecDepth 100000 in
set_option maxHeartbeats 4000000 in
theorem kX10_then {l : Launch} {g : GE} {B : Nat} {h : ST} {a1 : Int32} {a2 : Int32} {y : (Int32 ⊕ Nat) × ST} (hT : l.stackTraces = false) (hf : fX10_then h a1 a2 = some y) : XT l yX10_then cX10_then 3 (some .int) 9 2 KC 395 g B [.ref (gA g 0), .int a1, .int a2] h (ocI y.1) y.2 := by
  refine XT.of pn_X10 (Nat.le_of_ble_eq_true rfl) ?_
  intro p e s m below meth c hr hex F
  have F : Fx p s m _ meth c cX10_then 3 "DustParish" 395 g B := F
  refine V_lv (lv' := [(0, .ref (gA g 0)), (1, .int a1), (2, .int a2)]) rfl ?_
  unfold fX10_then at hf
  refine v_aload_n (pc := 0) (j := 0) F dX10_then_0 rfl rfl ?_
  refine v_iload_n (pc := 1) (j := 1) F dX10_then_1 rfl rfl ?_
  obtain ⟨r1, e2, hf⟩ := bnd_some hf
  rcases r1 with v9 | r1
  · have hf := sm_l hf
    refine v_xcallV (pc := 2) (As := [.int a1]) F cl_X10_162 dX10_then_2 (kX10_needRoom hT e2) kc_0.1 kc_0.2 rc_9 rfl rfl (Nat.le_of_ble_eq_true rfl) (by decide) (by decide) ?_
    refine v_iload_n (pc := 5) (j := 2) F dX10_then_5 rfl rfl ?_
    obtain ⟨r3, e4, hf⟩ := bnd_some hf
    rcases r3 with v9 | r3
    · have hf := sm_l hf
      refine v_xcallS (pc := 6) (As := [.int a2]) F cl_X10_235 dX10_then_6 (kX10_needAhead hT e4) rfl rfl (Nat.le_of_ble_eq_true rfl) (by decide) (by decide) ?_
      refine v_aload_n (pc := 9) (j := 0) F dX10_then_9 rfl rfl ?_
      refine v_iload_n (pc := 10) (j := 2) F dX10_then_10 rfl rfl ?_
      obtain ⟨r5, e6, hf⟩ := bnd_some hf
      refine v_callVv (pc := 11) (As := [.int a2]) F cl_X10_238 dX10_then_11 (kX10_tryDays e6) kc_0.1 kc_0.2 rc_9 rfl rfl (Nat.le_of_ble_eq_true rfl) (by decide) (by decide) ?_
      refine v_aload_n (pc := 14) (j := 0) F dX10_then_14 rfl rfl ?_
      refine v_ifl (pc := 15) F fl_X10_56 dX10_then_15 kc_0.1 kc_0.2 fv_9_9 ?_
      refine v_ifl (pc := 18) F fl_X10_171 dX10_then_18 kc_386.1 kc_386.2 fv_7_3 ?_
      refine v_iload_n (pc := 21) (j := 1) F dX10_then_21 rfl rfl ?_
      obtain ⟨v7, e8, hf⟩ := bnd_some hf
      refine v_iald (pc := 22) F dX10_then_22 kc_387.1 kc_387.2 e8 ?_
      exact v_xiret (pc := 23) F hr dX10_then_23 (some_fst hf) (some_snd hf) (by decide)
    · have hf := sm_r hf
      exact v_xcallSX (pc := 6) (As := [.int a2]) F cl_X10_235 dX10_then_6 (kX10_needAhead hT e4) rfl rfl (Nat.le_of_ble_eq_true rfl) (by decide) (by decide) hex (congrArg ocI (some_fst hf)) (some_snd hf)
  · have hf := sm_r hf
    exact v_xcallX (pc := 2) (As := [.int a1]) F cl_X10_162 dX10_then_2 (kX10_needRoom hT e2) kc_0.1 kc_0.2 rc_9 rfl rfl (Nat.le_of_ble_eq_true rfl) (by decide) (by decide) hex (congrArg ocI (some_fst hf)) (some_snd hf)
def fX10_thick_16 (h : ST)  : Option ((Int32 ⊕ Nat) × ST) :=
  some (.inr 2, h)
def fX10_thick_40 (l1 : Int32) (l2 : Int32) (s1 : (ST × Int32)) : Option ((ST × Int32) ⊕ ((ST × Int32) ⊕ ST)) :=
  if 99 < s1.2 then
  some (.inr (.inr s1.1))
  else
  bnd (rd 9 (s1.1 387) l1) fun v8 =>
    if v8 < l2 then
    bnd (rf KC 395 1 (s1.1 0 3)) fun f11 =>
      bnd (fX1_passMany s1.1 f11 386 1) fun r13 =>
      some (.inl (r13, s1.2 + 1))
    else
    some (.inr (.inl (s1.1, s1.2)))
def fX10_thick (h : ST) (a1 : Int32) (a2 : Int32) : Option ((Int32 ⊕ Nat) × ST) :=
  bnd (fX10_needRoom h a1) fun r1 =>
  sm r1 (fun _ => if a2 < 0 then
  fX10_thick_16 h 
  else
  if a2 ≤ 9999 then
    bnd (fX8_copy h 386 43) fun r5 =>
      bnd (lp FU (fX10_thick_40 a1 a2) (r5, 0)) fun x15 =>
      sm x15 (fun v => some (.inl v.2, v.1)) (fun v => some (.inl (-1), v))
    else
    fX10_thick_16 h ) (fun r1 => some (.inr r1, h))
set_option maxRecDepth 100000 in
set_option maxHeartbeats 4000000 in
theorem tX10_thick_16 {p : Program} {l : Launch} {e : Env} {s : State} {m : MethodId} {args : Array Value} {below : List Frame} {meth : Method} {c : Code} {g : GE} {B : Nat} {h : ST}  (F : Fx p s m args meth c cX10_thick 4 "DustParish" 395 g B)
    {y : (Int32 ⊕ Nat) × ST} (hr : meth.sig.returnType = (some .int)) (hT : l.stackTraces = false) (hex : ∀ x ∈ c.exceptionTable.toList, False) (hf : fX10_thick_16 h  = some y) : V p l e 9 2 s m args below meth c (vx_MQ below (QX KC 395 g (ocI y.1) y.2) (XX KC 395 g (ocI y.1) y.2) args s 2 (6 * 2) (WA 395 g)) KC 395 g B 4 1 h 16 [] [] := by
  unfold fX10_thick_16 at hf
  exact v_throw0 (pc := 16) (E := xIA) F hT xw_IA hex dX10_thick_16 dX10_thick_19 dX10_thick_20 dX10_thick_23 (congrArg ocI (some_fst hf)) (some_snd hf) (by decide) (Nat.le_of_ble_eq_true rfl) (by decide)
set_option maxRecDepth 100000 in
set_option maxHeartbeats 4000000 in
theorem tX10_thick_40 {p : Program} {l : Launch} {e : Env} {s : State} {m : MethodId} {args : Array Value} {below : List Frame} {meth : Method} {c : Code} {g : GE} {B : Nat}   {l1 : Int32} {l2 : Int32} {Q : State → Prop} {x : ((ST × Int32) ⊕ ST)} {nf : Nat} {s0 : (ST × Int32)} (F : Fx p s m args meth c cX10_thick 4 "DustParish" 395 g B) (hX0 : ∀ v : (ST × Int32), x = (.inl v) → V p l e 9 2 s m args below meth c Q KC 395 g B 4 1 v.1 59 [(3, .int v.2)] []) (hX1 : ∀ v : ST, x = (.inr v) → V p l e 9 2 s m args below meth c Q KC 395 g B 4 1 v 79 [] []) (hl : lp nf (fX10_thick_40 l1 l2) s0 = some x) : V p l e 9 2 s m args below meth c Q KC 395 g B 4 1 s0.1 40 [(0, .ref (gA g 0)), (1, .int l1), (2, .int l2), (3, .int s0.2)] [] := by
  refine lp_ind (P := fun s0 => V p l e 9 2 s m args below meth c Q KC 395 g B 4 1 s0.1 40 [(0, .ref (gA g 0)), (1, .int l1), (2, .int l2), (3, .int s0.2)] []) ?_ nf s0 hl
  intro s1 y hf hk hx
  have hx0 : ∀ v : (ST × Int32), y = Sum.inr (.inl v) → V p l e 9 2 s m args below meth c Q KC 395 g B 4 1 v.1 59 [(3, .int v.2)] [] := fun v e9 => hX0 v (hx _ e9).symm
  have hx1 : ∀ v : ST, y = Sum.inr (.inr v) → V p l e 9 2 s m args below meth c Q KC 395 g B 4 1 v 79 [] [] := fun v e9 => hX1 v (hx _ e9).symm
  unfold fX10_thick_40 at hf
  refine v_iload_n (pc := 40) (j := 3) F dX10_thick_40 rfl rfl ?_
  refine v_bipush (pc := 41) (v := 99) F dX10_thick_41 bp_99 ?_
  refine v_icmp_gt (pc := 43) (tgt := 79) F dX10_thick_43 (by decide) (fun c7 => ?_) (fun c7 => ?_)
  · have hf := ite_t hf c7
    refine V.sub (lv' := []) [] rfl ?_
    exact hx1 s1.1 (Option.some.inj hf).symm
  · have hf := ite_f hf c7
    refine v_aload_n (pc := 46) (j := 0) F dX10_thick_46 rfl rfl ?_
    refine v_ifl (pc := 47) F fl_X10_56 dX10_thick_47 kc_0.1 kc_0.2 fv_9_9 ?_
    refine v_ifl (pc := 50) F fl_X10_171 dX10_thick_50 kc_386.1 kc_386.2 fv_7_3 ?_
    refine v_iload_n (pc := 53) (j := 1) F dX10_thick_53 rfl rfl ?_
    obtain ⟨v8, e9, hf⟩ := bnd_some hf
    refine v_iald (pc := 54) F dX10_thick_54 kc_387.1 kc_387.2 e9 ?_
    refine v_iload_n (pc := 55) (j := 2) F dX10_thick_55 rfl rfl ?_
    refine v_icmp_lt (pc := 56) (tgt := 61) F dX10_thick_56 (by decide) (fun c10 => ?_) (fun c10 => ?_)
    · have hf := ite_t hf c10
      refine v_aload_n (pc := 61) (j := 0) F dX10_thick_61 rfl rfl ?_
      obtain ⟨f11, e12, hf⟩ := bnd_some hf
      obtain ⟨ho_f11, hk_f11, e12⟩ := rf_in e12
      refine v_ifl (pc := 62) F fl_X10_23 dX10_thick_62 kc_0.1 kc_0.2 (fv_9_3 e12) ?_
      refine v_aload_n (pc := 65) (j := 0) F dX10_thick_65 rfl rfl ?_
      refine v_ifl (pc := 66) F fl_X10_56 dX10_thick_66 kc_0.1 kc_0.2 fv_9_9 ?_
      refine v_iconst (pc := 69) (v := 1) F dX10_thick_69 ic_1 ?_
      obtain ⟨r13, e14, hf⟩ := bnd_some hf
      refine v_callSv (pc := 70) (As := [.ref (gA g f11), .ref (gA g 386), .int 1]) F cl_X10_214 dX10_thick_70 (kX1_passMany ho_f11 hk_f11 kc_386.1 kc_386.2 e14) rfl rfl (Nat.le_of_ble_eq_true rfl) (by decide) (by decide) ?_
      refine v_iinc (pc := 73) (j := 3) (v := s1.2 + 1) (lv' := [(0, .ref (gA g 0)), (1, .int l1), (2, .int l2), (3, .int (s1.2 + 1))]) F dX10_thick_73 rfl (congrArg (fun z => s1.2 + z) ic_1) (by decide) rfl ?_
      refine v_goto (pc := 76) (tgt := 40) F dX10_thick_76 (by decide) ?_
      exact hk (r13, s1.2 + 1) (Option.some.inj hf).symm
    · have hf := ite_f hf c10
      refine V.sub (lv' := [(3, .int s1.2)]) [3] rfl ?_
      exact hx0 (s1.1, s1.2) (Option.some.inj hf).symm
set_option maxRecDepth 100000 in
set_option maxHeartbeats 4000000 in
theorem kX10_thick {l : Launch} {g : GE} {B : Nat} {h : ST} {a1 : Int32} {a2 : Int32} {y : (Int32 ⊕ Nat) × ST} (hT : l.stackTraces = false) (hf : fX10_thick h a1 a2 = some y) : XT l yX10_thick cX10_thick 4 (some .int) 9 2 KC 395 g B [.ref (gA g 0), .int a1, .int a2] h (ocI y.1) y.2 := by
  refine XT.of pn_X10 (Nat.le_of_ble_eq_true rfl) ?_
  intro p e s m below meth c hr hex F
  have F : Fx p s m _ meth c cX10_thick 4 "DustParish" 395 g B := F
  refine V_lv (lv' := [(0, .ref (gA g 0)), (1, .int a1), (2, .int a2)]) rfl ?_
  unfold fX10_thick at hf
  refine v_aload_n (pc := 0) (j := 0) F dX10_thick_0 rfl rfl ?_
  refine v_iload_n (pc := 1) (j := 1) F dX10_thick_1 rfl rfl ?_
  obtain ⟨r1, e2, hf⟩ := bnd_some hf
  rcases r1 with v9 | r1
  · have hf := sm_l hf
    refine v_xcallV (pc := 2) (As := [.int a1]) F cl_X10_162 dX10_thick_2 (kX10_needRoom hT e2) kc_0.1 kc_0.2 rc_9 rfl rfl (Nat.le_of_ble_eq_true rfl) (by decide) (by decide) ?_
    refine v_iload_n (pc := 5) (j := 2) F dX10_thick_5 rfl rfl ?_
    refine v_if_lt (pc := 6) (tgt := 16) F dX10_thick_6 (by decide) (fun c3 => ?_) (fun c3 => ?_)
    · have hf := ite_t hf c3
      refine V.sub (lv' := []) [] rfl ?_
      exact tX10_thick_16 F hr hT hex hf
    · have hf := ite_f hf c3
      refine v_iload_n (pc := 9) (j := 2) F dX10_thick_9 rfl rfl ?_
      refine v_sipush (pc := 10) (v := 9999) F dX10_thick_10 sp_9999 ?_
      refine v_icmp_le (pc := 13) (tgt := 24) F dX10_thick_13 (by decide) (fun c4 => ?_) (fun c4 => ?_)
      · have hf := ite_t hf c4
        refine v_aload_n (pc := 24) (j := 0) F dX10_thick_24 rfl rfl ?_
        refine v_ifl (pc := 25) F fl_X10_56 dX10_thick_25 kc_0.1 kc_0.2 fv_9_9 ?_
        refine v_aload_n (pc := 28) (j := 0) F dX10_thick_28 rfl rfl ?_
        refine v_ifl (pc := 29) F fl_X10_42 dX10_thick_29 kc_0.1 kc_0.2 fv_9_6 ?_
        refine v_ifl (pc := 32) F fl_X10_122 dX10_thick_32 kc_42.1 kc_42.2 fv_2_0 ?_
        obtain ⟨r5, e6, hf⟩ := bnd_some hf
        refine v_callVv (pc := 35) (As := [.ref (gA g 43)]) F cl_X10_241 dX10_thick_35 (kX8_copy kc_386.1 kc_386.2 kc_43.1 kc_43.2 e6) kc_386.1 kc_386.2 rc_7 rfl rfl (Nat.le_of_ble_eq_true rfl) (by decide) (by decide) ?_
        refine v_iconst (pc := 38) (v := 0) F dX10_thick_38 ic_0 ?_
        refine v_istore_n (pc := 39) (lv' := [(0, .ref (gA g 0)), (1, .int a1), (2, .int a2), (3, .int 0)]) F dX10_thick_39 rfl (by decide) rfl ?_
        obtain ⟨x15, e16, hf⟩ := bnd_some hf
        refine tX10_thick_40 (s0 := (r5, 0)) F (fun v e9 => ?_) (fun v e9 => ?_) e16
        · subst e9
          have hf := sm_l hf
          refine v_iload_n (pc := 59) (j := 0) F dX10_thick_59 rfl rfl ?_
          exact v_xiret (pc := 60) F hr dX10_thick_60 (some_fst hf) (some_snd hf) (by decide)
        · subst e9
          have hf := sm_r hf
          refine v_iconst (pc := 79) (v := (-1)) F dX10_thick_79 ic_m1 ?_
          exact v_xiret (pc := 80) F hr dX10_thick_80 (some_fst hf) (some_snd hf) (by decide)
      · have hf := ite_f hf c4
        refine V.sub (lv' := []) [] rfl ?_
        exact tX10_thick_16 F hr hT hex hf
  · have hf := sm_r hf
    exact v_xcallX (pc := 2) (As := [.int a1]) F cl_X10_162 dX10_thick_2 (kX10_needRoom hT e2) kc_0.1 kc_0.2 rc_9 rfl rfl (Nat.le_of_ble_eq_true rfl) (by decide) (by decide) hex (congrArg ocI (some_fst hf)) (some_snd hf)
def fX0_giveBack_38 (h : ST)  : Option (ST) :=
  some h
def fX0_giveBack (h : ST) (o : Nat) (o1 : Nat) : Option (ST) :=
  if (h o 0) ≤ 0 then
  fX0_giveBack_38 h 
  else
  bnd (pw h o 0 ((h o 0) - 1)) fun h2 =>
    bnd (bst (o + 1) (((h2 o 1) + (h2 o 0)) - ((h2 o 1) + (h2 o 0)) / 40 * 40)) fun f4 =>
    bnd (fX8_copy h2 o1 f4) fun r6 =>
    fX0_giveBack_38 r6 
set_option maxRecDepth 100000 in
set_option maxHeartbeats 4000000 in
theorem tX0_giveBack_38 {p : Program} {l : Launch} {e : Env} {s : State} {m : MethodId} {args : Array Value} {below : List Frame} {meth : Method} {c : Code} {g : GE} {B : Nat} {h : ST}  (F : Fx p s m args meth c cX0_giveBack 2 "DustParish$Acts" 395 g B)
    {y : ST} (hr : meth.sig.returnType = none) (hf : fX0_giveBack_38 h  = some y) : V p l e 2 0 s m args below meth c (MQ below (QO KC 395 g none y) args s 0 (6 * 0) (WA 395 g)) KC 395 g B 2 0 h 38 [] [] := by
  unfold fX0_giveBack_38 at hf
  exact v_vret (pc := 38) F hr dX0_giveBack_38 (Option.some.inj hf) (Nat.zero_le _)
set_option maxRecDepth 100000 in
set_option maxHeartbeats 4000000 in
theorem kX0_giveBack {l : Launch} {g : GE} {B : Nat} {h : ST} {o : Nat} (ho_o : o < 395) (hk_o : KC o = (0, 0)) {o1 : Nat} (ho_o1 : o1 < 395) (hk_o1 : KC o1 = (7, 0)) {y : ST} (hf : fX0_giveBack h o o1 = some y) : CT l yX0_giveBack cX0_giveBack 2 none 2 KC 395 g B [.ref (gA g o), .ref (gA g o1)] h none y := by
  refine CT.of pn_X0 (Nat.le_of_ble_eq_true rfl) ?_
  intro p e s m below meth c hr F
  have F : Fx p s m _ meth c cX0_giveBack 2 "DustParish$Acts" 395 g B := F
  refine V_lv (lv' := [(0, .ref (gA g o)), (1, .ref (gA g o1))]) rfl ?_
  unfold fX0_giveBack at hf
  refine v_aload_n (pc := 0) (j := 0) F dX0_giveBack_0 rfl rfl ?_
  refine v_ifl (pc := 1) F fl_X0_9 dX0_giveBack_1 ho_o hk_o fv_0_0 ?_
  refine v_if_le (pc := 4) (tgt := 38) F dX0_giveBack_4 (by decide) (fun c1 => ?_) (fun c1 => ?_)
  · have hf := ite_t hf c1
    refine V.sub (lv' := []) [] rfl ?_
    exact tX0_giveBack_38 F hr hf
  · have hf := ite_f hf c1
    refine v_aload_n (pc := 7) (j := 0) F dX0_giveBack_7 rfl rfl ?_
    refine v_dup (pc := 8) F dX0_giveBack_8 rfl ?_
    refine v_ifl (pc := 9) F fl_X0_9 dX0_giveBack_9 ho_o hk_o fv_0_0 ?_
    refine v_iconst (pc := 12) (v := 1) F dX0_giveBack_12 ic_1 ?_
    refine v_isub (pc := 13) F dX0_giveBack_13 ?_
    obtain ⟨h2, e3, hf⟩ := bnd_some hf
    refine v_pfl (pc := 14) F fl_X0_9 pl_0_0 dX0_giveBack_14 ho_o hk_o fv_0_0 rfl rfl e3 ?_
    refine v_aload_n (pc := 17) (j := 1) F dX0_giveBack_17 rfl rfl ?_
    refine v_aload_n (pc := 18) (j := 0) F dX0_giveBack_18 rfl rfl ?_
    refine v_ifl (pc := 19) F fl_X0_20 dX0_giveBack_19 ho_o hk_o fv_0_2 ?_
    refine v_aload_n (pc := 22) (j := 0) F dX0_giveBack_22 rfl rfl ?_
    refine v_ifl (pc := 23) F fl_X0_15 dX0_giveBack_23 ho_o hk_o fv_0_1 ?_
    refine v_aload_n (pc := 26) (j := 0) F dX0_giveBack_26 rfl rfl ?_
    refine v_ifl (pc := 27) F fl_X0_9 dX0_giveBack_27 ho_o hk_o fv_0_0 ?_
    refine v_iadd (pc := 30) F dX0_giveBack_30 ?_
    refine v_bipush (pc := 31) (v := 40) F dX0_giveBack_31 bp_40 ?_
    refine v_irem (pc := 33) F dX0_giveBack_33 (by decide) ?_
    obtain ⟨f4, e5, hf⟩ := bnd_some hf
    obtain ⟨ho_f4, hk_f4, hv_f4, e5⟩ := bst_in (ly_0_2 ho_o hk_o).1 (ly_0_2 ho_o hk_o).2 e5
    refine v_aald (pc := 34) (v := .ref (gA g f4)) F dX0_giveBack_34 (ly_0_2 ho_o hk_o).1 (ly_0_2 ho_o hk_o).2 (by decide) (by decide) hv_f4 (av23 e5) ?_
    obtain ⟨r6, e7, hf⟩ := bnd_some hf
    refine v_callVv (pc := 35) (As := [.ref (gA g f4)]) F cl_X0_25 dX0_giveBack_35 (kX8_copy ho_o1 hk_o1 ho_f4 hk_f4 e7) ho_o1 hk_o1 rc_7 rfl rfl (Nat.le_of_ble_eq_true rfl) (by decide) (Nat.zero_le _) ?_
    refine V.sub (lv' := []) [] rfl ?_
    exact tX0_giveBack_38 F hr hf
def fX10_undo (h : ST) : Option (Int32 × ST) :=
  if (h 47 0) = 0 then
  some ((-1), h)
  else
  bnd (fX0_giveBack h 47 43) fun r2 =>
    some (r2 47 0, r2)
set_option maxRecDepth 100000 in
set_option maxHeartbeats 4000000 in
theorem kX10_undo {l : Launch} {g : GE} {B : Nat} {h : ST} {y : Int32 × ST} (hf : fX10_undo h = some y) : CT l yX10_undo cX10_undo 1 (some .int) 3 KC 395 g B [.ref (gA g 0)] h (some (.int y.1)) y.2 := by
  refine CT.of pn_X10 (Nat.le_of_ble_eq_true rfl) ?_
  intro p e s m below meth c hr F
  have F : Fx p s m _ meth c cX10_undo 1 "DustParish" 395 g B := F
  refine V_lv (lv' := [(0, .ref (gA g 0))]) rfl ?_
  unfold fX10_undo at hf
  refine v_aload_n (pc := 0) (j := 0) F dX10_undo_0 rfl rfl ?_
  refine v_ifl (pc := 1) F fl_X10_42 dX10_undo_1 kc_0.1 kc_0.2 fv_9_6 ?_
  refine v_ifl (pc := 4) F fl_X10_143 dX10_undo_4 kc_42.1 kc_42.2 fv_2_1 ?_
  refine v_ifl (pc := 7) F fl_X10_147 dX10_undo_7 kc_47.1 kc_47.2 fv_0_0 ?_
  refine v_if_ne (pc := 10) (tgt := 15) F dX10_undo_10 (by decide) (fun c1 => ?_) (fun c1 => ?_)
  · have hf := ite_f hf c1
    refine v_aload_n (pc := 15) (j := 0) F dX10_undo_15 rfl rfl ?_
    refine v_ifl (pc := 16) F fl_X10_42 dX10_undo_16 kc_0.1 kc_0.2 fv_9_6 ?_
    refine v_ifl (pc := 19) F fl_X10_143 dX10_undo_19 kc_42.1 kc_42.2 fv_2_1 ?_
    refine v_aload_n (pc := 22) (j := 0) F dX10_undo_22 rfl rfl ?_
    refine v_ifl (pc := 23) F fl_X10_42 dX10_undo_23 kc_0.1 kc_0.2 fv_9_6 ?_
    refine v_ifl (pc := 26) F fl_X10_122 dX10_undo_26 kc_42.1 kc_42.2 fv_2_0 ?_
    obtain ⟨r2, e3, hf⟩ := bnd_some hf
    refine v_callVv (pc := 29) (As := [.ref (gA g 43)]) F cl_X10_232 dX10_undo_29 (kX0_giveBack kc_47.1 kc_47.2 kc_43.1 kc_43.2 e3) kc_47.1 kc_47.2 rc_0 rfl rfl (Nat.le_of_ble_eq_true rfl) (by decide) (Nat.zero_le _) ?_
    refine v_aload_n (pc := 32) (j := 0) F dX10_undo_32 rfl rfl ?_
    refine v_ifl (pc := 33) F fl_X10_42 dX10_undo_33 kc_0.1 kc_0.2 fv_9_6 ?_
    refine v_ifl (pc := 36) F fl_X10_143 dX10_undo_36 kc_42.1 kc_42.2 fv_2_1 ?_
    refine v_ifl (pc := 39) F fl_X10_147 dX10_undo_39 kc_47.1 kc_47.2 fv_0_0 ?_
    exact v_iret (pc := 42) F hr dX10_undo_42 (some_fst hf) (some_snd hf) (Nat.zero_le _)
  · have hf := ite_t hf c1
    refine v_iconst (pc := 13) (v := (-1)) F dX10_undo_13 ic_m1 ?_
    exact v_iret (pc := 14) F hr dX10_undo_14 (some_fst hf) (some_snd hf) (Nat.zero_le _)
def fX10_wind_11 (h : ST)  : Option ((Int32 ⊕ Nat)) :=
  some (.inr 2)
def fX10_wind (h : ST) (a1 : Int32) : Option ((Int32 ⊕ Nat)) :=
  if a1 < 0 then
  fX10_wind_11 h 
  else
  if a1 ≤ 9999 then
    bnd (rf KC 395 1 (h 0 3)) fun f3 =>
      bnd (fX1_windOf h f3 43 a1) fun r5 =>
      some (.inl r5)
    else
    fX10_wind_11 h 
set_option maxRecDepth 100000 in
set_option maxHeartbeats 4000000 in
theorem tX10_wind_11 {p : Program} {l : Launch} {e : Env} {s : State} {m : MethodId} {args : Array Value} {below : List Frame} {meth : Method} {c : Code} {g : GE} {B : Nat} {h : ST}  (F : Fx p s m args meth c cX10_wind 2 "DustParish" 395 g B)
    {y : (Int32 ⊕ Nat)} (hr : meth.sig.returnType = (some .int)) (hT : l.stackTraces = false) (hex : ∀ x ∈ c.exceptionTable.toList, False) (hf : fX10_wind_11 h  = some y) : V p l e 8 1 s m args below meth c (vx_MQ below (QX KC 395 g (ocI y) h) (XX KC 395 g (ocI y) h) args s 1 (6 * 1) (WA 395 g)) KC 395 g B 2 0 h 11 [] [] := by
  unfold fX10_wind_11 at hf
  exact v_throw0 (pc := 11) (E := xIA) F hT xw_IA hex dX10_wind_11 dX10_wind_14 dX10_wind_15 dX10_wind_18 (congrArg ocI (Option.some.inj hf)) rfl (by decide) (Nat.le_of_ble_eq_true rfl) (by decide)
set_option maxRecDepth 100000 in
set_option maxHeartbeats 4000000 in
theorem kX10_wind {l : Launch} {g : GE} {B : Nat} {h : ST} {a1 : Int32} {y : (Int32 ⊕ Nat)} (hT : l.stackTraces = false) (hf : fX10_wind h a1 = some y) : XT l yX10_wind cX10_wind 2 (some .int) 8 1 KC 395 g B [.ref (gA g 0), .int a1] h (ocI y) h := by
  refine XT.of pn_X10 (Nat.le_of_ble_eq_true rfl) ?_
  intro p e s m below meth c hr hex F
  have F : Fx p s m _ meth c cX10_wind 2 "DustParish" 395 g B := F
  refine V_lv (lv' := [(0, .ref (gA g 0)), (1, .int a1)]) rfl ?_
  unfold fX10_wind at hf
  refine v_iload_n (pc := 0) (j := 1) F dX10_wind_0 rfl rfl ?_
  refine v_if_lt (pc := 1) (tgt := 11) F dX10_wind_1 (by decide) (fun c1 => ?_) (fun c1 => ?_)
  · have hf := ite_t hf c1
    refine V.sub (lv' := []) [] rfl ?_
    exact tX10_wind_11 F hr hT hex hf
  · have hf := ite_f hf c1
    refine v_iload_n (pc := 4) (j := 1) F dX10_wind_4 rfl rfl ?_
    refine v_sipush (pc := 5) (v := 9999) F dX10_wind_5 sp_9999 ?_
    refine v_icmp_le (pc := 8) (tgt := 19) F dX10_wind_8 (by decide) (fun c2 => ?_) (fun c2 => ?_)
    · have hf := ite_t hf c2
      refine v_aload_n (pc := 19) (j := 0) F dX10_wind_19 rfl rfl ?_
      obtain ⟨f3, e4, hf⟩ := bnd_some hf
      obtain ⟨ho_f3, hk_f3, e4⟩ := rf_in e4
      refine v_ifl (pc := 20) F fl_X10_23 dX10_wind_20 kc_0.1 kc_0.2 (fv_9_3 e4) ?_
      refine v_aload_n (pc := 23) (j := 0) F dX10_wind_23 rfl rfl ?_
      refine v_ifl (pc := 24) F fl_X10_42 dX10_wind_24 kc_0.1 kc_0.2 fv_9_6 ?_
      refine v_ifl (pc := 27) F fl_X10_122 dX10_wind_27 kc_42.1 kc_42.2 fv_2_0 ?_
      refine v_iload_n (pc := 30) (j := 1) F dX10_wind_30 rfl rfl ?_
      obtain ⟨r5, e6, hf⟩ := bnd_some hf
      refine v_callSi (pc := 31) (As := [.ref (gA g f3), .ref (gA g 43), .int a1]) F cl_X10_204 dX10_wind_31 (kX1_windOf ho_f3 hk_f3 kc_43.1 kc_43.2 e6) rfl rfl (Nat.le_of_ble_eq_true rfl) (by decide) (Nat.zero_le _) ?_
      exact v_xiret (pc := 34) F hr dX10_wind_34 (Option.some.inj hf) rfl (by decide)
    · have hf := ite_f hf c2
      refine V.sub (lv' := []) [] rfl ?_
      exact tX10_wind_11 F hr hT hex hf
def fX10_years_9 (h : ST)  : Option ((Int32 ⊕ Nat) × ST) :=
  some (.inr 1, h)
def fX10_years_27 (h : ST)  : Option ((Int32 ⊕ Nat) × ST) :=
  some (.inr 2, h)
def fX10_years_147 (h : ST) (l2 : Int32) (l3 : Int32) (l4 : Int32) (l6 : Int32) (q0 : Int32) (q1 : Int32) : Option ((ST × Int32 × Int32 × Int32) ⊕ (ST × Int32)) :=
  some (.inl (h, l4, q0 + q1, l6 + 1))
def fX10_years_114 (h : ST) (l2 : Int32) (l3 : Int32) (l4 : Int32) (l5 : Int32) (l6 : Int32) : Option ((ST × Int32 × Int32 × Int32) ⊕ (ST × Int32)) :=
  bnd (rf KC 395 1 (h 0 3)) fun f11 =>
  bnd (fX1_passMany h f11 386 1) fun r13 =>
  bnd (rf KC 395 1 (r13 0 3)) fun f15 =>
  bnd (fX1_heretics r13 f15 386) fun r17 =>
  if r17 = 0 then
  fX10_years_147 r13 l2 l3 l4 l6 l5 0
  else
  fX10_years_147 r13 l2 l3 l4 l6 l5 1
def fX10_years_58 (l2 : Int32) (l3 : Int32) (s1 : (ST × Int32 × Int32 × Int32)) : Option ((ST × Int32 × Int32 × Int32) ⊕ (ST × Int32)) :=
  if l2 ≤ s1.2.2.2 then
  some (.inr (s1.1, s1.2.2.1))
  else
  bnd (rf KC 395 1 (s1.1 0 3)) fun f8 =>
    if (s1.1 f8 0) ≤ 0 then
    fX10_years_114 s1.1 l2 l3 s1.2.1 s1.2.2.1 s1.2.2.2
    else
    bnd (fX10_nextSeed s1.1 s1.2.1) fun r20 =>
      bnd (rf KC 395 1 (s1.1 0 3)) fun f22 =>
      bnd (fX10_draw s1.1 r20 (s1.1 f22 0)) fun r24 =>
      bnd (fX10_nextSeed s1.1 r20) fun r26 =>
      bnd (fX10_draw s1.1 r26 4) fun r28 =>
      bnd (fX10_happen s1.1 r24 r28) fun r30 =>
      fX10_years_114 r30 l2 l3 r26 s1.2.2.1 s1.2.2.2
def fX10_years_193 (h : ST) (q0 : Int32) : Option ((Int32 ⊕ Nat) × ST) :=
  some (.inl q0, h)
def fX10_years (h : ST) (a1 : Int32) (a2 : Int32) (a3 : Int32) : Option ((Int32 ⊕ Nat) × ST) :=
  if a3 < 0 then
  fX10_years_9 h 
  else
  if a3 ≤ 2 then
    if a2 < 0 then
      fX10_years_27 h 
      else
      if a2 ≤ 60 then
        bnd (fX8_copy h 386 43) fun r5 =>
          bnd (lp FU (fX10_years_58 a2 a3) (r5, a1, 0, 0)) fun x32 =>
          if a3 = 1 then
          some (.inl x32.2, x32.1)
          else
          if a3 = 0 then
            fX10_years_193 x32.1 ((x32.1 386 1) - (x32.1 43 1))
            else
            bnd (fX10_fullestTrialRoom x32.1) fun r36 =>
              fX10_years_193 x32.1 r36
        else
        fX10_years_27 h 
    else
    fX10_years_9 h 
set_option maxRecDepth 100000 in
set_option maxHeartbeats 4000000 in
theorem tX10_years_9 {p : Program} {l : Launch} {e : Env} {s : State} {m : MethodId} {args : Array Value} {below : List Frame} {meth : Method} {c : Code} {g : GE} {B : Nat} {h : ST}  (F : Fx p s m args meth c cX10_years 8 "DustParish" 395 g B)
    {y : (Int32 ⊕ Nat) × ST} (hr : meth.sig.returnType = (some .int)) (hT : l.stackTraces = false) (hex : ∀ x ∈ c.exceptionTable.toList, False) (hf : fX10_years_9 h  = some y) : V p l e 8 1 s m args below meth c (vx_MQ below (QX KC 395 g (ocI y.1) y.2) (XX KC 395 g (ocI y.1) y.2) args s 1 (6 * 1) (WA 395 g)) KC 395 g B 8 0 h 9 [] [] := by
  unfold fX10_years_9 at hf
  exact v_throw0 (pc := 9) (E := xNS) F hT xw_NS hex dX10_years_9 dX10_years_12 dX10_years_13 dX10_years_16 (congrArg ocI (some_fst hf)) (some_snd hf) (by decide) (Nat.le_of_ble_eq_true rfl) (by decide)
set_option maxRecDepth 100000 in
set_option maxHeartbeats 4000000 in
theorem tX10_years_27 {p : Program} {l : Launch} {e : Env} {s : State} {m : MethodId} {args : Array Value} {below : List Frame} {meth : Method} {c : Code} {g : GE} {B : Nat} {h : ST}  (F : Fx p s m args meth c cX10_years 8 "DustParish" 395 g B)
    {y : (Int32 ⊕ Nat) × ST} (hr : meth.sig.returnType = (some .int)) (hT : l.stackTraces = false) (hex : ∀ x ∈ c.exceptionTable.toList, False) (hf : fX10_years_27 h  = some y) : V p l e 8 1 s m args below meth c (vx_MQ below (QX KC 395 g (ocI y.1) y.2) (XX KC 395 g (ocI y.1) y.2) args s 1 (6 * 1) (WA 395 g)) KC 395 g B 8 0 h 27 [] [] := by
  unfold fX10_years_27 at hf
  exact v_throw0 (pc := 27) (E := xIA) F hT xw_IA hex dX10_years_27 dX10_years_30 dX10_years_31 dX10_years_34 (congrArg ocI (some_fst hf)) (some_snd hf) (by decide) (Nat.le_of_ble_eq_true rfl) (by decide)
set_option maxRecDepth 100000 in
set_option maxHeartbeats 4000000 in
theorem tX10_years_147 {p : Program} {l : Launch} {e : Env} {s : State} {m : MethodId} {args : Array Value} {below : List Frame} {meth : Method} {c : Code} {g : GE} {B : Nat} {h : ST}  {l2 : Int32} {l3 : Int32} {l4 : Int32} {l6 : Int32} {q0 : Int32} {q1 : Int32} (F : Fx p s m args meth c cX10_years 8 "DustParish" 395 g B)
    {Q : State → Prop} {y : (ST × Int32 × Int32 × Int32) ⊕ (ST × Int32)} (hk : ∀ v : (ST × Int32 × Int32 × Int32), y = Sum.inl v → V p l e 8 1 s m args below meth c Q KC 395 g B 8 0 v.1 58 [(0, .ref (gA g 0)), (2, .int l2), (3, .int l3), (4, .int v.2.1), (5, .int v.2.2.1), (6, .int v.2.2.2)] []) (hx0 : ∀ v : (ST × Int32), y = Sum.inr v → V p l e 8 1 s m args below meth c Q KC 395 g B 8 0 v.1 156 [(0, .ref (gA g 0)), (3, .int l3), (5, .int v.2)] []) (hf : fX10_years_147 h l2 l3 l4 l6 q0 q1 = some y) : V p l e 8 1 s m args below meth c Q KC 395 g B 8 0 h 147 [(0, .ref (gA g 0)), (2, .int l2), (3, .int l3), (4, .int l4), (6, .int l6)] [.int q1, .int q0] := by
  unfold fX10_years_147 at hf
  refine v_iadd (pc := 147) F dX10_years_147 ?_
  refine v_istore (pc := 148) (lv' := [(0, .ref (gA g 0)), (2, .int l2), (3, .int l3), (4, .int l4), (5, .int (q0 + q1)), (6, .int l6)]) F dX10_years_148 (by decide) rfl ?_
  refine v_iinc (pc := 150) (j := 5) (v := l6 + 1) (lv' := [(0, .ref (gA g 0)), (2, .int l2), (3, .int l3), (4, .int l4), (5, .int (q0 + q1)), (6, .int (l6 + 1))]) F dX10_years_150 rfl (congrArg (fun z => l6 + z) ic_1) (by decide) rfl ?_
  refine v_goto (pc := 153) (tgt := 58) F dX10_years_153 (by decide) ?_
  exact hk (h, l4, q0 + q1, l6 + 1) (Option.some.inj hf).symm
set_option maxRecDepth 100000 in
set_option maxHeartbeats 4000000 in
theorem tX10_years_114 {p : Program} {l : Launch} {e : Env} {s : State} {m : MethodId} {args : Array Value} {below : List Frame} {meth : Method} {c : Code} {g : GE} {B : Nat} {h : ST}  {l2 : Int32} {l3 : Int32} {l4 : Int32} {l5 : Int32} {l6 : Int32} (F : Fx p s m args meth c cX10_years 8 "DustParish" 395 g B)
    {Q : State → Prop} {y : (ST × Int32 × Int32 × Int32) ⊕ (ST × Int32)} (hk : ∀ v : (ST × Int32 × Int32 × Int32), y = Sum.inl v → V p l e 8 1 s m args below meth c Q KC 395 g B 8 0 v.1 58 [(0, .ref (gA g 0)), (2, .int l2), (3, .int l3), (4, .int v.2.1), (5, .int v.2.2.1), (6, .int v.2.2.2)] []) (hx0 : ∀ v : (ST × Int32), y = Sum.inr v → V p l e 8 1 s m args below meth c Q KC 395 g B 8 0 v.1 156 [(0, .ref (gA g 0)), (3, .int l3), (5, .int v.2)] []) (hf : fX10_years_114 h l2 l3 l4 l5 l6 = some y) : V p l e 8 1 s m args below meth c Q KC 395 g B 8 0 h 114 [(0, .ref (gA g 0)), (2, .int l2), (3, .int l3), (4, .int l4), (5, .int l5), (6, .int l6)] [] := by
  unfold fX10_years_114 at hf
  refine v_aload_n (pc := 114) (j := 0) F dX10_years_114 rfl rfl ?_
  obtain ⟨f11, e12, hf⟩ := bnd_some hf
  obtain ⟨ho_f11, hk_f11, e12⟩ := rf_in e12
  refine v_ifl (pc := 115) F fl_X10_23 dX10_years_115 kc_0.1 kc_0.2 (fv_9_3 e12) ?_
  refine v_aload_n (pc := 118) (j := 0) F dX10_years_118 rfl rfl ?_
  refine v_ifl (pc := 119) F fl_X10_56 dX10_years_119 kc_0.1 kc_0.2 fv_9_9 ?_
  refine v_iconst (pc := 122) (v := 1) F dX10_years_122 ic_1 ?_
  obtain ⟨r13, e14, hf⟩ := bnd_some hf
  refine v_callSv (pc := 123) (As := [.ref (gA g f11), .ref (gA g 386), .int 1]) F cl_X10_214 dX10_years_123 (kX1_passMany ho_f11 hk_f11 kc_386.1 kc_386.2 e14) rfl rfl (Nat.le_of_ble_eq_true rfl) (by decide) (Nat.zero_le _) ?_
  refine v_iload (pc := 126) (j := 4) F dX10_years_126 rfl ?_
  refine v_aload_n (pc := 128) (j := 0) F dX10_years_128 rfl rfl ?_
  obtain ⟨f15, e16, hf⟩ := bnd_some hf
  obtain ⟨ho_f15, hk_f15, e16⟩ := rf_in e16
  refine v_ifl (pc := 129) F fl_X10_23 dX10_years_129 kc_0.1 kc_0.2 (fv_9_3 e16) ?_
  refine v_aload_n (pc := 132) (j := 0) F dX10_years_132 rfl rfl ?_
  refine v_ifl (pc := 133) F fl_X10_56 dX10_years_133 kc_0.1 kc_0.2 fv_9_9 ?_
  obtain ⟨r17, e18, hf⟩ := bnd_some hf
  refine v_callSi (pc := 136) (As := [.ref (gA g f15), .ref (gA g 386)]) F cl_X10_140 dX10_years_136 (kX1_heretics ho_f15 hk_f15 kc_386.1 kc_386.2 e18) rfl rfl (Nat.le_of_ble_eq_true rfl) (by decide) (Nat.zero_le _) ?_
  refine v_if_eq (pc := 139) (tgt := 146) F dX10_years_139 (by decide) (fun c19 => ?_) (fun c19 => ?_)
  · have hf := ite_t hf c19
    refine v_iconst (pc := 146) (v := 0) F dX10_years_146 ic_0 ?_
    refine V.sub (lv' := [(0, .ref (gA g 0)), (2, .int l2), (3, .int l3), (4, .int l4), (6, .int l6)]) [0, 1, 2, 3, 5] rfl ?_
    exact tX10_years_147 F hk hx0 hf
  · have hf := ite_f hf c19
    refine v_iconst (pc := 142) (v := 1) F dX10_years_142 ic_1 ?_
    refine v_goto (pc := 143) (tgt := 147) F dX10_years_143 (by decide) ?_
    refine V.sub (lv' := [(0, .ref (gA g 0)), (2, .int l2), (3, .int l3), (4, .int l4), (6, .int l6)]) [0, 1, 2, 3, 5] rfl ?_
    exact tX10_years_147 F hk hx0 hf
set_option maxRecDepth 100000 in
set_option maxHeartbeats 4000000 in
theorem tX10_years_58 {p : Program} {l : Launch} {e : Env} {s : State} {m : MethodId} {args : Array Value} {below : List Frame} {meth : Method} {c : Code} {g : GE} {B : Nat}   {l2 : Int32} {l3 : Int32} {Q : State → Prop} {x : (ST × Int32)} {nf : Nat} {s0 : (ST × Int32 × Int32 × Int32)} (F : Fx p s m args meth c cX10_years 8 "DustParish" 395 g B) (hX0 : V p l e 8 1 s m args below meth c Q KC 395 g B 8 0 x.1 156 [(0, .ref (gA g 0)), (3, .int l3), (5, .int x.2)] []) (hl : lp nf (fX10_years_58 l2 l3) s0 = some x) : V p l e 8 1 s m args below meth c Q KC 395 g B 8 0 s0.1 58 [(0, .ref (gA g 0)), (2, .int l2), (3, .int l3), (4, .int s0.2.1), (5, .int s0.2.2.1), (6, .int s0.2.2.2)] [] := by
  refine lp_ind (P := fun s0 => V p l e 8 1 s m args below meth c Q KC 395 g B 8 0 s0.1 58 [(0, .ref (gA g 0)), (2, .int l2), (3, .int l3), (4, .int s0.2.1), (5, .int s0.2.2.1), (6, .int s0.2.2.2)] []) ?_ nf s0 hl
  intro s1 y hf hk hx
  have hx0 : ∀ v : (ST × Int32), y = Sum.inr v → V p l e 8 1 s m args below meth c Q KC 395 g B 8 0 v.1 156 [(0, .ref (gA g 0)), (3, .int l3), (5, .int v.2)] [] := fun v e9 => by rw [hx v e9]; exact hX0
  unfold fX10_years_58 at hf
  refine v_iload (pc := 58) (j := 5) F dX10_years_58 rfl ?_
  refine v_iload_n (pc := 60) (j := 1) F dX10_years_60 rfl rfl ?_
  refine v_icmp_ge (pc := 61) (tgt := 156) F dX10_years_61 (by decide) (fun c7 => ?_) (fun c7 => ?_)
  · have hf := ite_t hf c7
    refine V.sub (lv' := [(0, .ref (gA g 0)), (3, .int l3), (5, .int s1.2.2.1)]) [0, 2, 4] rfl ?_
    exact hx0 (s1.1, s1.2.2.1) (Option.some.inj hf).symm
  · have hf := ite_f hf c7
    refine v_aload_n (pc := 64) (j := 0) F dX10_years_64 rfl rfl ?_
    obtain ⟨f8, e9, hf⟩ := bnd_some hf
    obtain ⟨ho_f8, hk_f8, e9⟩ := rf_in e9
    refine v_ifl (pc := 65) F fl_X10_23 dX10_years_65 kc_0.1 kc_0.2 (fv_9_3 e9) ?_
    refine v_ifl (pc := 68) F fl_X10_104 dX10_years_68 ho_f8 hk_f8 fv_1_0 ?_
    refine v_if_le (pc := 71) (tgt := 114) F dX10_years_71 (by decide) (fun c10 => ?_) (fun c10 => ?_)
    · have hf := ite_t hf c10
      exact tX10_years_114 F hk hx0 hf
    · have hf := ite_f hf c10
      refine v_iload (pc := 74) (j := 3) F dX10_years_74 rfl ?_
      obtain ⟨r20, e21, hf⟩ := bnd_some hf
      refine v_callSi (pc := 76) (As := [.int s1.2.1]) F cl_X10_333 dX10_years_76 (kX10_nextSeed e21) rfl rfl (Nat.le_of_ble_eq_true rfl) (by decide) (Nat.zero_le _) ?_
      refine v_istore (pc := 79) (lv' := [(0, .ref (gA g 0)), (2, .int l2), (3, .int l3), (4, .int r20), (5, .int s1.2.2.1), (6, .int s1.2.2.2)]) F dX10_years_79 (by decide) rfl ?_
      refine v_iload (pc := 81) (j := 3) F dX10_years_81 rfl ?_
      refine v_aload_n (pc := 83) (j := 0) F dX10_years_83 rfl rfl ?_
      obtain ⟨f22, e23, hf⟩ := bnd_some hf
      obtain ⟨ho_f22, hk_f22, e23⟩ := rf_in e23
      refine v_ifl (pc := 84) F fl_X10_23 dX10_years_84 kc_0.1 kc_0.2 (fv_9_3 e23) ?_
      refine v_ifl (pc := 87) F fl_X10_104 dX10_years_87 ho_f22 hk_f22 fv_1_0 ?_
      obtain ⟨r24, e25, hf⟩ := bnd_some hf
      refine v_callSi (pc := 90) (As := [.int r20, .int (s1.1 f22 0)]) F cl_X10_336 dX10_years_90 (kX10_draw e25) rfl rfl (Nat.le_of_ble_eq_true rfl) (by decide) (Nat.zero_le _) ?_
      refine v_istore (pc := 93) (lv' := [(0, .ref (gA g 0)), (2, .int l2), (3, .int l3), (4, .int r20), (5, .int s1.2.2.1), (6, .int s1.2.2.2), (7, .int r24)]) F dX10_years_93 (by decide) rfl ?_
      refine v_iload (pc := 95) (j := 3) F dX10_years_95 rfl ?_
      obtain ⟨r26, e27, hf⟩ := bnd_some hf
      refine v_callSi (pc := 97) (As := [.int r20]) F cl_X10_333 dX10_years_97 (kX10_nextSeed e27) rfl rfl (Nat.le_of_ble_eq_true rfl) (by decide) (Nat.zero_le _) ?_
      refine v_istore (pc := 100) (lv' := [(0, .ref (gA g 0)), (2, .int l2), (3, .int l3), (4, .int r26), (5, .int s1.2.2.1), (6, .int s1.2.2.2), (7, .int r24)]) F dX10_years_100 (by decide) rfl ?_
      refine v_aload_n (pc := 102) (j := 0) F dX10_years_102 rfl rfl ?_
      refine v_iload (pc := 103) (j := 6) F dX10_years_103 rfl ?_
      refine v_iload (pc := 105) (j := 3) F dX10_years_105 rfl ?_
      refine v_iconst (pc := 107) (v := 4) F dX10_years_107 ic_4 ?_
      obtain ⟨r28, e29, hf⟩ := bnd_some hf
      refine v_callSi (pc := 108) (As := [.int r26, .int 4]) F cl_X10_336 dX10_years_108 (kX10_draw e29) rfl rfl (Nat.le_of_ble_eq_true rfl) (by decide) (Nat.zero_le _) ?_
      obtain ⟨r30, e31, hf⟩ := bnd_some hf
      refine v_callVv (pc := 111) (As := [.int r24, .int r28]) F cl_X10_339 dX10_years_111 (kX10_happen e31) kc_0.1 kc_0.2 rc_9 rfl rfl (Nat.le_of_ble_eq_true rfl) (by decide) (Nat.zero_le _) ?_
      refine V.sub (lv' := [(0, .ref (gA g 0)), (2, .int l2), (3, .int l3), (4, .int r26), (5, .int s1.2.2.1), (6, .int s1.2.2.2)]) [0, 1, 2, 3, 4, 5] rfl ?_
      exact tX10_years_114 F hk hx0 hf
set_option maxRecDepth 100000 in
set_option maxHeartbeats 4000000 in
theorem tX10_years_193 {p : Program} {l : Launch} {e : Env} {s : State} {m : MethodId} {args : Array Value} {below : List Frame} {meth : Method} {c : Code} {g : GE} {B : Nat} {h : ST}  {q0 : Int32} (F : Fx p s m args meth c cX10_years 8 "DustParish" 395 g B)
    {y : (Int32 ⊕ Nat) × ST} (hr : meth.sig.returnType = (some .int)) (hT : l.stackTraces = false) (hex : ∀ x ∈ c.exceptionTable.toList, False) (hf : fX10_years_193 h q0 = some y) : V p l e 8 1 s m args below meth c (vx_MQ below (QX KC 395 g (ocI y.1) y.2) (XX KC 395 g (ocI y.1) y.2) args s 1 (6 * 1) (WA 395 g)) KC 395 g B 8 0 h 193 [] [.int q0] := by
  unfold fX10_years_193 at hf
  exact v_xiret (pc := 193) F hr dX10_years_193 (some_fst hf) (some_snd hf) (by decide)
set_option maxRecDepth 100000 in
set_option maxHeartbeats 4000000 in
theorem kX10_years {l : Launch} {g : GE} {B : Nat} {h : ST} {a1 : Int32} {a2 : Int32} {a3 : Int32} {y : (Int32 ⊕ Nat) × ST} (hT : l.stackTraces = false) (hf : fX10_years h a1 a2 a3 = some y) : XT l yX10_years cX10_years 8 (some .int) 8 1 KC 395 g B [.ref (gA g 0), .int a1, .int a2, .int a3] h (ocI y.1) y.2 := by
  refine XT.of pn_X10 (Nat.le_of_ble_eq_true rfl) ?_
  intro p e s m below meth c hr hex F
  have F : Fx p s m _ meth c cX10_years 8 "DustParish" 395 g B := F
  refine V_lv (lv' := [(0, .ref (gA g 0)), (1, .int a1), (2, .int a2), (3, .int a3)]) rfl ?_
  unfold fX10_years at hf
  refine v_iload_n (pc := 0) (j := 3) F dX10_years_0 rfl rfl ?_
  refine v_if_lt (pc := 1) (tgt := 9) F dX10_years_1 (by decide) (fun c1 => ?_) (fun c1 => ?_)
  · have hf := ite_t hf c1
    refine V.sub (lv' := []) [] rfl ?_
    exact tX10_years_9 F hr hT hex hf
  · have hf := ite_f hf c1
    refine v_iload_n (pc := 4) (j := 3) F dX10_years_4 rfl rfl ?_
    refine v_iconst (pc := 5) (v := 2) F dX10_years_5 ic_2 ?_
    refine v_icmp_le (pc := 6) (tgt := 17) F dX10_years_6 (by decide) (fun c2 => ?_) (fun c2 => ?_)
    · have hf := ite_t hf c2
      refine v_iload_n (pc := 17) (j := 2) F dX10_years_17 rfl rfl ?_
      refine v_if_lt (pc := 18) (tgt := 27) F dX10_years_18 (by decide) (fun c3 => ?_) (fun c3 => ?_)
      · have hf := ite_t hf c3
        refine V.sub (lv' := []) [] rfl ?_
        exact tX10_years_27 F hr hT hex hf
      · have hf := ite_f hf c3
        refine v_iload_n (pc := 21) (j := 2) F dX10_years_21 rfl rfl ?_
        refine v_bipush (pc := 22) (v := 60) F dX10_years_22 bp_60 ?_
        refine v_icmp_le (pc := 24) (tgt := 35) F dX10_years_24 (by decide) (fun c4 => ?_) (fun c4 => ?_)
        · have hf := ite_t hf c4
          refine v_aload_n (pc := 35) (j := 0) F dX10_years_35 rfl rfl ?_
          refine v_ifl (pc := 36) F fl_X10_56 dX10_years_36 kc_0.1 kc_0.2 fv_9_9 ?_
          refine v_aload_n (pc := 39) (j := 0) F dX10_years_39 rfl rfl ?_
          refine v_ifl (pc := 40) F fl_X10_42 dX10_years_40 kc_0.1 kc_0.2 fv_9_6 ?_
          refine v_ifl (pc := 43) F fl_X10_122 dX10_years_43 kc_42.1 kc_42.2 fv_2_0 ?_
          obtain ⟨r5, e6, hf⟩ := bnd_some hf
          refine v_callVv (pc := 46) (As := [.ref (gA g 43)]) F cl_X10_241 dX10_years_46 (kX8_copy kc_386.1 kc_386.2 kc_43.1 kc_43.2 e6) kc_386.1 kc_386.2 rc_7 rfl rfl (Nat.le_of_ble_eq_true rfl) (by decide) (Nat.zero_le _) ?_
          refine v_iload_n (pc := 49) (j := 1) F dX10_years_49 rfl rfl ?_
          refine v_istore (pc := 50) (lv' := [(0, .ref (gA g 0)), (1, .int a1), (2, .int a2), (3, .int a3), (4, .int a1)]) F dX10_years_50 (by decide) rfl ?_
          refine v_iconst (pc := 52) (v := 0) F dX10_years_52 ic_0 ?_
          refine v_istore (pc := 53) (lv' := [(0, .ref (gA g 0)), (1, .int a1), (2, .int a2), (3, .int a3), (4, .int a1), (5, .int 0)]) F dX10_years_53 (by decide) rfl ?_
          refine v_iconst (pc := 55) (v := 0) F dX10_years_55 ic_0 ?_
          refine v_istore (pc := 56) (lv' := [(0, .ref (gA g 0)), (1, .int a1), (2, .int a2), (3, .int a3), (4, .int a1), (5, .int 0), (6, .int 0)]) F dX10_years_56 (by decide) rfl ?_
          obtain ⟨x32, e33, hf⟩ := bnd_some hf
          refine V.sub (lv' := [(0, .ref (gA g 0)), (2, .int a2), (3, .int a3), (4, .int a1), (5, .int 0), (6, .int 0)]) [0, 2, 3, 4, 5, 6] rfl ?_
          refine tX10_years_58 (s0 := (r5, a1, 0, 0)) F ?_ e33
          refine v_iload_n (pc := 156) (j := 1) F dX10_years_156 rfl rfl ?_
          refine v_iconst (pc := 157) (v := 1) F dX10_years_157 ic_1 ?_
          refine v_icmp_ne (pc := 158) (tgt := 164) F dX10_years_158 (by decide) (fun c34 => ?_) (fun c34 => ?_)
          · have hf := ite_f hf c34
            refine v_iload_n (pc := 164) (j := 1) F dX10_years_164 rfl rfl ?_
            refine v_if_ne (pc := 165) (tgt := 189) F dX10_years_165 (by decide) (fun c35 => ?_) (fun c35 => ?_)
            · have hf := ite_f hf c35
              refine v_aload_n (pc := 189) (j := 0) F dX10_years_189 rfl rfl ?_
              obtain ⟨r36, e37, hf⟩ := bnd_some hf
              refine v_callVi (pc := 190) (As := []) F cl_X10_342 dX10_years_190 (kX10_fullestTrialRoom e37) kc_0.1 kc_0.2 rc_9 rfl rfl (Nat.le_of_ble_eq_true rfl) (by decide) (Nat.zero_le _) ?_
              refine V.sub (lv' := []) [] rfl ?_
              exact tX10_years_193 F hr hT hex hf
            · have hf := ite_t hf c35
              refine v_aload_n (pc := 168) (j := 0) F dX10_years_168 rfl rfl ?_
              refine v_ifl (pc := 169) F fl_X10_56 dX10_years_169 kc_0.1 kc_0.2 fv_9_9 ?_
              refine v_ifl (pc := 172) F fl_X10_134 dX10_years_172 kc_386.1 kc_386.2 fv_7_1 ?_
              refine v_aload_n (pc := 175) (j := 0) F dX10_years_175 rfl rfl ?_
              refine v_ifl (pc := 176) F fl_X10_42 dX10_years_176 kc_0.1 kc_0.2 fv_9_6 ?_
              refine v_ifl (pc := 179) F fl_X10_122 dX10_years_179 kc_42.1 kc_42.2 fv_2_0 ?_
              refine v_ifl (pc := 182) F fl_X10_134 dX10_years_182 kc_43.1 kc_43.2 fv_7_1 ?_
              refine v_isub (pc := 185) F dX10_years_185 ?_
              refine v_goto (pc := 186) (tgt := 193) F dX10_years_186 (by decide) ?_
              refine V.sub (lv' := []) [] rfl ?_
              exact tX10_years_193 F hr hT hex hf
          · have hf := ite_t hf c34
            refine v_iload (pc := 161) (j := 2) F dX10_years_161 rfl ?_
            exact v_xiret (pc := 163) F hr dX10_years_163 (some_fst hf) (some_snd hf) (by decide)
        · have hf := ite_f hf c4
          refine V.sub (lv' := []) [] rfl ?_
          exact tX10_years_27 F hr hT hex hf
    · have hf := ite_f hf c2
      refine V.sub (lv' := []) [] rfl ?_
      exact tX10_years_9 F hr hT hex hf
