def fX6_release_0 (l1 : Int32) (s1 : ST) : Option (ST ⊕ ST) :=
  if (s1 40 1) ≤ 0 then
  some (.inr s1)
  else
  bnd (rd 80 (s1 41) ((s1 40 1) - 1)) fun v2 =>
    bnd (fX6_strengthOf s1 v2) fun r4 =>
    if r4 < l1 then
    some (.inr s1)
    else
    bnd (pw s1 40 1 ((s1 40 1) - 1)) fun h7 =>
      bnd (rf KC 395 4 (h7 40 7)) fun f9 =>
      bnd (rd 80 (h7 41) (h7 40 1)) fun v11 =>
      bnd (fX5_put h7 f9 v11) fun r13 =>
      some (.inl r13)
def fX6_release_54 (h : ST)  : Option (ST) :=
  some h
def fX6_release (h : ST) (a1 : Int32) : Option (ST) :=
  bnd (lp FU (fX6_release_0 a1) h) fun x15 =>
  fX6_release_54 x15 
set_option maxRecDepth 100000 in
set_option maxHeartbeats 4000000 in
theorem tX6_release_0 {p : Program} {l : Launch} {e : Env} {s : State} {m : MethodId} {args : Array Value} {below : List Frame} {meth : Method} {c : Code} {g : GE} {B : Nat}  {l1 : Int32} {Q : State → Prop} {x : ST} {nf : Nat} {s0 : ST} (F : Fx p s m args meth c cX6_release 2 "DustParish$RuleReader" 395 g B) (hX0 : V p l e 2 0 s m args below meth c Q KC 395 g B 2 0 x 54 [] []) (hl : lp nf (fX6_release_0 l1) s0 = some x) : V p l e 2 0 s m args below meth c Q KC 395 g B 2 0 s0 0 [(0, .ref (gA g 40)), (1, .int l1)] [] := by
  refine lp_ind (P := fun s0 => V p l e 2 0 s m args below meth c Q KC 395 g B 2 0 s0 0 [(0, .ref (gA g 40)), (1, .int l1)] []) ?_ nf s0 hl
  intro s1 y hf hk hx
  have hx0 : ∀ v : ST, y = Sum.inr v → V p l e 2 0 s m args below meth c Q KC 395 g B 2 0 v 54 [] [] := fun v e9 => by rw [hx v e9]; exact hX0
  unfold fX6_release_0 at hf
  refine v_aload_n (pc := 0) (j := 0) F dX6_release_0 rfl rfl ?_
  refine v_ifl (pc := 1) F fl_X6_15 dX6_release_1 kc_40.1 kc_40.2 fv_5_1 ?_
  refine v_if_le (pc := 4) (tgt := 54) F dX6_release_4 (by decide) (fun c1 => ?_) (fun c1 => ?_)
  · have hf := ite_t hf c1
    refine V.sub (lv' := []) [] rfl ?_
    exact hx0 s1 (Option.some.inj hf).symm
  · have hf := ite_f hf c1
    refine v_aload_n (pc := 7) (j := 0) F dX6_release_7 rfl rfl ?_
    refine v_ifl (pc := 8) F fl_X6_11 dX6_release_8 kc_40.1 kc_40.2 fv_5_0 ?_
    refine v_aload_n (pc := 11) (j := 0) F dX6_release_11 rfl rfl ?_
    refine v_ifl (pc := 12) F fl_X6_15 dX6_release_12 kc_40.1 kc_40.2 fv_5_1 ?_
    refine v_iconst (pc := 15) (v := 1) F dX6_release_15 ic_1 ?_
    refine v_isub (pc := 16) F dX6_release_16 ?_
    obtain ⟨v2, e3, hf⟩ := bnd_some hf
    refine v_iald (pc := 17) F dX6_release_17 kc_41.1 kc_41.2 e3 ?_
    obtain ⟨r4, e5, hf⟩ := bnd_some hf
    refine v_callSi (pc := 18) (As := [.int v2]) F cl_X6_111 dX6_release_18 (kX6_strengthOf e5) rfl rfl (Nat.le_of_ble_eq_true rfl) (by decide) (Nat.zero_le _) ?_
    refine v_iload_n (pc := 21) (j := 1) F dX6_release_21 rfl rfl ?_
    refine v_icmp_lt (pc := 22) (tgt := 54) F dX6_release_22 (by decide) (fun c6 => ?_) (fun c6 => ?_)
    · have hf := ite_t hf c6
      refine V.sub (lv' := []) [] rfl ?_
      exact hx0 s1 (Option.some.inj hf).symm
    · have hf := ite_f hf c6
      refine v_aload_n (pc := 25) (j := 0) F dX6_release_25 rfl rfl ?_
      refine v_dup (pc := 26) F dX6_release_26 rfl ?_
      refine v_ifl (pc := 27) F fl_X6_15 dX6_release_27 kc_40.1 kc_40.2 fv_5_1 ?_
      refine v_iconst (pc := 30) (v := 1) F dX6_release_30 ic_1 ?_
      refine v_isub (pc := 31) F dX6_release_31 ?_
      obtain ⟨h7, e8, hf⟩ := bnd_some hf
      refine v_pfl (pc := 32) F fl_X6_15 pl_5_1 dX6_release_32 kc_40.1 kc_40.2 fv_5_1 rfl rfl e8 ?_
      refine v_aload_n (pc := 35) (j := 0) F dX6_release_35 rfl rfl ?_
      obtain ⟨f9, e10, hf⟩ := bnd_some hf
      obtain ⟨ho_f9, hk_f9, e10⟩ := rf_in e10
      refine v_ifl (pc := 36) F fl_X6_36 dX6_release_36 kc_40.1 kc_40.2 (fv_5_7 e10) ?_
      refine v_aload_n (pc := 39) (j := 0) F dX6_release_39 rfl rfl ?_
      refine v_ifl (pc := 40) F fl_X6_11 dX6_release_40 kc_40.1 kc_40.2 fv_5_0 ?_
      refine v_aload_n (pc := 43) (j := 0) F dX6_release_43 rfl rfl ?_
      refine v_ifl (pc := 44) F fl_X6_15 dX6_release_44 kc_40.1 kc_40.2 fv_5_1 ?_
      obtain ⟨v11, e12, hf⟩ := bnd_some hf
      refine v_iald (pc := 47) F dX6_release_47 kc_41.1 kc_41.2 e12 ?_
      obtain ⟨r13, e14, hf⟩ := bnd_some hf
      refine v_callVv (pc := 48) (As := [.int v11]) F cl_X6_84 dX6_release_48 (kX5_put ho_f9 hk_f9 e14) ho_f9 hk_f9 rc_4 rfl rfl (Nat.le_of_ble_eq_true rfl) (by decide) (Nat.zero_le _) ?_
      refine v_goto (pc := 51) (tgt := 0) F dX6_release_51 (by decide) ?_
      exact hk r13 (Option.some.inj hf).symm
set_option maxRecDepth 100000 in
set_option maxHeartbeats 4000000 in
theorem tX6_release_54 {p : Program} {l : Launch} {e : Env} {s : State} {m : MethodId} {args : Array Value} {below : List Frame} {meth : Method} {c : Code} {g : GE} {B : Nat} {h : ST}  (F : Fx p s m args meth c cX6_release 2 "DustParish$RuleReader" 395 g B)
    {y : ST} (hr : meth.sig.returnType = none) (hf : fX6_release_54 h  = some y) : V p l e 2 0 s m args below meth c (MQ below (QO KC 395 g none y) args s 0 (6 * 0) (fun q => B ≤ q)) KC 395 g B 2 0 h 54 [] [] := by
  unfold fX6_release_54 at hf
  exact v_vret (pc := 54) F hr dX6_release_54 (Option.some.inj hf) (Nat.zero_le _)
set_option maxRecDepth 100000 in
set_option maxHeartbeats 4000000 in
theorem kX6_release {l : Launch} {g : GE} {B : Nat} {h : ST} {a1 : Int32} {y : ST} (hf : fX6_release h a1 = some y) : CT l yX6_release cX6_release 2 none 2 KC 395 g B [.ref (gA g 40), .int a1] h none y := by
  refine CT.of pn_X6 (Nat.le_of_ble_eq_true rfl) ?_
  intro p e s m below meth c hr F
  have F : Fx p s m _ meth c cX6_release 2 "DustParish$RuleReader" 395 g B := F
  refine V_lv (lv' := [(0, .ref (gA g 40)), (1, .int a1)]) rfl ?_
  unfold fX6_release at hf
  obtain ⟨x15, e16, hf⟩ := bnd_some hf
  refine tX6_release_0 (s0 := h) F ?_ e16
  exact tX6_release_54 F hr hf
def fX6_hold (h : ST) (a1 : Int32) : Option (Int32 × ST) :=
  if (h 40 1) < 80 then
  bnd (wr 80 h 41 (h 40 1) a1) fun h2 =>
    bnd (pw h2 40 1 ((h2 40 1) + 1)) fun h4 =>
    some (0, h4)
  else
  some (2, h)
set_option maxRecDepth 100000 in
set_option maxHeartbeats 4000000 in
theorem kX6_hold {l : Launch} {g : GE} {B : Nat} {h : ST} {a1 : Int32} {y : Int32 × ST} (hf : fX6_hold h a1 = some y) : CT l yX6_hold cX6_hold 2 (some .int) 1 KC 395 g B [.ref (gA g 40), .int a1] h (some (.int y.1)) y.2 := by
  refine CT.of pn_X6 (Nat.le_of_ble_eq_true rfl) ?_
  intro p e s m below meth c hr F
  have F : Fx p s m _ meth c cX6_hold 2 "DustParish$RuleReader" 395 g B := F
  refine V_lv (lv' := [(0, .ref (gA g 40)), (1, .int a1)]) rfl ?_
  unfold fX6_hold at hf
  refine v_aload_n (pc := 0) (j := 0) F dX6_hold_0 rfl rfl ?_
  refine v_ifl (pc := 1) F fl_X6_15 dX6_hold_1 kc_40.1 kc_40.2 fv_5_1 ?_
  refine v_bipush (pc := 4) (v := 80) F dX6_hold_4 bp_80 ?_
  refine v_icmp_lt (pc := 6) (tgt := 11) F dX6_hold_6 (by decide) (fun c1 => ?_) (fun c1 => ?_)
  · have hf := ite_t hf c1
    refine v_aload_n (pc := 11) (j := 0) F dX6_hold_11 rfl rfl ?_
    refine v_ifl (pc := 12) F fl_X6_11 dX6_hold_12 kc_40.1 kc_40.2 fv_5_0 ?_
    refine v_aload_n (pc := 15) (j := 0) F dX6_hold_15 rfl rfl ?_
    refine v_ifl (pc := 16) F fl_X6_15 dX6_hold_16 kc_40.1 kc_40.2 fv_5_1 ?_
    refine v_iload_n (pc := 19) (j := 1) F dX6_hold_19 rfl rfl ?_
    obtain ⟨h2, e3, hf⟩ := bnd_some hf
    refine v_iast (pc := 20) F dX6_hold_20 kc_41.1 kc_41.2 e3 ?_
    refine v_aload_n (pc := 21) (j := 0) F dX6_hold_21 rfl rfl ?_
    refine v_dup (pc := 22) F dX6_hold_22 rfl ?_
    refine v_ifl (pc := 23) F fl_X6_15 dX6_hold_23 kc_40.1 kc_40.2 fv_5_1 ?_
    refine v_iconst (pc := 26) (v := 1) F dX6_hold_26 ic_1 ?_
    refine v_iadd (pc := 27) F dX6_hold_27 ?_
    obtain ⟨h4, e5, hf⟩ := bnd_some hf
    refine v_pfl (pc := 28) F fl_X6_15 pl_5_1 dX6_hold_28 kc_40.1 kc_40.2 fv_5_1 rfl rfl e5 ?_
    refine v_iconst (pc := 31) (v := 0) F dX6_hold_31 ic_0 ?_
    exact v_iret (pc := 32) F hr dX6_hold_32 (some_fst hf) (some_snd hf) (Nat.zero_le _)
  · have hf := ite_f hf c1
    refine v_iconst (pc := 9) (v := 2) F dX6_hold_9 ic_2 ?_
    exact v_iret (pc := 10) F hr dX6_hold_10 (some_fst hf) (some_snd hf) (Nat.zero_le _)
def fX6_close (h : ST) : Option (Int32 × ST) :=
  if (h 40 2) = 0 then
  some (1, h)
  else
  bnd (fX6_release h 1) fun r2 =>
    bnd (pw r2 40 1 (if (0 : Int32) < ((r2 40 1) - 1) then ((r2 40 1) - 1) else 0)) fun h4 =>
    bnd (pw h4 40 2 ((h4 40 2) - 1)) fun h6 =>
    some (0, h6)
set_option maxRecDepth 100000 in
set_option maxHeartbeats 4000000 in
theorem kX6_close {l : Launch} {g : GE} {B : Nat} {h : ST} {y : Int32 × ST} (hf : fX6_close h = some y) : CT l yX6_close cX6_close 1 (some .int) 3 KC 395 g B [.ref (gA g 40)] h (some (.int y.1)) y.2 := by
  refine CT.of pn_X6 (Nat.le_of_ble_eq_true rfl) ?_
  intro p e s m below meth c hr F
  have F : Fx p s m _ meth c cX6_close 1 "DustParish$RuleReader" 395 g B := F
  refine V_lv (lv' := [(0, .ref (gA g 40))]) rfl ?_
  unfold fX6_close at hf
  refine v_aload_n (pc := 0) (j := 0) F dX6_close_0 rfl rfl ?_
  refine v_ifl (pc := 1) F fl_X6_19 dX6_close_1 kc_40.1 kc_40.2 fv_5_2 ?_
  refine v_if_ne (pc := 4) (tgt := 9) F dX6_close_4 (by decide) (fun c1 => ?_) (fun c1 => ?_)
  · have hf := ite_f hf c1
    refine v_aload_n (pc := 9) (j := 0) F dX6_close_9 rfl rfl ?_
    refine v_iconst (pc := 10) (v := 1) F dX6_close_10 ic_1 ?_
    obtain ⟨r2, e3, hf⟩ := bnd_some hf
    refine v_callVv (pc := 11) (As := [.int 1]) F cl_X6_49 dX6_close_11 (kX6_release e3) kc_40.1 kc_40.2 rc_5 rfl rfl (Nat.le_of_ble_eq_true rfl) (by decide) (Nat.zero_le _) ?_
    refine v_aload_n (pc := 14) (j := 0) F dX6_close_14 rfl rfl ?_
    refine v_iconst (pc := 15) (v := 0) F dX6_close_15 ic_0 ?_
    refine v_aload_n (pc := 16) (j := 0) F dX6_close_16 rfl rfl ?_
    refine v_ifl (pc := 17) F fl_X6_15 dX6_close_17 kc_40.1 kc_40.2 fv_5_1 ?_
    refine v_iconst (pc := 20) (v := 1) F dX6_close_20 ic_1 ?_
    refine v_isub (pc := 21) F dX6_close_21 ?_
    refine v_mmax (pc := 22) F tw_890 mmaxW dX6_close_22 (by decide) (Nat.le_of_ble_eq_true rfl) (Nat.zero_le _) ?_
    obtain ⟨h4, e5, hf⟩ := bnd_some hf
    refine v_pfl (pc := 25) F fl_X6_15 pl_5_1 dX6_close_25 kc_40.1 kc_40.2 fv_5_1 rfl rfl e5 ?_
    refine v_aload_n (pc := 28) (j := 0) F dX6_close_28 rfl rfl ?_
    refine v_dup (pc := 29) F dX6_close_29 rfl ?_
    refine v_ifl (pc := 30) F fl_X6_19 dX6_close_30 kc_40.1 kc_40.2 fv_5_2 ?_
    refine v_iconst (pc := 33) (v := 1) F dX6_close_33 ic_1 ?_
    refine v_isub (pc := 34) F dX6_close_34 ?_
    obtain ⟨h6, e7, hf⟩ := bnd_some hf
    refine v_pfl (pc := 35) F fl_X6_19 pl_5_2 dX6_close_35 kc_40.1 kc_40.2 fv_5_2 rfl rfl e7 ?_
    refine v_iconst (pc := 38) (v := 0) F dX6_close_38 ic_0 ?_
    exact v_iret (pc := 39) F hr dX6_close_39 (some_fst hf) (some_snd hf) (Nat.zero_le _)
  · have hf := ite_t hf c1
    refine v_iconst (pc := 7) (v := 1) F dX6_close_7 ic_1 ?_
    exact v_iret (pc := 8) F hr dX6_close_8 (some_fst hf) (some_snd hf) (Nat.zero_le _)
def fX6_strengthWaiting_25 (h : ST) (q0 : Int32) : Option (Int32) :=
  some q0
def fX6_strengthWaiting (h : ST) : Option (Int32) :=
  if (h 40 1) ≤ 0 then
  fX6_strengthWaiting_25 h 0
  else
  bnd (rd 80 (h 41) ((h 40 1) - 1)) fun v2 =>
    bnd (fX6_strengthOf h v2) fun r4 =>
    fX6_strengthWaiting_25 h r4
set_option maxRecDepth 100000 in
set_option maxHeartbeats 4000000 in
theorem tX6_strengthWaiting_25 {p : Program} {l : Launch} {e : Env} {s : State} {m : MethodId} {args : Array Value} {below : List Frame} {meth : Method} {c : Code} {g : GE} {B : Nat} {h : ST}  {q0 : Int32} (F : Fx p s m args meth c cX6_strengthWaiting 1 "DustParish$RuleReader" 395 g B)
    {y : Int32} (hr : meth.sig.returnType = (some .int)) (hf : fX6_strengthWaiting_25 h q0 = some y) : V p l e 2 0 s m args below meth c (MQ below (QO KC 395 g (some (.int y)) h) args s 0 (6 * 0) (fun q => B ≤ q)) KC 395 g B 1 0 h 25 [] [.int q0] := by
  unfold fX6_strengthWaiting_25 at hf
  exact v_iret (pc := 25) F hr dX6_strengthWaiting_25 (Option.some.inj hf) rfl (Nat.zero_le _)
set_option maxRecDepth 100000 in
set_option maxHeartbeats 4000000 in
theorem kX6_strengthWaiting {l : Launch} {g : GE} {B : Nat} {h : ST} {y : Int32} (hf : fX6_strengthWaiting h = some y) : CT l yX6_strengthWaiting cX6_strengthWaiting 1 (some .int) 2 KC 395 g B [.ref (gA g 40)] h (some (.int y)) h := by
  refine CT.of pn_X6 (Nat.le_of_ble_eq_true rfl) ?_
  intro p e s m below meth c hr F
  have F : Fx p s m _ meth c cX6_strengthWaiting 1 "DustParish$RuleReader" 395 g B := F
  refine V_lv (lv' := [(0, .ref (gA g 40))]) rfl ?_
  unfold fX6_strengthWaiting at hf
  refine v_aload_n (pc := 0) (j := 0) F dX6_strengthWaiting_0 rfl rfl ?_
  refine v_ifl (pc := 1) F fl_X6_15 dX6_strengthWaiting_1 kc_40.1 kc_40.2 fv_5_1 ?_
  refine v_if_le (pc := 4) (tgt := 24) F dX6_strengthWaiting_4 (by decide) (fun c1 => ?_) (fun c1 => ?_)
  · have hf := ite_t hf c1
    refine v_iconst (pc := 24) (v := 0) F dX6_strengthWaiting_24 ic_0 ?_
    refine V.sub (lv' := []) [] rfl ?_
    exact tX6_strengthWaiting_25 F hr hf
  · have hf := ite_f hf c1
    refine v_aload_n (pc := 7) (j := 0) F dX6_strengthWaiting_7 rfl rfl ?_
    refine v_ifl (pc := 8) F fl_X6_11 dX6_strengthWaiting_8 kc_40.1 kc_40.2 fv_5_0 ?_
    refine v_aload_n (pc := 11) (j := 0) F dX6_strengthWaiting_11 rfl rfl ?_
    refine v_ifl (pc := 12) F fl_X6_15 dX6_strengthWaiting_12 kc_40.1 kc_40.2 fv_5_1 ?_
    refine v_iconst (pc := 15) (v := 1) F dX6_strengthWaiting_15 ic_1 ?_
    refine v_isub (pc := 16) F dX6_strengthWaiting_16 ?_
    obtain ⟨v2, e3, hf⟩ := bnd_some hf
    refine v_iald (pc := 17) F dX6_strengthWaiting_17 kc_41.1 kc_41.2 e3 ?_
    obtain ⟨r4, e5, hf⟩ := bnd_some hf
    refine v_callSi (pc := 18) (As := [.int v2]) F cl_X6_111 dX6_strengthWaiting_18 (kX6_strengthOf e5) rfl rfl (Nat.le_of_ble_eq_true rfl) (by decide) (Nat.zero_le _) ?_
    refine v_goto (pc := 21) (tgt := 25) F dX6_strengthWaiting_21 (by decide) ?_
    refine V.sub (lv' := []) [] rfl ?_
    exact tX6_strengthWaiting_25 F hr hf
def fX4_place (h : ST) : Option (Int32) :=
  some (h 39 1)
set_option maxRecDepth 100000 in
set_option maxHeartbeats 4000000 in
theorem kX4_place {l : Launch} {g : GE} {B : Nat} {h : ST} {y : Int32} (hf : fX4_place h = some y) : CT l yX4_place cX4_place 1 (some .int) 1 KC 395 g B [.ref (gA g 38)] h (some (.int y)) h := by
  refine CT.of pn_X4 (Nat.le_of_ble_eq_true rfl) ?_
  intro p e s m below meth c hr F
  have F : Fx p s m _ meth c cX4_place 1 "DustParish$Reader" 395 g B := F
  refine V_lv (lv' := [(0, .ref (gA g 38))]) rfl ?_
  unfold fX4_place at hf
  refine v_aload_n (pc := 0) (j := 0) F dX4_place_0 rfl rfl ?_
  refine v_ifl (pc := 1) F fl_X4_33 dX4_place_1 kc_38.1 kc_38.2 fv_3_0 ?_
  refine v_ifl (pc := 4) F fl_X4_56 dX4_place_4 kc_39.1 kc_39.2 fv_8_1 ?_
  exact v_iret (pc := 7) F hr dX4_place_7 (Option.some.inj hf) rfl (Nat.zero_le _)
def fX2_doorsOf_28 (h : ST) (o : Nat) (l1 : Int32) (l3 : Int32) (q0 : Int32) (q1 : Int32) : Option ((Int32 × Int32) ⊕ Int32) :=
  some (.inl (q0 + q1, l3 + 1))
def fX2_doorsOf_4 (h : ST) (o : Nat) (l1 : Int32) (s1 : (Int32 × Int32)) : Option ((Int32 × Int32) ⊕ Int32) :=
  if (h o 5) ≤ s1.2 then
  some (.inr s1.1)
  else
  bnd (fX2_behind h o s1.2 l1) fun r2 =>
    if r2 = (-1) then
    fX2_doorsOf_28 h o l1 s1.2 s1.1 0
    else
    fX2_doorsOf_28 h o l1 s1.2 s1.1 1
def fX2_doorsOf (h : ST) (o : Nat) (a1 : Int32) : Option (Int32) :=
  bnd (lp FU (fX2_doorsOf_4 h o a1) (0, 0)) fun x5 =>
  some x5
set_option maxRecDepth 100000 in
set_option maxHeartbeats 4000000 in
theorem tX2_doorsOf_28 {p : Program} {l : Launch} {e : Env} {s : State} {m : MethodId} {args : Array Value} {below : List Frame} {meth : Method} {c : Code} {g : GE} {B : Nat} {h : ST} {o : Nat} (ho_o : o < 395) (hk_o : KC o = (1, 0)) {l1 : Int32} {l3 : Int32} {q0 : Int32} {q1 : Int32} (F : Fx p s m args meth c cX2_doorsOf 4 "DustParish$Facts" 395 g B)
    {Q : State → Prop} {y : (Int32 × Int32) ⊕ Int32} (hk : ∀ v : (Int32 × Int32), y = Sum.inl v → V p l e 2 0 s m args below meth c Q KC 395 g B 4 0 h 4 [(0, .ref (gA g o)), (1, .int l1), (2, .int v.1), (3, .int v.2)] []) (hx0 : ∀ v : Int32, y = Sum.inr v → V p l e 2 0 s m args below meth c Q KC 395 g B 4 0 h 36 [(2, .int v)] []) (hf : fX2_doorsOf_28 h o l1 l3 q0 q1 = some y) : V p l e 2 0 s m args below meth c Q KC 395 g B 4 0 h 28 [(0, .ref (gA g o)), (1, .int l1), (3, .int l3)] [.int q1, .int q0] := by
  unfold fX2_doorsOf_28 at hf
  refine v_iadd (pc := 28) F dX2_doorsOf_28 ?_
  refine v_istore_n (pc := 29) (lv' := [(0, .ref (gA g o)), (1, .int l1), (2, .int (q0 + q1)), (3, .int l3)]) F dX2_doorsOf_29 rfl (by decide) rfl ?_
  refine v_iinc (pc := 30) (j := 3) (v := l3 + 1) (lv' := [(0, .ref (gA g o)), (1, .int l1), (2, .int (q0 + q1)), (3, .int (l3 + 1))]) F dX2_doorsOf_30 rfl (congrArg (fun z => l3 + z) ic_1) (by decide) rfl ?_
  refine v_goto (pc := 33) (tgt := 4) F dX2_doorsOf_33 (by decide) ?_
  exact hk (q0 + q1, l3 + 1) (Option.some.inj hf).symm
set_option maxRecDepth 100000 in
set_option maxHeartbeats 4000000 in
theorem tX2_doorsOf_4 {p : Program} {l : Launch} {e : Env} {s : State} {m : MethodId} {args : Array Value} {below : List Frame} {meth : Method} {c : Code} {g : GE} {B : Nat} {h : ST} {o : Nat} (ho_o : o < 395) (hk_o : KC o = (1, 0)) {l1 : Int32} {Q : State → Prop} {x : Int32} {nf : Nat} {s0 : (Int32 × Int32)} (F : Fx p s m args meth c cX2_doorsOf 4 "DustParish$Facts" 395 g B) (hX0 : V p l e 2 0 s m args below meth c Q KC 395 g B 4 0 h 36 [(2, .int x)] []) (hl : lp nf (fX2_doorsOf_4 h o l1) s0 = some x) : V p l e 2 0 s m args below meth c Q KC 395 g B 4 0 h 4 [(0, .ref (gA g o)), (1, .int l1), (2, .int s0.1), (3, .int s0.2)] [] := by
  refine lp_ind (P := fun s0 => V p l e 2 0 s m args below meth c Q KC 395 g B 4 0 h 4 [(0, .ref (gA g o)), (1, .int l1), (2, .int s0.1), (3, .int s0.2)] []) ?_ nf s0 hl
  intro s1 y hf hk hx
  have hx0 : ∀ v : Int32, y = Sum.inr v → V p l e 2 0 s m args below meth c Q KC 395 g B 4 0 h 36 [(2, .int v)] [] := fun v e9 => by rw [hx v e9]; exact hX0
  unfold fX2_doorsOf_4 at hf
  refine v_iload_n (pc := 4) (j := 3) F dX2_doorsOf_4 rfl rfl ?_
  refine v_aload_n (pc := 5) (j := 0) F dX2_doorsOf_5 rfl rfl ?_
  refine v_ifl (pc := 6) F fl_X2_62 dX2_doorsOf_6 ho_o hk_o fv_1_5 ?_
  refine v_icmp_ge (pc := 9) (tgt := 36) F dX2_doorsOf_9 (by decide) (fun c1 => ?_) (fun c1 => ?_)
  · have hf := ite_t hf c1
    refine V.sub (lv' := [(2, .int s1.1)]) [2] rfl ?_
    exact hx0 s1.1 (Option.some.inj hf).symm
  · have hf := ite_f hf c1
    refine v_iload_n (pc := 12) (j := 2) F dX2_doorsOf_12 rfl rfl ?_
    refine v_aload_n (pc := 13) (j := 0) F dX2_doorsOf_13 rfl rfl ?_
    refine v_iload_n (pc := 14) (j := 3) F dX2_doorsOf_14 rfl rfl ?_
    refine v_iload_n (pc := 15) (j := 1) F dX2_doorsOf_15 rfl rfl ?_
    obtain ⟨r2, e3, hf⟩ := bnd_some hf
    refine v_callVi (pc := 16) (As := [.int s1.2, .int l1]) F cl_X2_94 dX2_doorsOf_16 (kX2_behind ho_o hk_o e3) ho_o hk_o rc_1 rfl rfl (Nat.le_of_ble_eq_true rfl) (by decide) (Nat.zero_le _) ?_
    refine v_iconst (pc := 19) (v := (-1)) F dX2_doorsOf_19 ic_m1 ?_
    refine v_icmp_eq (pc := 20) (tgt := 27) F dX2_doorsOf_20 (by decide) (fun c4 => ?_) (fun c4 => ?_)
    · have hf := ite_t hf c4
      refine v_iconst (pc := 27) (v := 0) F dX2_doorsOf_27 ic_0 ?_
      refine V.sub (lv' := [(0, .ref (gA g o)), (1, .int l1), (3, .int s1.2)]) [0, 1, 3] rfl ?_
      exact tX2_doorsOf_28 ho_o hk_o F hk hx0 hf
    · have hf := ite_f hf c4
      refine v_iconst (pc := 23) (v := 1) F dX2_doorsOf_23 ic_1 ?_
      refine v_goto (pc := 24) (tgt := 28) F dX2_doorsOf_24 (by decide) ?_
      refine V.sub (lv' := [(0, .ref (gA g o)), (1, .int l1), (3, .int s1.2)]) [0, 1, 3] rfl ?_
      exact tX2_doorsOf_28 ho_o hk_o F hk hx0 hf
set_option maxRecDepth 100000 in
set_option maxHeartbeats 4000000 in
theorem kX2_doorsOf {l : Launch} {g : GE} {B : Nat} {h : ST} {o : Nat} (ho_o : o < 395) (hk_o : KC o = (1, 0)) {a1 : Int32} {y : Int32} (hf : fX2_doorsOf h o a1 = some y) : CT l yX2_doorsOf cX2_doorsOf 4 (some .int) 2 KC 395 g B [.ref (gA g o), .int a1] h (some (.int y)) h := by
  refine CT.of pn_X2 (Nat.le_of_ble_eq_true rfl) ?_
  intro p e s m below meth c hr F
  have F : Fx p s m _ meth c cX2_doorsOf 4 "DustParish$Facts" 395 g B := F
  refine V_lv (lv' := [(0, .ref (gA g o)), (1, .int a1)]) rfl ?_
  unfold fX2_doorsOf at hf
  refine v_iconst (pc := 0) (v := 0) F dX2_doorsOf_0 ic_0 ?_
  refine v_istore_n (pc := 1) (lv' := [(0, .ref (gA g o)), (1, .int a1), (2, .int 0)]) F dX2_doorsOf_1 rfl (by decide) rfl ?_
  refine v_iconst (pc := 2) (v := 0) F dX2_doorsOf_2 ic_0 ?_
  refine v_istore_n (pc := 3) (lv' := [(0, .ref (gA g o)), (1, .int a1), (2, .int 0), (3, .int 0)]) F dX2_doorsOf_3 rfl (by decide) rfl ?_
  obtain ⟨x5, e6, hf⟩ := bnd_some hf
  refine tX2_doorsOf_4 (s0 := (0, 0)) ho_o hk_o F ?_ e6
  refine v_iload_n (pc := 36) (j := 0) F dX2_doorsOf_36 rfl rfl ?_
  exact v_iret (pc := 37) F hr dX2_doorsOf_37 (Option.some.inj hf) rfl (Nat.zero_le _)
def fX10_shorter_20 (h : ST) (q0 : Int32) : Option (Int32) :=
  some q0
def fX10_shorter_10 (h : ST) (l0 : Int32) (l1 : Int32) : Option (Int32) :=
  if l0 = (-1) then
  fX10_shorter_20 h l1
  else
  fX10_shorter_20 h l0
def fX10_shorter (h : ST) (a1 : Int32) (a2 : Int32) : Option (Int32) :=
  if a1 = (-1) then
  fX10_shorter_10 h a1 a2
  else
  if a2 = (-1) then
    fX10_shorter_10 h a1 a2
    else
    some (if a2 < a1 then a2 else a1)
set_option maxRecDepth 100000 in
set_option maxHeartbeats 4000000 in
theorem tX10_shorter_20 {p : Program} {l : Launch} {e : Env} {s : State} {m : MethodId} {args : Array Value} {below : List Frame} {meth : Method} {c : Code} {g : GE} {B : Nat} {h : ST}  {q0 : Int32} (F : Fx p s m args meth c cX10_shorter 2 "DustParish" 395 g B)
    {y : Int32} (hr : meth.sig.returnType = (some .int)) (hf : fX10_shorter_20 h q0 = some y) : V p l e 1 0 s m args below meth c (MQ below (QO KC 395 g (some (.int y)) h) args s 0 (6 * 0) (fun q => B ≤ q)) KC 395 g B 2 0 h 20 [] [.int q0] := by
  unfold fX10_shorter_20 at hf
  exact v_iret (pc := 20) F hr dX10_shorter_20 (Option.some.inj hf) rfl (Nat.zero_le _)
set_option maxRecDepth 100000 in
set_option maxHeartbeats 4000000 in
theorem tX10_shorter_10 {p : Program} {l : Launch} {e : Env} {s : State} {m : MethodId} {args : Array Value} {below : List Frame} {meth : Method} {c : Code} {g : GE} {B : Nat} {h : ST}  {l0 : Int32} {l1 : Int32} (F : Fx p s m args meth c cX10_shorter 2 "DustParish" 395 g B)
    {y : Int32} (hr : meth.sig.returnType = (some .int)) (hf : fX10_shorter_10 h l0 l1 = some y) : V p l e 1 0 s m args below meth c (MQ below (QO KC 395 g (some (.int y)) h) args s 0 (6 * 0) (fun q => B ≤ q)) KC 395 g B 2 0 h 10 [(0, .int l0), (1, .int l1)] [] := by
  unfold fX10_shorter_10 at hf
  refine v_iload_n (pc := 10) (j := 0) F dX10_shorter_10 rfl rfl ?_
  refine v_iconst (pc := 11) (v := (-1)) F dX10_shorter_11 ic_m1 ?_
  refine v_icmp_ne (pc := 12) (tgt := 19) F dX10_shorter_12 (by decide) (fun c2 => ?_) (fun c2 => ?_)
  · have hf := ite_f hf c2
    refine v_iload_n (pc := 19) (j := 0) F dX10_shorter_19 rfl rfl ?_
    refine V.sub (lv' := []) [] rfl ?_
    exact tX10_shorter_20 F hr hf
  · have hf := ite_t hf c2
    refine v_iload_n (pc := 15) (j := 1) F dX10_shorter_15 rfl rfl ?_
    refine v_goto (pc := 16) (tgt := 20) F dX10_shorter_16 (by decide) ?_
    refine V.sub (lv' := []) [] rfl ?_
    exact tX10_shorter_20 F hr hf
set_option maxRecDepth 100000 in
set_option maxHeartbeats 4000000 in
theorem kX10_shorter {l : Launch} {g : GE} {B : Nat} {h : ST} {a1 : Int32} {a2 : Int32} {y : Int32} (hf : fX10_shorter h a1 a2 = some y) : CT l yX10_shorter cX10_shorter 2 (some .int) 1 KC 395 g B [.int a1, .int a2] h (some (.int y)) h := by
  refine CT.of pn_X10 (Nat.le_of_ble_eq_true rfl) ?_
  intro p e s m below meth c hr F
  have F : Fx p s m _ meth c cX10_shorter 2 "DustParish" 395 g B := F
  refine V_lv (lv' := [(0, .int a1), (1, .int a2)]) rfl ?_
  unfold fX10_shorter at hf
  refine v_iload_n (pc := 0) (j := 0) F dX10_shorter_0 rfl rfl ?_
  refine v_iconst (pc := 1) (v := (-1)) F dX10_shorter_1 ic_m1 ?_
  refine v_icmp_eq (pc := 2) (tgt := 10) F dX10_shorter_2 (by decide) (fun c1 => ?_) (fun c1 => ?_)
  · have hf := ite_t hf c1
    exact tX10_shorter_10 F hr hf
  · have hf := ite_f hf c1
    refine v_iload_n (pc := 5) (j := 1) F dX10_shorter_5 rfl rfl ?_
    refine v_iconst (pc := 6) (v := (-1)) F dX10_shorter_6 ic_m1 ?_
    refine v_icmp_ne (pc := 7) (tgt := 21) F dX10_shorter_7 (by decide) (fun c3 => ?_) (fun c3 => ?_)
    · have hf := ite_f hf c3
      refine v_iload_n (pc := 21) (j := 0) F dX10_shorter_21 rfl rfl ?_
      refine v_iload_n (pc := 22) (j := 1) F dX10_shorter_22 rfl rfl ?_
      refine v_mmin (pc := 23) F tw_918 mminW dX10_shorter_23 (by decide) (Nat.le_of_ble_eq_true rfl) (Nat.zero_le _) ?_
      exact v_iret (pc := 26) F hr dX10_shorter_26 (Option.some.inj hf) rfl (Nat.zero_le _)
    · have hf := ite_t hf c3
      exact tX10_shorter_10 F hr hf
def fX10_walkTo_82 (h : ST) (l2 : Int32) (l3 : Int32) (l4 : Int32) (l5 : Int32) : Option ((Int32 × Int32) ⊕ Int32) :=
  some (.inl (l4, l5 + 1))
def fX10_walkTo_20 (h : ST) (l2 : Int32) (l3 : Int32) (s1 : (Int32 × Int32)) : Option ((Int32 × Int32) ⊕ Int32) :=
  bnd (rf KC 395 1 (h 0 3)) fun f2 =>
  if (h f2 0) ≤ s1.2 then
  some (.inr s1.1)
  else
  bnd (rd 4608 (h 394) ((l2 * 9) + s1.2)) fun v5 =>
    bnd (rf KC 395 1 (h 0 3)) fun f7 =>
    bnd (fX2_wayFrom h f7 s1.2 l3) fun r9 =>
    if v5 = (-1) then
    fX10_walkTo_82 h l2 l3 s1.1 s1.2
    else
    if r9 = (-1) then
      fX10_walkTo_82 h l2 l3 s1.1 s1.2
      else
      bnd (fX10_shorter h s1.1 (v5 + r9)) fun r13 =>
        fX10_walkTo_82 h l2 l3 r13 s1.2
def fX10_walkTo (h : ST) (a1 : Int32) (a2 : Int32) (a3 : Int32) : Option (Int32) :=
  if a2 = 0 then
  bnd (rf KC 395 1 (h 0 3)) fun f17 =>
    bnd (fX2_wayFrom h f17 a1 a3) fun r19 =>
    some r19
  else
  bnd (lp FU (fX10_walkTo_20 h a2 a3) ((-1), 0)) fun x15 =>
    some x15
set_option maxRecDepth 100000 in
set_option maxHeartbeats 4000000 in
theorem tX10_walkTo_82 {p : Program} {l : Launch} {e : Env} {s : State} {m : MethodId} {args : Array Value} {below : List Frame} {meth : Method} {c : Code} {g : GE} {B : Nat} {h : ST}  {l2 : Int32} {l3 : Int32} {l4 : Int32} {l5 : Int32} (F : Fx p s m args meth c cX10_walkTo 8 "DustParish" 395 g B)
    {Q : State → Prop} {y : (Int32 × Int32) ⊕ Int32} (hk : ∀ v : (Int32 × Int32), y = Sum.inl v → V p l e 2 0 s m args below meth c Q KC 395 g B 8 0 h 20 [(0, .ref (gA g 0)), (2, .int l2), (3, .int l3), (4, .int v.1), (5, .int v.2)] []) (hx0 : ∀ v : Int32, y = Sum.inr v → V p l e 2 0 s m args below meth c Q KC 395 g B 8 0 h 88 [(4, .int v)] []) (hf : fX10_walkTo_82 h l2 l3 l4 l5 = some y) : V p l e 2 0 s m args below meth c Q KC 395 g B 8 0 h 82 [(0, .ref (gA g 0)), (2, .int l2), (3, .int l3), (4, .int l4), (5, .int l5)] [] := by
  unfold fX10_walkTo_82 at hf
  refine v_iinc (pc := 82) (j := 4) (v := l5 + 1) (lv' := [(0, .ref (gA g 0)), (2, .int l2), (3, .int l3), (4, .int l4), (5, .int (l5 + 1))]) F dX10_walkTo_82 rfl (congrArg (fun z => l5 + z) ic_1) (by decide) rfl ?_
  refine v_goto (pc := 85) (tgt := 20) F dX10_walkTo_85 (by decide) ?_
  exact hk (l4, l5 + 1) (Option.some.inj hf).symm
set_option maxRecDepth 100000 in
set_option maxHeartbeats 4000000 in
theorem tX10_walkTo_20 {p : Program} {l : Launch} {e : Env} {s : State} {m : MethodId} {args : Array Value} {below : List Frame} {meth : Method} {c : Code} {g : GE} {B : Nat} {h : ST}  {l2 : Int32} {l3 : Int32} {Q : State → Prop} {x : Int32} {nf : Nat} {s0 : (Int32 × Int32)} (F : Fx p s m args meth c cX10_walkTo 8 "DustParish" 395 g B) (hX0 : V p l e 2 0 s m args below meth c Q KC 395 g B 8 0 h 88 [(4, .int x)] []) (hl : lp nf (fX10_walkTo_20 h l2 l3) s0 = some x) : V p l e 2 0 s m args below meth c Q KC 395 g B 8 0 h 20 [(0, .ref (gA g 0)), (2, .int l2), (3, .int l3), (4, .int s0.1), (5, .int s0.2)] [] := by
  refine lp_ind (P := fun s0 => V p l e 2 0 s m args below meth c Q KC 395 g B 8 0 h 20 [(0, .ref (gA g 0)), (2, .int l2), (3, .int l3), (4, .int s0.1), (5, .int s0.2)] []) ?_ nf s0 hl
  intro s1 y hf hk hx
  have hx0 : ∀ v : Int32, y = Sum.inr v → V p l e 2 0 s m args below meth c Q KC 395 g B 8 0 h 88 [(4, .int v)] [] := fun v e9 => by rw [hx v e9]; exact hX0
  unfold fX10_walkTo_20 at hf
  refine v_iload (pc := 20) (j := 4) F dX10_walkTo_20 rfl ?_
  refine v_aload_n (pc := 22) (j := 0) F dX10_walkTo_22 rfl rfl ?_
  obtain ⟨f2, e3, hf⟩ := bnd_some hf
  obtain ⟨ho_f2, hk_f2, e3⟩ := rf_in e3
  refine v_ifl (pc := 23) F fl_X10_23 dX10_walkTo_23 kc_0.1 kc_0.2 (fv_9_3 e3) ?_
  refine v_ifl (pc := 26) F fl_X10_104 dX10_walkTo_26 ho_f2 hk_f2 fv_1_0 ?_
  refine v_icmp_ge (pc := 29) (tgt := 88) F dX10_walkTo_29 (by decide) (fun c4 => ?_) (fun c4 => ?_)
  · have hf := ite_t hf c4
    refine V.sub (lv' := [(4, .int s1.1)]) [3] rfl ?_
    exact hx0 s1.1 (Option.some.inj hf).symm
  · have hf := ite_f hf c4
    refine v_aload_n (pc := 32) (j := 0) F dX10_walkTo_32 rfl rfl ?_
    refine v_ifl (pc := 33) F fl_X10_73 dX10_walkTo_33 kc_0.1 kc_0.2 fv_9_14 ?_
    refine v_iload_n (pc := 36) (j := 1) F dX10_walkTo_36 rfl rfl ?_
    refine v_bipush (pc := 37) (v := 9) F dX10_walkTo_37 bp_9 ?_
    refine v_imul (pc := 39) F dX10_walkTo_39 ?_
    refine v_iload (pc := 40) (j := 4) F dX10_walkTo_40 rfl ?_
    refine v_iadd (pc := 42) F dX10_walkTo_42 ?_
    obtain ⟨v5, e6, hf⟩ := bnd_some hf
    refine v_iald (pc := 43) F dX10_walkTo_43 kc_394.1 kc_394.2 e6 ?_
    refine v_istore (pc := 44) (lv' := [(0, .ref (gA g 0)), (2, .int l2), (3, .int l3), (4, .int s1.1), (5, .int s1.2), (6, .int v5)]) F dX10_walkTo_44 (by decide) rfl ?_
    refine v_aload_n (pc := 46) (j := 0) F dX10_walkTo_46 rfl rfl ?_
    obtain ⟨f7, e8, hf⟩ := bnd_some hf
    obtain ⟨ho_f7, hk_f7, e8⟩ := rf_in e8
    refine v_ifl (pc := 47) F fl_X10_23 dX10_walkTo_47 kc_0.1 kc_0.2 (fv_9_3 e8) ?_
    refine v_iload (pc := 50) (j := 4) F dX10_walkTo_50 rfl ?_
    refine v_iload_n (pc := 52) (j := 2) F dX10_walkTo_52 rfl rfl ?_
    obtain ⟨r9, e10, hf⟩ := bnd_some hf
    refine v_callVi (pc := 53) (As := [.int s1.2, .int l3]) F cl_X10_188 dX10_walkTo_53 (kX2_wayFrom ho_f7 hk_f7 e10) ho_f7 hk_f7 rc_1 rfl rfl (Nat.le_of_ble_eq_true rfl) (by decide) (Nat.zero_le _) ?_
    refine v_istore (pc := 56) (lv' := [(0, .ref (gA g 0)), (2, .int l2), (3, .int l3), (4, .int s1.1), (5, .int s1.2), (6, .int v5), (7, .int r9)]) F dX10_walkTo_56 (by decide) rfl ?_
    refine v_iload (pc := 58) (j := 5) F dX10_walkTo_58 rfl ?_
    refine v_iconst (pc := 60) (v := (-1)) F dX10_walkTo_60 ic_m1 ?_
    refine v_icmp_eq (pc := 61) (tgt := 82) F dX10_walkTo_61 (by decide) (fun c11 => ?_) (fun c11 => ?_)
    · have hf := ite_t hf c11
      refine V.sub (lv' := [(0, .ref (gA g 0)), (2, .int l2), (3, .int l3), (4, .int s1.1), (5, .int s1.2)]) [0, 1, 2, 3, 4] rfl ?_
      exact tX10_walkTo_82 F hk hx0 hf
    · have hf := ite_f hf c11
      refine v_iload (pc := 64) (j := 6) F dX10_walkTo_64 rfl ?_
      refine v_iconst (pc := 66) (v := (-1)) F dX10_walkTo_66 ic_m1 ?_
      refine v_icmp_eq (pc := 67) (tgt := 82) F dX10_walkTo_67 (by decide) (fun c12 => ?_) (fun c12 => ?_)
      · have hf := ite_t hf c12
        refine V.sub (lv' := [(0, .ref (gA g 0)), (2, .int l2), (3, .int l3), (4, .int s1.1), (5, .int s1.2)]) [0, 1, 2, 3, 4] rfl ?_
        exact tX10_walkTo_82 F hk hx0 hf
      · have hf := ite_f hf c12
        refine v_iload (pc := 70) (j := 3) F dX10_walkTo_70 rfl ?_
        refine v_iload (pc := 72) (j := 5) F dX10_walkTo_72 rfl ?_
        refine v_iload (pc := 74) (j := 6) F dX10_walkTo_74 rfl ?_
        refine v_iadd (pc := 76) F dX10_walkTo_76 ?_
        obtain ⟨r13, e14, hf⟩ := bnd_some hf
        refine v_callSi (pc := 77) (As := [.int s1.1, .int (v5 + r9)]) F cl_X10_279 dX10_walkTo_77 (kX10_shorter e14) rfl rfl (Nat.le_of_ble_eq_true rfl) (by decide) (Nat.zero_le _) ?_
        refine v_istore (pc := 80) (lv' := [(0, .ref (gA g 0)), (2, .int l2), (3, .int l3), (4, .int r13), (5, .int s1.2), (6, .int v5), (7, .int r9)]) F dX10_walkTo_80 (by decide) rfl ?_
        refine V.sub (lv' := [(0, .ref (gA g 0)), (2, .int l2), (3, .int l3), (4, .int r13), (5, .int s1.2)]) [0, 1, 2, 3, 4] rfl ?_
        exact tX10_walkTo_82 F hk hx0 hf
set_option maxRecDepth 100000 in
set_option maxHeartbeats 4000000 in
theorem kX10_walkTo {l : Launch} {g : GE} {B : Nat} {h : ST} {a1 : Int32} {a2 : Int32} {a3 : Int32} {y : Int32} (hf : fX10_walkTo h a1 a2 a3 = some y) : CT l yX10_walkTo cX10_walkTo 8 (some .int) 2 KC 395 g B [.ref (gA g 0), .int a1, .int a2, .int a3] h (some (.int y)) h := by
  refine CT.of pn_X10 (Nat.le_of_ble_eq_true rfl) ?_
  intro p e s m below meth c hr F
  have F : Fx p s m _ meth c cX10_walkTo 8 "DustParish" 395 g B := F
  refine V_lv (lv' := [(0, .ref (gA g 0)), (1, .int a1), (2, .int a2), (3, .int a3)]) rfl ?_
  unfold fX10_walkTo at hf
  refine v_iload_n (pc := 0) (j := 2) F dX10_walkTo_0 rfl rfl ?_
  refine v_if_ne (pc := 1) (tgt := 14) F dX10_walkTo_1 (by decide) (fun c1 => ?_) (fun c1 => ?_)
  · have hf := ite_f hf c1
    refine v_iconst (pc := 14) (v := (-1)) F dX10_walkTo_14 ic_m1 ?_
    refine v_istore (pc := 15) (lv' := [(0, .ref (gA g 0)), (1, .int a1), (2, .int a2), (3, .int a3), (4, .int (-1))]) F dX10_walkTo_15 (by decide) rfl ?_
    refine v_iconst (pc := 17) (v := 0) F dX10_walkTo_17 ic_0 ?_
    refine v_istore (pc := 18) (lv' := [(0, .ref (gA g 0)), (1, .int a1), (2, .int a2), (3, .int a3), (4, .int (-1)), (5, .int 0)]) F dX10_walkTo_18 (by decide) rfl ?_
    obtain ⟨x15, e16, hf⟩ := bnd_some hf
    refine V.sub (lv' := [(0, .ref (gA g 0)), (2, .int a2), (3, .int a3), (4, .int (-1)), (5, .int 0)]) [0, 2, 3, 4, 5] rfl ?_
    refine tX10_walkTo_20 (s0 := ((-1), 0)) F ?_ e16
    refine v_iload (pc := 88) (j := 0) F dX10_walkTo_88 rfl ?_
    exact v_iret (pc := 90) F hr dX10_walkTo_90 (Option.some.inj hf) rfl (Nat.zero_le _)
  · have hf := ite_t hf c1
    refine v_aload_n (pc := 4) (j := 0) F dX10_walkTo_4 rfl rfl ?_
    obtain ⟨f17, e18, hf⟩ := bnd_some hf
    obtain ⟨ho_f17, hk_f17, e18⟩ := rf_in e18
    refine v_ifl (pc := 5) F fl_X10_23 dX10_walkTo_5 kc_0.1 kc_0.2 (fv_9_3 e18) ?_
    refine v_iload_n (pc := 8) (j := 1) F dX10_walkTo_8 rfl rfl ?_
    refine v_iload_n (pc := 9) (j := 3) F dX10_walkTo_9 rfl rfl ?_
    obtain ⟨r19, e20, hf⟩ := bnd_some hf
    refine v_callVi (pc := 10) (As := [.int a1, .int a3]) F cl_X10_188 dX10_walkTo_10 (kX2_wayFrom ho_f17 hk_f17 e20) ho_f17 hk_f17 rc_1 rfl rfl (Nat.le_of_ble_eq_true rfl) (by decide) (Nat.zero_le _) ?_
    exact v_iret (pc := 13) F hr dX10_walkTo_13 (Option.some.inj hf) rfl (Nat.zero_le _)
def fX10_walkAll_77 (h : ST) (l1 : Int32) (l2 : Int32) (l3 : Int32) (l4 : Int32) : Option ((ST × Int32) ⊕ ST) :=
  some (.inl (h, l4 + 1))
def fX10_walkAll_29 (l1 : Int32) (l2 : Int32) (l3 : Int32) (s1 : (ST × Int32)) : Option ((ST × Int32) ⊕ ST) :=
  bnd (rf KC 395 1 (s1.1 0 3)) fun f5 =>
  if (s1.1 f5 0) ≤ s1.2 then
  some (.inr s1.1)
  else
  if (l3 &&& ((1 : Int32) <<< (s1.2 &&& 31))) = 0 then
    fX10_walkAll_77 s1.1 l1 l2 l3 s1.2
    else
    bnd (fX10_walkTo s1.1 l1 (l3 &&& (((1 : Int32) <<< (s1.2 &&& 31)) ^^^ (-1))) s1.2) fun r9 =>
      bnd (wr 4608 s1.1 394 ((l3 * 9) + s1.2) r9) fun h11 =>
      fX10_walkAll_77 h11 l1 l2 l3 s1.2
def fX10_walkAll_83 (h : ST) (l1 : Int32) (l2 : Int32) (l3 : Int32) : Option ((ST × Int32) ⊕ ST) :=
  some (.inl (h, l3 + 1))
def fX10_walkAll_10 (l1 : Int32) (l2 : Int32) (s1 : (ST × Int32)) : Option ((ST × Int32) ⊕ ST) :=
  if l2 < s1.2 then
  some (.inr s1.1)
  else
  if (s1.2 &&& (l2 ^^^ (-1))) = 0 then
    bnd (lp FU (fX10_walkAll_29 l1 l2 s1.2) (s1.1, 0)) fun x13 =>
      fX10_walkAll_83 x13 l1 l2 s1.2
    else
    fX10_walkAll_83 s1.1 l1 l2 s1.2
def fX10_walkAll (h : ST) (a1 : Int32) (a2 : Int32) : Option (ST) :=
  bnd (fJ7_fill_53178 h 394 4608 (-1)) fun r1 =>
  bnd (lp FU (fX10_walkAll_10 a1 a2) (r1, 1)) fun x15 =>
  some x15
set_option maxRecDepth 100000 in
set_option maxHeartbeats 4000000 in
theorem tX10_walkAll_77 {p : Program} {l : Launch} {e : Env} {s : State} {m : MethodId} {args : Array Value} {below : List Frame} {meth : Method} {c : Code} {g : GE} {B : Nat} {h : ST}  {l1 : Int32} {l2 : Int32} {l3 : Int32} {l4 : Int32} (F : Fx p s m args meth c cX10_walkAll 5 "DustParish" 395 g B)
    {Q : State → Prop} {y : (ST × Int32) ⊕ ST} (hk : ∀ v : (ST × Int32), y = Sum.inl v → V p l e 3 0 s m args below meth c Q KC 395 g B 5 0 v.1 29 [(0, .ref (gA g 0)), (1, .int l1), (2, .int l2), (3, .int l3), (4, .int v.2)] []) (hx0 : ∀ v : ST, y = Sum.inr v → V p l e 3 0 s m args below meth c Q KC 395 g B 5 0 v 83 [(0, .ref (gA g 0)), (1, .int l1), (2, .int l2), (3, .int l3)] []) (hf : fX10_walkAll_77 h l1 l2 l3 l4 = some y) : V p l e 3 0 s m args below meth c Q KC 395 g B 5 0 h 77 [(0, .ref (gA g 0)), (1, .int l1), (2, .int l2), (3, .int l3), (4, .int l4)] [] := by
  unfold fX10_walkAll_77 at hf
  refine v_iinc (pc := 77) (j := 4) (v := l4 + 1) (lv' := [(0, .ref (gA g 0)), (1, .int l1), (2, .int l2), (3, .int l3), (4, .int (l4 + 1))]) F dX10_walkAll_77 rfl (congrArg (fun z => l4 + z) ic_1) (by decide) rfl ?_
  refine v_goto (pc := 80) (tgt := 29) F dX10_walkAll_80 (by decide) ?_
  exact hk (h, l4 + 1) (Option.some.inj hf).symm
set_option maxRecDepth 100000 in
set_option maxHeartbeats 4000000 in
theorem tX10_walkAll_29 {p : Program} {l : Launch} {e : Env} {s : State} {m : MethodId} {args : Array Value} {below : List Frame} {meth : Method} {c : Code} {g : GE} {B : Nat}  {l1 : Int32} {l2 : Int32} {l3 : Int32} {Q : State → Prop} {x : ST} {nf : Nat} {s0 : (ST × Int32)} (F : Fx p s m args meth c cX10_walkAll 5 "DustParish" 395 g B) (hX0 : V p l e 3 0 s m args below meth c Q KC 395 g B 5 0 x 83 [(0, .ref (gA g 0)), (1, .int l1), (2, .int l2), (3, .int l3)] []) (hl : lp nf (fX10_walkAll_29 l1 l2 l3) s0 = some x) : V p l e 3 0 s m args below meth c Q KC 395 g B 5 0 s0.1 29 [(0, .ref (gA g 0)), (1, .int l1), (2, .int l2), (3, .int l3), (4, .int s0.2)] [] := by
  refine lp_ind (P := fun s0 => V p l e 3 0 s m args below meth c Q KC 395 g B 5 0 s0.1 29 [(0, .ref (gA g 0)), (1, .int l1), (2, .int l2), (3, .int l3), (4, .int s0.2)] []) ?_ nf s0 hl
  intro s1 y hf hk hx
  have hx0 : ∀ v : ST, y = Sum.inr v → V p l e 3 0 s m args below meth c Q KC 395 g B 5 0 v 83 [(0, .ref (gA g 0)), (1, .int l1), (2, .int l2), (3, .int l3)] [] := fun v e9 => by rw [hx v e9]; exact hX0
  unfold fX10_walkAll_29 at hf
  refine v_iload (pc := 29) (j := 4) F dX10_walkAll_29 rfl ?_
  refine v_aload_n (pc := 31) (j := 0) F dX10_walkAll_31 rfl rfl ?_
  obtain ⟨f5, e6, hf⟩ := bnd_some hf
  obtain ⟨ho_f5, hk_f5, e6⟩ := rf_in e6
  refine v_ifl (pc := 32) F fl_X10_23 dX10_walkAll_32 kc_0.1 kc_0.2 (fv_9_3 e6) ?_
  refine v_ifl (pc := 35) F fl_X10_104 dX10_walkAll_35 ho_f5 hk_f5 fv_1_0 ?_
  refine v_icmp_ge (pc := 38) (tgt := 83) F dX10_walkAll_38 (by decide) (fun c7 => ?_) (fun c7 => ?_)
  · have hf := ite_t hf c7
    refine V.sub (lv' := [(0, .ref (gA g 0)), (1, .int l1), (2, .int l2), (3, .int l3)]) [0, 1, 2, 3] rfl ?_
    exact hx0 s1.1 (Option.some.inj hf).symm
  · have hf := ite_f hf c7
    refine v_iload_n (pc := 41) (j := 3) F dX10_walkAll_41 rfl rfl ?_
    refine v_iconst (pc := 42) (v := 1) F dX10_walkAll_42 ic_1 ?_
    refine v_iload (pc := 43) (j := 4) F dX10_walkAll_43 rfl ?_
    refine v_ishl (pc := 45) F dX10_walkAll_45 ?_
    refine v_iand (pc := 46) F dX10_walkAll_46 ?_
    refine v_if_eq (pc := 47) (tgt := 77) F dX10_walkAll_47 (by decide) (fun c8 => ?_) (fun c8 => ?_)
    · have hf := ite_t hf c8
      exact tX10_walkAll_77 F hk hx0 hf
    · have hf := ite_f hf c8
      refine v_aload_n (pc := 50) (j := 0) F dX10_walkAll_50 rfl rfl ?_
      refine v_ifl (pc := 51) F fl_X10_73 dX10_walkAll_51 kc_0.1 kc_0.2 fv_9_14 ?_
      refine v_iload_n (pc := 54) (j := 3) F dX10_walkAll_54 rfl rfl ?_
      refine v_bipush (pc := 55) (v := 9) F dX10_walkAll_55 bp_9 ?_
      refine v_imul (pc := 57) F dX10_walkAll_57 ?_
      refine v_iload (pc := 58) (j := 4) F dX10_walkAll_58 rfl ?_
      refine v_iadd (pc := 60) F dX10_walkAll_60 ?_
      refine v_aload_n (pc := 61) (j := 0) F dX10_walkAll_61 rfl rfl ?_
      refine v_iload_n (pc := 62) (j := 1) F dX10_walkAll_62 rfl rfl ?_
      refine v_iload_n (pc := 63) (j := 3) F dX10_walkAll_63 rfl rfl ?_
      refine v_iconst (pc := 64) (v := 1) F dX10_walkAll_64 ic_1 ?_
      refine v_iload (pc := 65) (j := 4) F dX10_walkAll_65 rfl ?_
      refine v_ishl (pc := 67) F dX10_walkAll_67 ?_
      refine v_iconst (pc := 68) (v := (-1)) F dX10_walkAll_68 ic_m1 ?_
      refine v_ixor (pc := 69) F dX10_walkAll_69 ?_
      refine v_iand (pc := 70) F dX10_walkAll_70 ?_
      refine v_iload (pc := 71) (j := 4) F dX10_walkAll_71 rfl ?_
      obtain ⟨r9, e10, hf⟩ := bnd_some hf
      refine v_callVi (pc := 73) (As := [.int l1, .int (l3 &&& (((1 : Int32) <<< (s1.2 &&& 31)) ^^^ (-1))), .int s1.2]) F cl_X10_288 dX10_walkAll_73 (kX10_walkTo e10) kc_0.1 kc_0.2 rc_9 rfl rfl (Nat.le_of_ble_eq_true rfl) (by decide) (Nat.zero_le _) ?_
      obtain ⟨h11, e12, hf⟩ := bnd_some hf
      refine v_iast (pc := 76) F dX10_walkAll_76 kc_394.1 kc_394.2 e12 ?_
      exact tX10_walkAll_77 F hk hx0 hf
set_option maxRecDepth 100000 in
set_option maxHeartbeats 4000000 in
theorem tX10_walkAll_83 {p : Program} {l : Launch} {e : Env} {s : State} {m : MethodId} {args : Array Value} {below : List Frame} {meth : Method} {c : Code} {g : GE} {B : Nat} {h : ST}  {l1 : Int32} {l2 : Int32} {l3 : Int32} (F : Fx p s m args meth c cX10_walkAll 5 "DustParish" 395 g B)
    {Q : State → Prop} {y : (ST × Int32) ⊕ ST} (hk : ∀ v : (ST × Int32), y = Sum.inl v → V p l e 3 0 s m args below meth c Q KC 395 g B 5 0 v.1 10 [(0, .ref (gA g 0)), (1, .int l1), (2, .int l2), (3, .int v.2)] []) (hx0 : ∀ v : ST, y = Sum.inr v → V p l e 3 0 s m args below meth c Q KC 395 g B 5 0 v 89 [] []) (hf : fX10_walkAll_83 h l1 l2 l3 = some y) : V p l e 3 0 s m args below meth c Q KC 395 g B 5 0 h 83 [(0, .ref (gA g 0)), (1, .int l1), (2, .int l2), (3, .int l3)] [] := by
  unfold fX10_walkAll_83 at hf
  refine v_iinc (pc := 83) (j := 3) (v := l3 + 1) (lv' := [(0, .ref (gA g 0)), (1, .int l1), (2, .int l2), (3, .int (l3 + 1))]) F dX10_walkAll_83 rfl (congrArg (fun z => l3 + z) ic_1) (by decide) rfl ?_
  refine v_goto (pc := 86) (tgt := 10) F dX10_walkAll_86 (by decide) ?_
  exact hk (h, l3 + 1) (Option.some.inj hf).symm
set_option maxRecDepth 100000 in
set_option maxHeartbeats 4000000 in
theorem tX10_walkAll_10 {p : Program} {l : Launch} {e : Env} {s : State} {m : MethodId} {args : Array Value} {below : List Frame} {meth : Method} {c : Code} {g : GE} {B : Nat}  {l1 : Int32} {l2 : Int32} {Q : State → Prop} {x : ST} {nf : Nat} {s0 : (ST × Int32)} (F : Fx p s m args meth c cX10_walkAll 5 "DustParish" 395 g B) (hX0 : V p l e 3 0 s m args below meth c Q KC 395 g B 5 0 x 89 [] []) (hl : lp nf (fX10_walkAll_10 l1 l2) s0 = some x) : V p l e 3 0 s m args below meth c Q KC 395 g B 5 0 s0.1 10 [(0, .ref (gA g 0)), (1, .int l1), (2, .int l2), (3, .int s0.2)] [] := by
  refine lp_ind (P := fun s0 => V p l e 3 0 s m args below meth c Q KC 395 g B 5 0 s0.1 10 [(0, .ref (gA g 0)), (1, .int l1), (2, .int l2), (3, .int s0.2)] []) ?_ nf s0 hl
  intro s1 y hf hk hx
  have hx0 : ∀ v : ST, y = Sum.inr v → V p l e 3 0 s m args below meth c Q KC 395 g B 5 0 v 89 [] [] := fun v e9 => by rw [hx v e9]; exact hX0
  unfold fX10_walkAll_10 at hf
  refine v_iload_n (pc := 10) (j := 3) F dX10_walkAll_10 rfl rfl ?_
  refine v_iload_n (pc := 11) (j := 2) F dX10_walkAll_11 rfl rfl ?_
  refine v_icmp_gt (pc := 12) (tgt := 89) F dX10_walkAll_12 (by decide) (fun c3 => ?_) (fun c3 => ?_)
  · have hf := ite_t hf c3
    refine V.sub (lv' := []) [] rfl ?_
    exact hx0 s1.1 (Option.some.inj hf).symm
  · have hf := ite_f hf c3
    refine v_iload_n (pc := 15) (j := 3) F dX10_walkAll_15 rfl rfl ?_
    refine v_iload_n (pc := 16) (j := 2) F dX10_walkAll_16 rfl rfl ?_
    refine v_iconst (pc := 17) (v := (-1)) F dX10_walkAll_17 ic_m1 ?_
    refine v_ixor (pc := 18) F dX10_walkAll_18 ?_
    refine v_iand (pc := 19) F dX10_walkAll_19 ?_
    refine v_if_eq (pc := 20) (tgt := 26) F dX10_walkAll_20 (by decide) (fun c4 => ?_) (fun c4 => ?_)
    · have hf := ite_t hf c4
      refine v_iconst (pc := 26) (v := 0) F dX10_walkAll_26 ic_0 ?_
      refine v_istore (pc := 27) (lv' := [(0, .ref (gA g 0)), (1, .int l1), (2, .int l2), (3, .int s1.2), (4, .int 0)]) F dX10_walkAll_27 (by decide) rfl ?_
      obtain ⟨x13, e14, hf⟩ := bnd_some hf
      refine tX10_walkAll_29 (s0 := (s1.1, 0)) F ?_ e14
      exact tX10_walkAll_83 F hk hx0 hf
    · have hf := ite_f hf c4
      refine v_goto (pc := 23) (tgt := 83) F dX10_walkAll_23 (by decide) ?_
      exact tX10_walkAll_83 F hk hx0 hf
set_option maxRecDepth 100000 in
set_option maxHeartbeats 4000000 in
theorem kX10_walkAll {l : Launch} {g : GE} {B : Nat} {h : ST} {a1 : Int32} {a2 : Int32} {y : ST} (hf : fX10_walkAll h a1 a2 = some y) : CT l yX10_walkAll cX10_walkAll 5 none 3 KC 395 g B [.ref (gA g 0), .int a1, .int a2] h none y := by
  refine CT.of pn_X10 (Nat.le_of_ble_eq_true rfl) ?_
  intro p e s m below meth c hr F
  have F : Fx p s m _ meth c cX10_walkAll 5 "DustParish" 395 g B := F
  refine V_lv (lv' := [(0, .ref (gA g 0)), (1, .int a1), (2, .int a2)]) rfl ?_
  unfold fX10_walkAll at hf
  refine v_aload_n (pc := 0) (j := 0) F dX10_walkAll_0 rfl rfl ?_
  refine v_ifl (pc := 1) F fl_X10_73 dX10_walkAll_1 kc_0.1 kc_0.2 fv_9_14 ?_
  refine v_iconst (pc := 4) (v := (-1)) F dX10_walkAll_4 ic_m1 ?_
  obtain ⟨r1, e2, hf⟩ := bnd_some hf
  refine v_callSv (pc := 5) (As := [.ref (gA g 394), .int (-1)]) F cl_X10_282 dX10_walkAll_5 (kJ7_fill_53178 kc_394.1 kc_394.2 e2) rfl rfl (Nat.le_of_ble_eq_true rfl) (by decide) (Nat.zero_le _) ?_
  refine v_iconst (pc := 8) (v := 1) F dX10_walkAll_8 ic_1 ?_
  refine v_istore_n (pc := 9) (lv' := [(0, .ref (gA g 0)), (1, .int a1), (2, .int a2), (3, .int 1)]) F dX10_walkAll_9 rfl (by decide) rfl ?_
  obtain ⟨x15, e16, hf⟩ := bnd_some hf
  refine tX10_walkAll_10 (s0 := (r1, 1)) F ?_ e16
  exact v_vret (pc := 89) F hr dX10_walkAll_89 (Option.some.inj hf) (Nat.zero_le _)
def fX7_add_49 (h : ST)  : Option (ST) :=
  some h
def fX7_add (h : ST) (o : Nat) (a1 : Int32) (a2 : Int32) (a3 : Int32) : Option (ST) :=
  if 8 ≤ (h o 0) then
  fX7_add_49 h 
  else
  bnd (wr 8 h (o + 1) (h o 0) a1) fun h2 =>
    bnd (wr 8 h2 (o + 2) (h2 o 0) a2) fun h4 =>
    bnd (wr 8 h4 (o + 3) (h4 o 0) a3) fun h6 =>
    bnd (pw h6 o 0 ((h6 o 0) + 1)) fun h8 =>
    fX7_add_49 h8 
set_option maxRecDepth 100000 in
set_option maxHeartbeats 4000000 in
theorem tX7_add_49 {p : Program} {l : Launch} {e : Env} {s : State} {m : MethodId} {args : Array Value} {below : List Frame} {meth : Method} {c : Code} {g : GE} {B : Nat} {h : ST}  (F : Fx p s m args meth c cX7_add 4 "DustParish$Sights" 395 g B)
    {y : ST} (hr : meth.sig.returnType = none) (hf : fX7_add_49 h  = some y) : V p l e 1 0 s m args below meth c (MQ below (QO KC 395 g none y) args s 0 (6 * 0) (fun q => B ≤ q)) KC 395 g B 4 0 h 49 [] [] := by
  unfold fX7_add_49 at hf
  exact v_vret (pc := 49) F hr dX7_add_49 (Option.some.inj hf) (Nat.zero_le _)
set_option maxRecDepth 100000 in
set_option maxHeartbeats 4000000 in
theorem kX7_add {l : Launch} {g : GE} {B : Nat} {h : ST} {o : Nat} (ho_o : o < 395) (hk_o : KC o = (6, 0)) {a1 : Int32} {a2 : Int32} {a3 : Int32} {y : ST} (hf : fX7_add h o a1 a2 a3 = some y) : CT l yX7_add cX7_add 4 none 1 KC 395 g B [.ref (gA g o), .int a1, .int a2, .int a3] h none y := by
  refine CT.of pn_X7 (Nat.le_of_ble_eq_true rfl) ?_
  intro p e s m below meth c hr F
  have F : Fx p s m _ meth c cX7_add 4 "DustParish$Sights" 395 g B := F
  refine V_lv (lv' := [(0, .ref (gA g o)), (1, .int a1), (2, .int a2), (3, .int a3)]) rfl ?_
  unfold fX7_add at hf
  refine v_aload_n (pc := 0) (j := 0) F dX7_add_0 rfl rfl ?_
  refine v_ifl (pc := 1) F fl_X7_9 dX7_add_1 ho_o hk_o fv_6_0 ?_
  refine v_bipush (pc := 4) (v := 8) F dX7_add_4 bp_8 ?_
  refine v_icmp_ge (pc := 6) (tgt := 49) F dX7_add_6 (by decide) (fun c1 => ?_) (fun c1 => ?_)
  · have hf := ite_t hf c1
    refine V.sub (lv' := []) [] rfl ?_
    exact tX7_add_49 F hr hf
  · have hf := ite_f hf c1
    refine v_aload_n (pc := 9) (j := 0) F dX7_add_9 rfl rfl ?_
    refine v_ifl (pc := 10) F fl_X7_15 dX7_add_10 ho_o hk_o fv_6_1 ?_
    refine v_aload_n (pc := 13) (j := 0) F dX7_add_13 rfl rfl ?_
    refine v_ifl (pc := 14) F fl_X7_9 dX7_add_14 ho_o hk_o fv_6_0 ?_
    refine v_iload_n (pc := 17) (j := 1) F dX7_add_17 rfl rfl ?_
    obtain ⟨h2, e3, hf⟩ := bnd_some hf
    refine v_iast (pc := 18) F dX7_add_18 (ly_6_1 ho_o hk_o).1 (ly_6_1 ho_o hk_o).2 e3 ?_
    refine v_aload_n (pc := 19) (j := 0) F dX7_add_19 rfl rfl ?_
    refine v_ifl (pc := 20) F fl_X7_19 dX7_add_20 ho_o hk_o fv_6_2 ?_
    refine v_aload_n (pc := 23) (j := 0) F dX7_add_23 rfl rfl ?_
    refine v_ifl (pc := 24) F fl_X7_9 dX7_add_24 ho_o hk_o fv_6_0 ?_
    refine v_iload_n (pc := 27) (j := 2) F dX7_add_27 rfl rfl ?_
    obtain ⟨h4, e5, hf⟩ := bnd_some hf
    refine v_iast (pc := 28) F dX7_add_28 (ly_6_2 ho_o hk_o).1 (ly_6_2 ho_o hk_o).2 e5 ?_
    refine v_aload_n (pc := 29) (j := 0) F dX7_add_29 rfl rfl ?_
    refine v_ifl (pc := 30) F fl_X7_22 dX7_add_30 ho_o hk_o fv_6_3 ?_
    refine v_aload_n (pc := 33) (j := 0) F dX7_add_33 rfl rfl ?_
    refine v_ifl (pc := 34) F fl_X7_9 dX7_add_34 ho_o hk_o fv_6_0 ?_
    refine v_iload_n (pc := 37) (j := 3) F dX7_add_37 rfl rfl ?_
    obtain ⟨h6, e7, hf⟩ := bnd_some hf
    refine v_iast (pc := 38) F dX7_add_38 (ly_6_3 ho_o hk_o).1 (ly_6_3 ho_o hk_o).2 e7 ?_
    refine v_aload_n (pc := 39) (j := 0) F dX7_add_39 rfl rfl ?_
    refine v_dup (pc := 40) F dX7_add_40 rfl ?_
    refine v_ifl (pc := 41) F fl_X7_9 dX7_add_41 ho_o hk_o fv_6_0 ?_
    refine v_iconst (pc := 44) (v := 1) F dX7_add_44 ic_1 ?_
    refine v_iadd (pc := 45) F dX7_add_45 ?_
    obtain ⟨h8, e9, hf⟩ := bnd_some hf
    refine v_pfl (pc := 46) F fl_X7_9 pl_6_0 dX7_add_46 ho_o hk_o fv_6_0 rfl rfl e9 ?_
    refine V.sub (lv' := []) [] rfl ?_
    exact tX7_add_49 F hr hf
