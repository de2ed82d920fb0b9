def fX10_far (h : ST) (a1 : Int32) (a2 : Int32) : Option ((Int32 ⊕ Nat)) :=
  bnd (fX10_needRoom h a1) fun r1 =>
  sm r1 (fun _ => bnd (fX10_needRoom h a2) fun r3 =>
  sm r3 (fun _ => bnd (rf KC 395 1 (h 0 3)) fun f5 =>
  bnd (fX2_wayFrom h f5 a1 a2) fun r7 =>
  some (.inl r7)) (fun r3 => some (.inr r3))) (fun r1 => some (.inr r1))
set_option maxRecDepth 100000 in
set_option maxHeartbeats 4000000 in
theorem kX10_far {l : Launch} {g : GE} {B : Nat} {h : ST} {a1 : Int32} {a2 : Int32} {y : (Int32 ⊕ Nat)} (hT : l.stackTraces = false) (hf : fX10_far h a1 a2 = some y) : XT l yX10_far cX10_far 3 (some .int) 9 2 KC 395 g B [.ref (gA g 0), .int a1, .int a2] h (ocI y) h := by
  refine XT.of pn_X10 (Nat.le_of_ble_eq_true rfl) ?_
  intro p e s m below meth c hr hex F
  have F : Fx p s m _ meth c cX10_far 3 "DustParish" 395 g B := F
  refine V_lv (lv' := [(0, .ref (gA g 0)), (1, .int a1), (2, .int a2)]) rfl ?_
  unfold fX10_far at hf
  refine v_aload_n (pc := 0) (j := 0) F dX10_far_0 rfl rfl ?_
  refine v_iload_n (pc := 1) (j := 1) F dX10_far_1 rfl rfl ?_
  obtain ⟨r1, e2, hf⟩ := bnd_some hf
  rcases r1 with v9 | r1
  · have hf := sm_l hf
    refine v_xcallV (pc := 2) (As := [.int a1]) F cl_X10_162 dX10_far_2 (kX10_needRoom hT e2) kc_0.1 kc_0.2 rc_9 rfl rfl (Nat.le_of_ble_eq_true rfl) (by decide) (by decide) ?_
    refine v_aload_n (pc := 5) (j := 0) F dX10_far_5 rfl rfl ?_
    refine v_iload_n (pc := 6) (j := 2) F dX10_far_6 rfl rfl ?_
    obtain ⟨r3, e4, hf⟩ := bnd_some hf
    rcases r3 with v9 | r3
    · have hf := sm_l hf
      refine v_xcallV (pc := 7) (As := [.int a2]) F cl_X10_162 dX10_far_7 (kX10_needRoom hT e4) kc_0.1 kc_0.2 rc_9 rfl rfl (Nat.le_of_ble_eq_true rfl) (by decide) (by decide) ?_
      refine v_aload_n (pc := 10) (j := 0) F dX10_far_10 rfl rfl ?_
      obtain ⟨f5, e6, hf⟩ := bnd_some hf
      obtain ⟨ho_f5, hk_f5, e6⟩ := rf_in e6
      refine v_ifl (pc := 11) F fl_X10_23 dX10_far_11 kc_0.1 kc_0.2 (fv_9_3 e6) ?_
      refine v_iload_n (pc := 14) (j := 1) F dX10_far_14 rfl rfl ?_
      refine v_iload_n (pc := 15) (j := 2) F dX10_far_15 rfl rfl ?_
      obtain ⟨r7, e8, hf⟩ := bnd_some hf
      refine v_callVi (pc := 16) (As := [.int a1, .int a2]) F cl_X10_188 dX10_far_16 (kX2_wayFrom ho_f5 hk_f5 e8) ho_f5 hk_f5 rc_1 rfl rfl (Nat.le_of_ble_eq_true rfl) (by decide) (by decide) ?_
      exact v_xiret (pc := 19) F hr dX10_far_19 (Option.some.inj hf) rfl (by decide)
    · have hf := sm_r hf
      exact v_xcallX (pc := 7) (As := [.int a2]) F cl_X10_162 dX10_far_7 (kX10_needRoom hT e4) kc_0.1 kc_0.2 rc_9 rfl rfl (Nat.le_of_ble_eq_true rfl) (by decide) (by decide) hex (congrArg ocI (Option.some.inj hf)) rfl
  · have hf := sm_r hf
    exact v_xcallX (pc := 2) (As := [.int a1]) F cl_X10_162 dX10_far_2 (kX10_needRoom hT e2) kc_0.1 kc_0.2 rc_9 rfl rfl (Nat.le_of_ble_eq_true rfl) (by decide) (by decide) hex (congrArg ocI (Option.some.inj hf)) rfl
def fX10_fault (h : ST) : Option (Int32) :=
  some (h 0 2)
set_option maxRecDepth 100000 in
set_option maxHeartbeats 4000000 in
theorem kX10_fault {l : Launch} {g : GE} {B : Nat} {h : ST} {y : Int32} (hf : fX10_fault h = some y) : CT l yX10_fault cX10_fault 1 (some .int) 1 KC 395 g B [.ref (gA g 0)] h (some (.int y)) h := by
  refine CT.of pn_X10 (Nat.le_of_ble_eq_true rfl) ?_
  intro p e s m below meth c hr F
  have F : Fx p s m _ meth c cX10_fault 1 "DustParish" 395 g B := F
  refine V_lv (lv' := [(0, .ref (gA g 0))]) rfl ?_
  unfold fX10_fault at hf
  refine v_aload_n (pc := 0) (j := 0) F dX10_fault_0 rfl rfl ?_
  refine v_ifl (pc := 1) F fl_X10_17 dX10_fault_1 kc_0.1 kc_0.2 fv_9_2 ?_
  exact v_iret (pc := 4) F hr dX10_fault_4 (Option.some.inj hf) rfl (Nat.zero_le _)
def fX10_feed (h : ST) (a1 : Int32) (a2 : Int32) (a3 : Int32) (a4 : Int32) (a5 : Int32) : Option (Int32 × ST) :=
  if ((h 0 1) + 20) ≤ 700 then
  bnd (fX10_append h a1) fun r2 =>
    bnd (fX10_append r2 a2) fun r4 =>
    bnd (fX10_append r4 a3) fun r6 =>
    bnd (fX10_append r6 a4) fun r8 =>
    bnd (fX10_append r8 a5) fun r10 =>
    some (r10 0 1, r10)
  else
  some ((-1), h)
set_option maxRecDepth 100000 in
set_option maxHeartbeats 4000000 in
theorem kX10_feed {l : Launch} {g : GE} {B : Nat} {h : ST} {a1 : Int32} {a2 : Int32} {a3 : Int32} {a4 : Int32} {a5 : Int32} {y : Int32 × ST} (hf : fX10_feed h a1 a2 a3 a4 a5 = some y) : CT l yX10_feed cX10_feed 6 (some .int) 2 KC 395 g B [.ref (gA g 0), .int a1, .int a2, .int a3, .int a4, .int a5] h (some (.int y.1)) y.2 := by
  refine CT.of pn_X10 (Nat.le_of_ble_eq_true rfl) ?_
  intro p e s m below meth c hr F
  have F : Fx p s m _ meth c cX10_feed 6 "DustParish" 395 g B := F
  refine V_lv (lv' := [(0, .ref (gA g 0)), (1, .int a1), (2, .int a2), (3, .int a3), (4, .int a4), (5, .int a5)]) rfl ?_
  unfold fX10_feed at hf
  refine v_aload_n (pc := 0) (j := 0) F dX10_feed_0 rfl rfl ?_
  refine v_ifl (pc := 1) F fl_X10_13 dX10_feed_1 kc_0.1 kc_0.2 fv_9_1 ?_
  refine v_bipush (pc := 4) (v := 20) F dX10_feed_4 bp_20 ?_
  refine v_iadd (pc := 6) F dX10_feed_6 ?_
  refine v_sipush (pc := 7) (v := 700) F dX10_feed_7 sp_700 ?_
  refine v_icmp_le (pc := 10) (tgt := 15) F dX10_feed_10 (by decide) (fun c1 => ?_) (fun c1 => ?_)
  · have hf := ite_t hf c1
    refine v_aload_n (pc := 15) (j := 0) F dX10_feed_15 rfl rfl ?_
    refine v_iload_n (pc := 16) (j := 1) F dX10_feed_16 rfl rfl ?_
    obtain ⟨r2, e3, hf⟩ := bnd_some hf
    refine v_callVv (pc := 17) (As := [.int a1]) F cl_X10_79 dX10_feed_17 (kX10_append e3) kc_0.1 kc_0.2 rc_9 rfl rfl (Nat.le_of_ble_eq_true rfl) (by decide) (Nat.zero_le _) ?_
    refine v_aload_n (pc := 20) (j := 0) F dX10_feed_20 rfl rfl ?_
    refine v_iload_n (pc := 21) (j := 2) F dX10_feed_21 rfl rfl ?_
    obtain ⟨r4, e5, hf⟩ := bnd_some hf
    refine v_callVv (pc := 22) (As := [.int a2]) F cl_X10_79 dX10_feed_22 (kX10_append e5) kc_0.1 kc_0.2 rc_9 rfl rfl (Nat.le_of_ble_eq_true rfl) (by decide) (Nat.zero_le _) ?_
    refine v_aload_n (pc := 25) (j := 0) F dX10_feed_25 rfl rfl ?_
    refine v_iload_n (pc := 26) (j := 3) F dX10_feed_26 rfl rfl ?_
    obtain ⟨r6, e7, hf⟩ := bnd_some hf
    refine v_callVv (pc := 27) (As := [.int a3]) F cl_X10_79 dX10_feed_27 (kX10_append e7) kc_0.1 kc_0.2 rc_9 rfl rfl (Nat.le_of_ble_eq_true rfl) (by decide) (Nat.zero_le _) ?_
    refine v_aload_n (pc := 30) (j := 0) F dX10_feed_30 rfl rfl ?_
    refine v_iload (pc := 31) (j := 4) F dX10_feed_31 rfl ?_
    obtain ⟨r8, e9, hf⟩ := bnd_some hf
    refine v_callVv (pc := 33) (As := [.int a4]) F cl_X10_79 dX10_feed_33 (kX10_append e9) kc_0.1 kc_0.2 rc_9 rfl rfl (Nat.le_of_ble_eq_true rfl) (by decide) (Nat.zero_le _) ?_
    refine v_aload_n (pc := 36) (j := 0) F dX10_feed_36 rfl rfl ?_
    refine v_iload (pc := 37) (j := 5) F dX10_feed_37 rfl ?_
    obtain ⟨r10, e11, hf⟩ := bnd_some hf
    refine v_callVv (pc := 39) (As := [.int a5]) F cl_X10_79 dX10_feed_39 (kX10_append e11) kc_0.1 kc_0.2 rc_9 rfl rfl (Nat.le_of_ble_eq_true rfl) (by decide) (Nat.zero_le _) ?_
    refine v_aload_n (pc := 42) (j := 0) F dX10_feed_42 rfl rfl ?_
    refine v_ifl (pc := 43) F fl_X10_13 dX10_feed_43 kc_0.1 kc_0.2 fv_9_1 ?_
    exact v_iret (pc := 46) F hr dX10_feed_46 (some_fst hf) (some_snd hf) (Nat.zero_le _)
  · have hf := ite_f hf c1
    refine v_iconst (pc := 13) (v := (-1)) F dX10_feed_13 ic_m1 ?_
    exact v_iret (pc := 14) F hr dX10_feed_14 (some_fst hf) (some_snd hf) (Nat.zero_le _)
def fX10_swap (h : ST) (o1 : Nat) (n_o1 : Nat) (a2 : Int32) (a3 : Int32) : Option (ST) :=
  bnd (rd n_o1 (h o1) a2) fun v1 =>
  bnd (rd n_o1 (h o1) a3) fun v3 =>
  bnd (wr n_o1 h o1 a2 v3) fun h5 =>
  bnd (wr n_o1 h5 o1 a3 v1) fun h7 =>
  some h7
set_option maxRecDepth 100000 in
set_option maxHeartbeats 4000000 in
theorem kX10_swap {l : Launch} {g : GE} {B : Nat} {h : ST} {o1 n_o1 : Nat} (ho_o1 : o1 < 395) (hk_o1 : KC o1 = (20, n_o1)) {a2 : Int32} {a3 : Int32} {y : ST} (hf : fX10_swap h o1 n_o1 a2 a3 = some y) : CT l yX10_swap cX10_swap 4 none 1 KC 395 g B [.ref (gA g o1), .int a2, .int a3] h none y := by
  refine CT.of pn_X10 (Nat.le_of_ble_eq_true rfl) ?_
  intro p e s m below meth c hr F
  have F : Fx p s m _ meth c cX10_swap 4 "DustParish" 395 g B := F
  refine V_lv (lv' := [(0, .ref (gA g o1)), (1, .int a2), (2, .int a3)]) rfl ?_
  unfold fX10_swap at hf
  refine v_aload_n (pc := 0) (j := 0) F dX10_swap_0 rfl rfl ?_
  refine v_iload_n (pc := 1) (j := 1) F dX10_swap_1 rfl rfl ?_
  obtain ⟨v1, e2, hf⟩ := bnd_some hf
  refine v_iald (pc := 2) F dX10_swap_2 ho_o1 hk_o1 e2 ?_
  refine v_istore_n (pc := 3) (lv' := [(0, .ref (gA g o1)), (1, .int a2), (2, .int a3), (3, .int v1)]) F dX10_swap_3 rfl (by decide) rfl ?_
  refine v_aload_n (pc := 4) (j := 0) F dX10_swap_4 rfl rfl ?_
  refine v_iload_n (pc := 5) (j := 1) F dX10_swap_5 rfl rfl ?_
  refine v_aload_n (pc := 6) (j := 0) F dX10_swap_6 rfl rfl ?_
  refine v_iload_n (pc := 7) (j := 2) F dX10_swap_7 rfl rfl ?_
  obtain ⟨v3, e4, hf⟩ := bnd_some hf
  refine v_iald (pc := 8) F dX10_swap_8 ho_o1 hk_o1 e4 ?_
  obtain ⟨h5, e6, hf⟩ := bnd_some hf
  refine v_iast (pc := 9) F dX10_swap_9 ho_o1 hk_o1 e6 ?_
  refine v_aload_n (pc := 10) (j := 0) F dX10_swap_10 rfl rfl ?_
  refine v_iload_n (pc := 11) (j := 2) F dX10_swap_11 rfl rfl ?_
  refine v_iload_n (pc := 12) (j := 3) F dX10_swap_12 rfl rfl ?_
  obtain ⟨h7, e8, hf⟩ := bnd_some hf
  refine v_iast (pc := 13) F dX10_swap_13 ho_o1 hk_o1 e8 ?_
  exact v_vret (pc := 14) F hr dX10_swap_14 (Option.some.inj hf) (Nat.zero_le _)
def fX10_nextRow_4 (h : ST) (o1 : Nat) (n_o1 : Nat) (l1 : Int32) (s1 : Int32) : Option (Int32 ⊕ Int32) :=
  if s1 < 0 then
  some (.inr s1)
  else
  bnd (rd n_o1 (h o1) s1) fun v2 =>
    bnd (rd n_o1 (h o1) (s1 + 1)) fun v4 =>
    if v2 ≤ v4 then
    some (.inr s1)
    else
    some (.inl (s1 + (-1)))
def fX10_nextRow_35 (h : ST) (o1 : Nat) (n_o1 : Nat) (l1 : Int32) (l2 : Int32) (s1 : Int32) : Option (Int32 ⊕ Int32) :=
  if s1 ≤ l2 then
  some (.inr s1)
  else
  bnd (rd n_o1 (h o1) s1) fun v11 =>
    bnd (rd n_o1 (h o1) l2) fun v13 =>
    if v13 ≤ v11 then
    some (.inr s1)
    else
    some (.inl (s1 + (-1)))
def fX10_nextRow_71 (o1 : Nat) (n_o1 : Nat) (s1 : (ST × Int32 × Int32)) : Option ((ST × Int32 × Int32) ⊕ ST) :=
  if s1.2.2 ≤ s1.2.1 then
  some (.inr s1.1)
  else
  bnd (fX10_swap s1.1 o1 n_o1 s1.2.1 s1.2.2) fun r21 =>
    some (.inl (r21, s1.2.1 + 1, s1.2.2 + (-1)))
def fX10_nextRow_55 (h : ST) (o1 : Nat) (n_o1 : Nat) (l1 : Int32) (l2 : Int32) (l3 : Int32) : Option (Int32 × ST) :=
  bnd (fX10_swap h o1 n_o1 l2 l3) fun r18 =>
  bnd (lp FU (fX10_nextRow_71 o1 n_o1) (r18, l2 + 1, l1 - 1)) fun x23 =>
  some (1, x23)
def fX10_nextRow_25 (h : ST) (o1 : Nat) (n_o1 : Nat) (l1 : Int32) (l2 : Int32) : Option (Int32 × ST) :=
  if 0 ≤ l2 then
  bnd (lp FU (fX10_nextRow_35 h o1 n_o1 l1 l2) (l1 - 1)) fun x16 =>
    fX10_nextRow_55 h o1 n_o1 l1 l2 x16
  else
  some (0, h)
def fX10_nextRow (h : ST) (o1 : Nat) (n_o1 : Nat) (a2 : Int32) : Option (Int32 × ST) :=
  bnd (lp FU (fX10_nextRow_4 h o1 n_o1 a2) (a2 - 2)) fun x7 =>
  fX10_nextRow_25 h o1 n_o1 a2 x7
set_option maxRecDepth 100000 in
set_option maxHeartbeats 4000000 in
theorem tX10_nextRow_4 {p : Program} {l : Launch} {e : Env} {s : State} {m : MethodId} {args : Array Value} {below : List Frame} {meth : Method} {c : Code} {g : GE} {B : Nat}  {h : ST} {o1 n_o1 : Nat} (ho_o1 : o1 < 395) (hk_o1 : KC o1 = (20, n_o1)) {l1 : Int32} {Q : State → Prop} {x : Int32} {nf : Nat} {s0 : Int32} (F : Fx p s m args meth c cX10_nextRow 6 "DustParish" 395 g B) (hX0 : V p l e 2 0 s m args below meth c Q KC 395 g B 6 0 h 25 [(0, .ref (gA g o1)), (1, .int l1), (2, .int x)] []) (hl : lp nf (fX10_nextRow_4 h o1 n_o1 l1) s0 = some x) : V p l e 2 0 s m args below meth c Q KC 395 g B 6 0 h 4 [(0, .ref (gA g o1)), (1, .int l1), (2, .int s0)] [] := by
  refine lp_ind (P := fun s0 => V p l e 2 0 s m args below meth c Q KC 395 g B 6 0 h 4 [(0, .ref (gA g o1)), (1, .int l1), (2, .int s0)] []) ?_ nf s0 hl
  intro s1 y hf hk hx
  have hx0 : ∀ v : Int32, y = Sum.inr v → V p l e 2 0 s m args below meth c Q KC 395 g B 6 0 h 25 [(0, .ref (gA g o1)), (1, .int l1), (2, .int v)] [] := fun v e9 => by rw [hx v e9]; exact hX0
  unfold fX10_nextRow_4 at hf
  refine v_iload_n (pc := 4) (j := 2) F dX10_nextRow_4 rfl rfl ?_
  refine v_if_lt (pc := 5) (tgt := 25) F dX10_nextRow_5 (by decide) (fun c1 => ?_) (fun c1 => ?_)
  · have hf := ite_t hf c1
    exact hx0 s1 (Option.some.inj hf).symm
  · have hf := ite_f hf c1
    refine v_aload_n (pc := 8) (j := 0) F dX10_nextRow_8 rfl rfl ?_
    refine v_iload_n (pc := 9) (j := 2) F dX10_nextRow_9 rfl rfl ?_
    obtain ⟨v2, e3, hf⟩ := bnd_some hf
    refine v_iald (pc := 10) F dX10_nextRow_10 ho_o1 hk_o1 e3 ?_
    refine v_aload_n (pc := 11) (j := 0) F dX10_nextRow_11 rfl rfl ?_
    refine v_iload_n (pc := 12) (j := 2) F dX10_nextRow_12 rfl rfl ?_
    refine v_iconst (pc := 13) (v := 1) F dX10_nextRow_13 ic_1 ?_
    refine v_iadd (pc := 14) F dX10_nextRow_14 ?_
    obtain ⟨v4, e5, hf⟩ := bnd_some hf
    refine v_iald (pc := 15) F dX10_nextRow_15 ho_o1 hk_o1 e5 ?_
    refine v_icmp_le (pc := 16) (tgt := 25) F dX10_nextRow_16 (by decide) (fun c6 => ?_) (fun c6 => ?_)
    · have hf := ite_t hf c6
      exact hx0 s1 (Option.some.inj hf).symm
    · have hf := ite_f hf c6
      refine v_iinc (pc := 19) (j := 2) (v := s1 + (-1)) (lv' := [(0, .ref (gA g o1)), (1, .int l1), (2, .int (s1 + (-1)))]) F dX10_nextRow_19 rfl (congrArg (fun z => s1 + z) ic_m1) (by decide) rfl ?_
      refine v_goto (pc := 22) (tgt := 4) F dX10_nextRow_22 (by decide) ?_
      exact hk (s1 + (-1)) (Option.some.inj hf).symm
set_option maxRecDepth 100000 in
set_option maxHeartbeats 4000000 in
theorem tX10_nextRow_35 {p : Program} {l : Launch} {e : Env} {s : State} {m : MethodId} {args : Array Value} {below : List Frame} {meth : Method} {c : Code} {g : GE} {B : Nat}  {h : ST} {o1 n_o1 : Nat} (ho_o1 : o1 < 395) (hk_o1 : KC o1 = (20, n_o1)) {l1 : Int32} {l2 : Int32} {Q : State → Prop} {x : Int32} {nf : Nat} {s0 : Int32} (F : Fx p s m args meth c cX10_nextRow 6 "DustParish" 395 g B) (hX0 : V p l e 2 0 s m args below meth c Q KC 395 g B 6 0 h 55 [(0, .ref (gA g o1)), (1, .int l1), (2, .int l2), (3, .int x)] []) (hl : lp nf (fX10_nextRow_35 h o1 n_o1 l1 l2) s0 = some x) : V p l e 2 0 s m args below meth c Q KC 395 g B 6 0 h 35 [(0, .ref (gA g o1)), (1, .int l1), (2, .int l2), (3, .int s0)] [] := by
  refine lp_ind (P := fun s0 => V p l e 2 0 s m args below meth c Q KC 395 g B 6 0 h 35 [(0, .ref (gA g o1)), (1, .int l1), (2, .int l2), (3, .int s0)] []) ?_ nf s0 hl
  intro s1 y hf hk hx
  have hx0 : ∀ v : Int32, y = Sum.inr v → V p l e 2 0 s m args below meth c Q KC 395 g B 6 0 h 55 [(0, .ref (gA g o1)), (1, .int l1), (2, .int l2), (3, .int v)] [] := fun v e9 => by rw [hx v e9]; exact hX0
  unfold fX10_nextRow_35 at hf
  refine v_iload_n (pc := 35) (j := 3) F dX10_nextRow_35 rfl rfl ?_
  refine v_iload_n (pc := 36) (j := 2) F dX10_nextRow_36 rfl rfl ?_
  refine v_icmp_le (pc := 37) (tgt := 55) F dX10_nextRow_37 (by decide) (fun c10 => ?_) (fun c10 => ?_)
  · have hf := ite_t hf c10
    exact hx0 s1 (Option.some.inj hf).symm
  · have hf := ite_f hf c10
    refine v_aload_n (pc := 40) (j := 0) F dX10_nextRow_40 rfl rfl ?_
    refine v_iload_n (pc := 41) (j := 3) F dX10_nextRow_41 rfl rfl ?_
    obtain ⟨v11, e12, hf⟩ := bnd_some hf
    refine v_iald (pc := 42) F dX10_nextRow_42 ho_o1 hk_o1 e12 ?_
    refine v_aload_n (pc := 43) (j := 0) F dX10_nextRow_43 rfl rfl ?_
    refine v_iload_n (pc := 44) (j := 2) F dX10_nextRow_44 rfl rfl ?_
    obtain ⟨v13, e14, hf⟩ := bnd_some hf
    refine v_iald (pc := 45) F dX10_nextRow_45 ho_o1 hk_o1 e14 ?_
    refine v_icmp_ge (pc := 46) (tgt := 55) F dX10_nextRow_46 (by decide) (fun c15 => ?_) (fun c15 => ?_)
    · have hf := ite_t hf c15
      exact hx0 s1 (Option.some.inj hf).symm
    · have hf := ite_f hf c15
      refine v_iinc (pc := 49) (j := 3) (v := s1 + (-1)) (lv' := [(0, .ref (gA g o1)), (1, .int l1), (2, .int l2), (3, .int (s1 + (-1)))]) F dX10_nextRow_49 rfl (congrArg (fun z => s1 + z) ic_m1) (by decide) rfl ?_
      refine v_goto (pc := 52) (tgt := 35) F dX10_nextRow_52 (by decide) ?_
      exact hk (s1 + (-1)) (Option.some.inj hf).symm
set_option maxRecDepth 100000 in
set_option maxHeartbeats 4000000 in
theorem tX10_nextRow_71 {p : Program} {l : Launch} {e : Env} {s : State} {m : MethodId} {args : Array Value} {below : List Frame} {meth : Method} {c : Code} {g : GE} {B : Nat}  {o1 n_o1 : Nat} (ho_o1 : o1 < 395) (hk_o1 : KC o1 = (20, n_o1)) {Q : State → Prop} {x : ST} {nf : Nat} {s0 : (ST × Int32 × Int32)} (F : Fx p s m args meth c cX10_nextRow 6 "DustParish" 395 g B) (hX0 : V p l e 2 0 s m args below meth c Q KC 395 g B 6 0 x 95 [] []) (hl : lp nf (fX10_nextRow_71 o1 n_o1) s0 = some x) : V p l e 2 0 s m args below meth c Q KC 395 g B 6 0 s0.1 71 [(0, .ref (gA g o1)), (4, .int s0.2.1), (5, .int s0.2.2)] [] := by
  refine lp_ind (P := fun s0 => V p l e 2 0 s m args below meth c Q KC 395 g B 6 0 s0.1 71 [(0, .ref (gA g o1)), (4, .int s0.2.1), (5, .int s0.2.2)] []) ?_ nf s0 hl
  intro s1 y hf hk hx
  have hx0 : ∀ v : ST, y = Sum.inr v → V p l e 2 0 s m args below meth c Q KC 395 g B 6 0 v 95 [] [] := fun v e9 => by rw [hx v e9]; exact hX0
  unfold fX10_nextRow_71 at hf
  refine v_iload (pc := 71) (j := 1) F dX10_nextRow_71 rfl ?_
  refine v_iload (pc := 73) (j := 2) F dX10_nextRow_73 rfl ?_
  refine v_icmp_ge (pc := 75) (tgt := 95) F dX10_nextRow_75 (by decide) (fun c20 => ?_) (fun c20 => ?_)
  · have hf := ite_t hf c20
    refine V.sub (lv' := []) [] rfl ?_
    exact hx0 s1.1 (Option.some.inj hf).symm
  · have hf := ite_f hf c20
    refine v_aload_n (pc := 78) (j := 0) F dX10_nextRow_78 rfl rfl ?_
    refine v_iload (pc := 79) (j := 1) F dX10_nextRow_79 rfl ?_
    refine v_iload (pc := 81) (j := 2) F dX10_nextRow_81 rfl ?_
    obtain ⟨r21, e22, hf⟩ := bnd_some hf
    refine v_callSv (pc := 83) (As := [.ref (gA g o1), .int s1.2.1, .int s1.2.2]) F cl_X10_267 dX10_nextRow_83 (kX10_swap ho_o1 hk_o1 e22) rfl rfl (Nat.le_of_ble_eq_true rfl) (by decide) (Nat.zero_le _) ?_
    refine v_iinc (pc := 86) (j := 1) (v := s1.2.1 + 1) (lv' := [(0, .ref (gA g o1)), (4, .int (s1.2.1 + 1)), (5, .int s1.2.2)]) F dX10_nextRow_86 rfl (congrArg (fun z => s1.2.1 + z) ic_1) (by decide) rfl ?_
    refine v_iinc (pc := 89) (j := 2) (v := s1.2.2 + (-1)) (lv' := [(0, .ref (gA g o1)), (4, .int (s1.2.1 + 1)), (5, .int (s1.2.2 + (-1)))]) F dX10_nextRow_89 rfl (congrArg (fun z => s1.2.2 + z) ic_m1) (by decide) rfl ?_
    refine v_goto (pc := 92) (tgt := 71) F dX10_nextRow_92 (by decide) ?_
    exact hk (r21, s1.2.1 + 1, s1.2.2 + (-1)) (Option.some.inj hf).symm
set_option maxRecDepth 100000 in
set_option maxHeartbeats 4000000 in
theorem tX10_nextRow_55 {p : Program} {l : Launch} {e : Env} {s : State} {m : MethodId} {args : Array Value} {below : List Frame} {meth : Method} {c : Code} {g : GE} {B : Nat} {h : ST} {o1 n_o1 : Nat} (ho_o1 : o1 < 395) (hk_o1 : KC o1 = (20, n_o1)) {l1 : Int32} {l2 : Int32} {l3 : Int32} (F : Fx p s m args meth c cX10_nextRow 6 "DustParish" 395 g B)
    {y : Int32 × ST} (hr : meth.sig.returnType = (some .boolean)) (hf : fX10_nextRow_55 h o1 n_o1 l1 l2 l3 = some y) : V p l e 2 0 s m args below meth c (MQ below (QO KC 395 g (some (.int y.1)) y.2) args s 0 (6 * 0) (WA 395 g)) KC 395 g B 6 0 h 55 [(0, .ref (gA g o1)), (1, .int l1), (2, .int l2), (3, .int l3)] [] := by
  unfold fX10_nextRow_55 at hf
  refine v_aload_n (pc := 55) (j := 0) F dX10_nextRow_55 rfl rfl ?_
  refine v_iload_n (pc := 56) (j := 2) F dX10_nextRow_56 rfl rfl ?_
  refine v_iload_n (pc := 57) (j := 3) F dX10_nextRow_57 rfl rfl ?_
  obtain ⟨r18, e19, hf⟩ := bnd_some hf
  refine v_callSv (pc := 58) (As := [.ref (gA g o1), .int l2, .int l3]) F cl_X10_267 dX10_nextRow_58 (kX10_swap ho_o1 hk_o1 e19) rfl rfl (Nat.le_of_ble_eq_true rfl) (by decide) (Nat.zero_le _) ?_
  refine v_iload_n (pc := 61) (j := 2) F dX10_nextRow_61 rfl rfl ?_
  refine v_iconst (pc := 62) (v := 1) F dX10_nextRow_62 ic_1 ?_
  refine v_iadd (pc := 63) F dX10_nextRow_63 ?_
  refine v_istore (pc := 64) (lv' := [(0, .ref (gA g o1)), (1, .int l1), (2, .int l2), (3, .int l3), (4, .int (l2 + 1))]) F dX10_nextRow_64 (by decide) rfl ?_
  refine v_iload_n (pc := 66) (j := 1) F dX10_nextRow_66 rfl rfl ?_
  refine v_iconst (pc := 67) (v := 1) F dX10_nextRow_67 ic_1 ?_
  refine v_isub (pc := 68) F dX10_nextRow_68 ?_
  refine v_istore (pc := 69) (lv' := [(0, .ref (gA g o1)), (1, .int l1), (2, .int l2), (3, .int l3), (4, .int (l2 + 1)), (5, .int (l1 - 1))]) F dX10_nextRow_69 (by decide) rfl ?_
  obtain ⟨x23, e24, hf⟩ := bnd_some hf
  refine V.sub (lv' := [(0, .ref (gA g o1)), (4, .int (l2 + 1)), (5, .int (l1 - 1))]) [0, 4, 5] rfl ?_
  refine tX10_nextRow_71 (s0 := (r18, l2 + 1, l1 - 1)) ho_o1 hk_o1 F ?_ e24
  refine v_iconst (pc := 95) (v := 1) F dX10_nextRow_95 ic_1 ?_
  exact v_zret (pc := 96) F hr dX10_nextRow_96 rfl (some_fst hf) (some_snd hf) (Nat.zero_le _)
set_option maxRecDepth 100000 in
set_option maxHeartbeats 4000000 in
theorem tX10_nextRow_25 {p : Program} {l : Launch} {e : Env} {s : State} {m : MethodId} {args : Array Value} {below : List Frame} {meth : Method} {c : Code} {g : GE} {B : Nat} {h : ST} {o1 n_o1 : Nat} (ho_o1 : o1 < 395) (hk_o1 : KC o1 = (20, n_o1)) {l1 : Int32} {l2 : Int32} (F : Fx p s m args meth c cX10_nextRow 6 "DustParish" 395 g B)
    {y : Int32 × ST} (hr : meth.sig.returnType = (some .boolean)) (hf : fX10_nextRow_25 h o1 n_o1 l1 l2 = some y) : V p l e 2 0 s m args below meth c (MQ below (QO KC 395 g (some (.int y.1)) y.2) args s 0 (6 * 0) (WA 395 g)) KC 395 g B 6 0 h 25 [(0, .ref (gA g o1)), (1, .int l1), (2, .int l2)] [] := by
  unfold fX10_nextRow_25 at hf
  refine v_iload_n (pc := 25) (j := 2) F dX10_nextRow_25 rfl rfl ?_
  refine v_if_ge (pc := 26) (tgt := 31) F dX10_nextRow_26 (by decide) (fun c9 => ?_) (fun c9 => ?_)
  · have hf := ite_t hf c9
    refine v_iload_n (pc := 31) (j := 1) F dX10_nextRow_31 rfl rfl ?_
    refine v_iconst (pc := 32) (v := 1) F dX10_nextRow_32 ic_1 ?_
    refine v_isub (pc := 33) F dX10_nextRow_33 ?_
    refine v_istore_n (pc := 34) (lv' := [(0, .ref (gA g o1)), (1, .int l1), (2, .int l2), (3, .int (l1 - 1))]) F dX10_nextRow_34 rfl (by decide) rfl ?_
    obtain ⟨x16, e17, hf⟩ := bnd_some hf
    refine tX10_nextRow_35 (s0 := l1 - 1) ho_o1 hk_o1 F ?_ e17
    exact tX10_nextRow_55 ho_o1 hk_o1 F hr hf
  · have hf := ite_f hf c9
    refine v_iconst (pc := 29) (v := 0) F dX10_nextRow_29 ic_0 ?_
    exact v_zret (pc := 30) F hr dX10_nextRow_30 rfl (some_fst hf) (some_snd hf) (Nat.zero_le _)
set_option maxRecDepth 100000 in
set_option maxHeartbeats 4000000 in
theorem kX10_nextRow {l : Launch} {g : GE} {B : Nat} {h : ST} {o1 n_o1 : Nat} (ho_o1 : o1 < 395) (hk_o1 : KC o1 = (20, n_o1)) {a2 : Int32} {y : Int32 × ST} (hf : fX10_nextRow h o1 n_o1 a2 = some y) : CT l yX10_nextRow cX10_nextRow 6 (some .boolean) 2 KC 395 g B [.ref (gA g o1), .int a2] h (some (.int y.1)) y.2 := by
  refine CT.of pn_X10 (Nat.le_of_ble_eq_true rfl) ?_
  intro p e s m below meth c hr F
  have F : Fx p s m _ meth c cX10_nextRow 6 "DustParish" 395 g B := F
  refine V_lv (lv' := [(0, .ref (gA g o1)), (1, .int a2)]) rfl ?_
  unfold fX10_nextRow at hf
  refine v_iload_n (pc := 0) (j := 1) F dX10_nextRow_0 rfl rfl ?_
  refine v_iconst (pc := 1) (v := 2) F dX10_nextRow_1 ic_2 ?_
  refine v_isub (pc := 2) F dX10_nextRow_2 ?_
  refine v_istore_n (pc := 3) (lv' := [(0, .ref (gA g o1)), (1, .int a2), (2, .int (a2 - 2))]) F dX10_nextRow_3 rfl (by decide) rfl ?_
  obtain ⟨x7, e8, hf⟩ := bnd_some hf
  refine tX10_nextRow_4 (s0 := a2 - 2) ho_o1 hk_o1 F ?_ e8
  exact tX10_nextRow_25 ho_o1 hk_o1 F hr hf
def fX10_findOrder_10 (l1 : Int32) (l2 : Int32) (s1 : (ST × Int32)) : Option ((ST × Int32) ⊕ ST) :=
  if l2 ≤ s1.2 then
  some (.inr s1.1)
  else
  bnd (wr 5 s1.1 390 s1.2 s1.2) fun h4 =>
    some (.inl (h4, s1.2 + 1))
def fX10_findOrder_57 (l1 : Int32) (l2 : Int32) (l3 : Int32) (l4 : Int32) (s1 : (ST × Int32)) : Option ((ST × Int32) ⊕ ST) :=
  if l2 ≤ s1.2 then
  some (.inr s1.1)
  else
  bnd (rf KC 395 1 (s1.1 0 3)) fun f12 =>
    bnd (rd 5 (s1.1 390) s1.2) fun v14 =>
    bnd (rf KC 395 1 (s1.1 0 3)) fun f16 =>
    bnd (fX1_pass s1.1 f12 386 v14 (s1.1 f16 15)) fun r18 =>
    some (.inl (r18, s1.2 + 1))
def fX10_findOrder_131 (h : ST) (l1 : Int32) (l2 : Int32) (l3 : Int32) (l4 : Int32) : Option ((ST × Int32 × Int32) ⊕ ((ST × Int32) ⊕ (ST × Int32))) :=
  bnd (fX10_nextRow h 390 5 l2) fun r25 =>
  if r25.1 = 0 then
  some (.inr (.inl (r25.2, l3)))
  else
  some (.inl (r25.2, l3, l4 + 1))
def fX10_findOrder_33 (l1 : Int32) (l2 : Int32) (s1 : (ST × Int32 × Int32)) : Option ((ST × Int32 × Int32) ⊕ ((ST × Int32) ⊕ (ST × Int32))) :=
  if 120 ≤ s1.2.2 then
  some (.inr (.inr (s1.1, s1.2.1)))
  else
  bnd (fX8_copy s1.1 386 43) fun r9 =>
    bnd (lp FU (fX10_findOrder_57 l1 l2 s1.2.1 s1.2.2) (r9, 0)) fun x20 =>
    bnd (rd 9 (x20 387) l1) fun v22 =>
    if v22 ≤ s1.2.1 then
    fX10_findOrder_131 x20 l1 l2 s1.2.1 s1.2.2
    else
    bnd (rd 9 (x20 387) l1) fun v28 =>
      bnd (acp 5 5 x20 390 391 0 0 5) fun h30 =>
      fX10_findOrder_131 h30 l1 l2 v28 s1.2.2
def fX10_findOrder_151 (h : ST) (l3 : Int32) : Option (Int32 × ST) :=
  some (l3, h)
def fX10_findOrder (h : ST) (a1 : Int32) : Option (Int32 × ST) :=
  bnd (rf KC 395 1 (h 0 3)) fun f1 =>
  bnd (lp FU (fX10_findOrder_10 a1 (h f1 8)) (h, 0)) fun x6 =>
  bnd (lp FU (fX10_findOrder_33 a1 (h f1 8)) (x6, (-1), 0)) fun x32 =>
  sm x32 (fun v => fX10_findOrder_151 v.1 v.2) (fun v => fX10_findOrder_151 v.1 v.2)
set_option maxRecDepth 100000 in
set_option maxHeartbeats 4000000 in
theorem tX10_findOrder_10 {p : Program} {l : Launch} {e : Env} {s : State} {m : MethodId} {args : Array Value} {below : List Frame} {meth : Method} {c : Code} {g : GE} {B : Nat}   {l1 : Int32} {l2 : Int32} {Q : State → Prop} {x : ST} {nf : Nat} {s0 : (ST × Int32)} (F : Fx p s m args meth c cX10_findOrder 6 "DustParish" 395 g B) (hX0 : V p l e 6 0 s m args below meth c Q KC 395 g B 6 0 x 28 [(0, .ref (gA g 0)), (1, .int l1), (2, .int l2)] []) (hl : lp nf (fX10_findOrder_10 l1 l2) s0 = some x) : V p l e 6 0 s m args below meth c Q KC 395 g B 6 0 s0.1 10 [(0, .ref (gA g 0)), (1, .int l1), (2, .int l2), (3, .int s0.2)] [] := by
  refine lp_ind (P := fun s0 => V p l e 6 0 s m args below meth c Q KC 395 g B 6 0 s0.1 10 [(0, .ref (gA g 0)), (1, .int l1), (2, .int l2), (3, .int s0.2)] []) ?_ nf s0 hl
  intro s1 y hf hk hx
  have hx0 : ∀ v : ST, y = Sum.inr v → V p l e 6 0 s m args below meth c Q KC 395 g B 6 0 v 28 [(0, .ref (gA g 0)), (1, .int l1), (2, .int l2)] [] := fun v e9 => by rw [hx v e9]; exact hX0
  unfold fX10_findOrder_10 at hf
  refine v_iload_n (pc := 10) (j := 3) F dX10_findOrder_10 rfl rfl ?_
  refine v_iload_n (pc := 11) (j := 2) F dX10_findOrder_11 rfl rfl ?_
  refine v_icmp_ge (pc := 12) (tgt := 28) F dX10_findOrder_12 (by decide) (fun c3 => ?_) (fun c3 => ?_)
  · have hf := ite_t hf c3
    refine V.sub (lv' := [(0, .ref (gA g 0)), (1, .int l1), (2, .int l2)]) [0, 1, 2] rfl ?_
    exact hx0 s1.1 (Option.some.inj hf).symm
  · have hf := ite_f hf c3
    refine v_aload_n (pc := 15) (j := 0) F dX10_findOrder_15 rfl rfl ?_
    refine v_ifl (pc := 16) F fl_X10_60 dX10_findOrder_16 kc_0.1 kc_0.2 fv_9_10 ?_
    refine v_iload_n (pc := 19) (j := 3) F dX10_findOrder_19 rfl rfl ?_
    refine v_iload_n (pc := 20) (j := 3) F dX10_findOrder_20 rfl rfl ?_
    obtain ⟨h4, e5, hf⟩ := bnd_some hf
    refine v_iast (pc := 21) F dX10_findOrder_21 kc_390.1 kc_390.2 e5 ?_
    refine v_iinc (pc := 22) (j := 3) (v := s1.2 + 1) (lv' := [(0, .ref (gA g 0)), (1, .int l1), (2, .int l2), (3, .int (s1.2 + 1))]) F dX10_findOrder_22 rfl (congrArg (fun z => s1.2 + z) ic_1) (by decide) rfl ?_
    refine v_goto (pc := 25) (tgt := 10) F dX10_findOrder_25 (by decide) ?_
    exact hk (h4, s1.2 + 1) (Option.some.inj hf).symm
set_option maxRecDepth 100000 in
set_option maxHeartbeats 4000000 in
theorem tX10_findOrder_57 {p : Program} {l : Launch} {e : Env} {s : State} {m : MethodId} {args : Array Value} {below : List Frame} {meth : Method} {c : Code} {g : GE} {B : Nat}   {l1 : Int32} {l2 : Int32} {l3 : Int32} {l4 : Int32} {Q : State → Prop} {x : ST} {nf : Nat} {s0 : (ST × Int32)} (F : Fx p s m args meth c cX10_findOrder 6 "DustParish" 395 g B) (hX0 : V p l e 6 0 s m args below meth c Q KC 395 g B 6 0 x 94 [(0, .ref (gA g 0)), (1, .int l1), (2, .int l2), (3, .int l3), (4, .int l4)] []) (hl : lp nf (fX10_findOrder_57 l1 l2 l3 l4) s0 = some x) : V p l e 6 0 s m args below meth c Q KC 395 g B 6 0 s0.1 57 [(0, .ref (gA g 0)), (1, .int l1), (2, .int l2), (3, .int l3), (4, .int l4), (5, .int s0.2)] [] := by
  refine lp_ind (P := fun s0 => V p l e 6 0 s m args below meth c Q KC 395 g B 6 0 s0.1 57 [(0, .ref (gA g 0)), (1, .int l1), (2, .int l2), (3, .int l3), (4, .int l4), (5, .int s0.2)] []) ?_ nf s0 hl
  intro s1 y hf hk hx
  have hx0 : ∀ v : ST, y = Sum.inr v → V p l e 6 0 s m args below meth c Q KC 395 g B 6 0 v 94 [(0, .ref (gA g 0)), (1, .int l1), (2, .int l2), (3, .int l3), (4, .int l4)] [] := fun v e9 => by rw [hx v e9]; exact hX0
  unfold fX10_findOrder_57 at hf
  refine v_iload (pc := 57) (j := 5) F dX10_findOrder_57 rfl ?_
  refine v_iload_n (pc := 59) (j := 2) F dX10_findOrder_59 rfl rfl ?_
  refine v_icmp_ge (pc := 60) (tgt := 94) F dX10_findOrder_60 (by decide) (fun c11 => ?_) (fun c11 => ?_)
  · have hf := ite_t hf c11
    refine V.sub (lv' := [(0, .ref (gA g 0)), (1, .int l1), (2, .int l2), (3, .int l3), (4, .int l4)]) [0, 1, 2, 3, 4] rfl ?_
    exact hx0 s1.1 (Option.some.inj hf).symm
  · have hf := ite_f hf c11
    refine v_aload_n (pc := 63) (j := 0) F dX10_findOrder_63 rfl rfl ?_
    obtain ⟨f12, e13, hf⟩ := bnd_some hf
    obtain ⟨ho_f12, hk_f12, e13⟩ := rf_in e13
    refine v_ifl (pc := 64) F fl_X10_23 dX10_findOrder_64 kc_0.1 kc_0.2 (fv_9_3 e13) ?_
    refine v_aload_n (pc := 67) (j := 0) F dX10_findOrder_67 rfl rfl ?_
    refine v_ifl (pc := 68) F fl_X10_56 dX10_findOrder_68 kc_0.1 kc_0.2 fv_9_9 ?_
    refine v_aload_n (pc := 71) (j := 0) F dX10_findOrder_71 rfl rfl ?_
    refine v_ifl (pc := 72) F fl_X10_60 dX10_findOrder_72 kc_0.1 kc_0.2 fv_9_10 ?_
    refine v_iload (pc := 75) (j := 5) F dX10_findOrder_75 rfl ?_
    obtain ⟨v14, e15, hf⟩ := bnd_some hf
    refine v_iald (pc := 77) F dX10_findOrder_77 kc_390.1 kc_390.2 e15 ?_
    refine v_aload_n (pc := 78) (j := 0) F dX10_findOrder_78 rfl rfl ?_
    obtain ⟨f16, e17, hf⟩ := bnd_some hf
    obtain ⟨ho_f16, hk_f16, e17⟩ := rf_in e17
    refine v_ifl (pc := 79) F fl_X10_23 dX10_findOrder_79 kc_0.1 kc_0.2 (fv_9_3 e17) ?_
    refine v_ifl (pc := 82) F fl_X10_116 dX10_findOrder_82 ho_f16 hk_f16 fv_1_15 ?_
    obtain ⟨r18, e19, hf⟩ := bnd_some hf
    refine v_callSv (pc := 85) (As := [.ref (gA g f12), .ref (gA g 386), .int v14, .int (s1.1 f16 15)]) F cl_X10_247 dX10_findOrder_85 (kX1_pass ho_f12 hk_f12 kc_386.1 kc_386.2 e19) rfl rfl (Nat.le_of_ble_eq_true rfl) (by decide) (Nat.zero_le _) ?_
    refine v_iinc (pc := 88) (j := 5) (v := s1.2 + 1) (lv' := [(0, .ref (gA g 0)), (1, .int l1), (2, .int l2), (3, .int l3), (4, .int l4), (5, .int (s1.2 + 1))]) F dX10_findOrder_88 rfl (congrArg (fun z => s1.2 + z) ic_1) (by decide) rfl ?_
    refine v_goto (pc := 91) (tgt := 57) F dX10_findOrder_91 (by decide) ?_
    exact hk (r18, s1.2 + 1) (Option.some.inj hf).symm
set_option maxRecDepth 100000 in
set_option maxHeartbeats 4000000 in
theorem tX10_findOrder_131 {p : Program} {l : Launch} {e : Env} {s : State} {m : MethodId} {args : Array Value} {below : List Frame} {meth : Method} {c : Code} {g : GE} {B : Nat} {h : ST}  {l1 : Int32} {l2 : Int32} {l3 : Int32} {l4 : Int32} (F : Fx p s m args meth c cX10_findOrder 6 "DustParish" 395 g B)
    {Q : State → Prop} {y : (ST × Int32 × Int32) ⊕ ((ST × Int32) ⊕ (ST × Int32))} (hk : ∀ v : (ST × Int32 × Int32), y = Sum.inl v → V p l e 6 0 s m args below meth c Q KC 395 g B 6 0 v.1 33 [(0, .ref (gA g 0)), (1, .int l1), (2, .int l2), (3, .int v.2.1), (4, .int v.2.2)] []) (hx0 : ∀ v : (ST × Int32), y = Sum.inr (.inl v) → V p l e 6 0 s m args below meth c Q KC 395 g B 6 0 v.1 142 [(3, .int v.2)] []) (hx1 : ∀ v : (ST × Int32), y = Sum.inr (.inr v) → V p l e 6 0 s m args below meth c Q KC 395 g B 6 0 v.1 151 [(3, .int v.2)] []) (hf : fX10_findOrder_131 h l1 l2 l3 l4 = some y) : V p l e 6 0 s m args below meth c Q KC 395 g B 6 0 h 131 [(0, .ref (gA g 0)), (1, .int l1), (2, .int l2), (3, .int l3), (4, .int l4)] [] := by
  unfold fX10_findOrder_131 at hf
  refine v_aload_n (pc := 131) (j := 0) F dX10_findOrder_131 rfl rfl ?_
  refine v_ifl (pc := 132) F fl_X10_60 dX10_findOrder_132 kc_0.1 kc_0.2 fv_9_10 ?_
  refine v_iload_n (pc := 135) (j := 2) F dX10_findOrder_135 rfl rfl ?_
  obtain ⟨r25, e26, hf⟩ := bnd_some hf
  refine v_callSi (pc := 136) (As := [.ref (gA g 390), .int l2]) F cl_X10_263 dX10_findOrder_136 (kX10_nextRow kc_390.1 kc_390.2 e26) rfl rfl (Nat.le_of_ble_eq_true rfl) (by decide) (Nat.zero_le _) ?_
  refine v_if_ne (pc := 139) (tgt := 145) F dX10_findOrder_139 (by decide) (fun c27 => ?_) (fun c27 => ?_)
  · have hf := ite_f hf c27
    refine v_iinc (pc := 145) (j := 4) (v := l4 + 1) (lv' := [(0, .ref (gA g 0)), (1, .int l1), (2, .int l2), (3, .int l3), (4, .int (l4 + 1))]) F dX10_findOrder_145 rfl (congrArg (fun z => l4 + z) ic_1) (by decide) rfl ?_
    refine v_goto (pc := 148) (tgt := 33) F dX10_findOrder_148 (by decide) ?_
    exact hk (r25.2, l3, l4 + 1) (Option.some.inj hf).symm
  · have hf := ite_t hf c27
    refine V.sub (lv' := [(3, .int l3)]) [3] rfl ?_
    exact hx0 (r25.2, l3) (Option.some.inj hf).symm
set_option maxRecDepth 100000 in
set_option maxHeartbeats 4000000 in
theorem tX10_findOrder_33 {p : Program} {l : Launch} {e : Env} {s : State} {m : MethodId} {args : Array Value} {below : List Frame} {meth : Method} {c : Code} {g : GE} {B : Nat}   {l1 : Int32} {l2 : Int32} {Q : State → Prop} {x : ((ST × Int32) ⊕ (ST × Int32))} {nf : Nat} {s0 : (ST × Int32 × Int32)} (F : Fx p s m args meth c cX10_findOrder 6 "DustParish" 395 g B) (hX0 : ∀ v : (ST × Int32), x = (.inl v) → V p l e 6 0 s m args below meth c Q KC 395 g B 6 0 v.1 142 [(3, .int v.2)] []) (hX1 : ∀ v : (ST × Int32), x = (.inr v) → V p l e 6 0 s m args below meth c Q KC 395 g B 6 0 v.1 151 [(3, .int v.2)] []) (hl : lp nf (fX10_findOrder_33 l1 l2) s0 = some x) : V p l e 6 0 s m args below meth c Q KC 395 g B 6 0 s0.1 33 [(0, .ref (gA g 0)), (1, .int l1), (2, .int l2), (3, .int s0.2.1), (4, .int s0.2.2)] [] := by
  refine lp_ind (P := fun s0 => V p l e 6 0 s m args below meth c Q KC 395 g B 6 0 s0.1 33 [(0, .ref (gA g 0)), (1, .int l1), (2, .int l2), (3, .int s0.2.1), (4, .int s0.2.2)] []) ?_ nf s0 hl
  intro s1 y hf hk hx
  have hx0 : ∀ v : (ST × Int32), y = Sum.inr (.inl v) → V p l e 6 0 s m args below meth c Q KC 395 g B 6 0 v.1 142 [(3, .int v.2)] [] := fun v e9 => hX0 v (hx _ e9).symm
  have hx1 : ∀ v : (ST × Int32), y = Sum.inr (.inr v) → V p l e 6 0 s m args below meth c Q KC 395 g B 6 0 v.1 151 [(3, .int v.2)] [] := fun v e9 => hX1 v (hx _ e9).symm
  unfold fX10_findOrder_33 at hf
  refine v_iload (pc := 33) (j := 4) F dX10_findOrder_33 rfl ?_
  refine v_bipush (pc := 35) (v := 120) F dX10_findOrder_35 bp_120 ?_
  refine v_icmp_ge (pc := 37) (tgt := 151) F dX10_findOrder_37 (by decide) (fun c8 => ?_) (fun c8 => ?_)
  · have hf := ite_t hf c8
    refine V.sub (lv' := [(3, .int s1.2.1)]) [3] rfl ?_
    exact hx1 (s1.1, s1.2.1) (Option.some.inj hf).symm
  · have hf := ite_f hf c8
    refine v_aload_n (pc := 40) (j := 0) F dX10_findOrder_40 rfl rfl ?_
    refine v_ifl (pc := 41) F fl_X10_56 dX10_findOrder_41 kc_0.1 kc_0.2 fv_9_9 ?_
    refine v_aload_n (pc := 44) (j := 0) F dX10_findOrder_44 rfl rfl ?_
    refine v_ifl (pc := 45) F fl_X10_42 dX10_findOrder_45 kc_0.1 kc_0.2 fv_9_6 ?_
    refine v_ifl (pc := 48) F fl_X10_122 dX10_findOrder_48 kc_42.1 kc_42.2 fv_2_0 ?_
    obtain ⟨r9, e10, hf⟩ := bnd_some hf
    refine v_callVv (pc := 51) (As := [.ref (gA g 43)]) F cl_X10_241 dX10_findOrder_51 (kX8_copy kc_386.1 kc_386.2 kc_43.1 kc_43.2 e10) kc_386.1 kc_386.2 rc_7 rfl rfl (Nat.le_of_ble_eq_true rfl) (by decide) (Nat.zero_le _) ?_
    refine v_iconst (pc := 54) (v := 0) F dX10_findOrder_54 ic_0 ?_
    refine v_istore (pc := 55) (lv' := [(0, .ref (gA g 0)), (1, .int l1), (2, .int l2), (3, .int s1.2.1), (4, .int s1.2.2), (5, .int 0)]) F dX10_findOrder_55 (by decide) rfl ?_
    obtain ⟨x20, e21, hf⟩ := bnd_some hf
    refine tX10_findOrder_57 (s0 := (r9, 0)) F ?_ e21
    refine v_aload_n (pc := 94) (j := 0) F dX10_findOrder_94 rfl rfl ?_
    refine v_ifl (pc := 95) F fl_X10_56 dX10_findOrder_95 kc_0.1 kc_0.2 fv_9_9 ?_
    refine v_ifl (pc := 98) F fl_X10_171 dX10_findOrder_98 kc_386.1 kc_386.2 fv_7_3 ?_
    refine v_iload_n (pc := 101) (j := 1) F dX10_findOrder_101 rfl rfl ?_
    obtain ⟨v22, e23, hf⟩ := bnd_some hf
    refine v_iald (pc := 102) F dX10_findOrder_102 kc_387.1 kc_387.2 e23 ?_
    refine v_iload_n (pc := 103) (j := 3) F dX10_findOrder_103 rfl rfl ?_
    refine v_icmp_le (pc := 104) (tgt := 131) F dX10_findOrder_104 (by decide) (fun c24 => ?_) (fun c24 => ?_)
    · have hf := ite_t hf c24
      exact tX10_findOrder_131 F hk hx0 hx1 hf
    · have hf := ite_f hf c24
      refine v_aload_n (pc := 107) (j := 0) F dX10_findOrder_107 rfl rfl ?_
      refine v_ifl (pc := 108) F fl_X10_56 dX10_findOrder_108 kc_0.1 kc_0.2 fv_9_9 ?_
      refine v_ifl (pc := 111) F fl_X10_171 dX10_findOrder_111 kc_386.1 kc_386.2 fv_7_3 ?_
      refine v_iload_n (pc := 114) (j := 1) F dX10_findOrder_114 rfl rfl ?_
      obtain ⟨v28, e29, hf⟩ := bnd_some hf
      refine v_iald (pc := 115) F dX10_findOrder_115 kc_387.1 kc_387.2 e29 ?_
      refine v_istore_n (pc := 116) (lv' := [(0, .ref (gA g 0)), (1, .int l1), (2, .int l2), (3, .int v28), (4, .int s1.2.2)]) F dX10_findOrder_116 rfl (by decide) rfl ?_
      refine v_aload_n (pc := 117) (j := 0) F dX10_findOrder_117 rfl rfl ?_
      refine v_ifl (pc := 118) F fl_X10_60 dX10_findOrder_118 kc_0.1 kc_0.2 fv_9_10 ?_
      refine v_iconst (pc := 121) (v := 0) F dX10_findOrder_121 ic_0 ?_
      refine v_aload_n (pc := 122) (j := 0) F dX10_findOrder_122 rfl rfl ?_
      refine v_ifl (pc := 123) F fl_X10_64 dX10_findOrder_123 kc_0.1 kc_0.2 fv_9_11 ?_
      refine v_iconst (pc := 126) (v := 0) F dX10_findOrder_126 ic_0 ?_
      refine v_iconst (pc := 127) (v := 5) F dX10_findOrder_127 ic_5 ?_
      obtain ⟨h30, e31, hf⟩ := bnd_some hf
      refine v_copy (pc := 128) F tw_1074 acpW dX10_findOrder_128 kc_390.1 kc_390.2 kc_391.1 kc_391.2 e31 (by decide) (Nat.le_of_ble_eq_true rfl) ?_
      exact tX10_findOrder_131 F hk hx0 hx1 hf
set_option maxRecDepth 100000 in
set_option maxHeartbeats 4000000 in
theorem tX10_findOrder_151 {p : Program} {l : Launch} {e : Env} {s : State} {m : MethodId} {args : Array Value} {below : List Frame} {meth : Method} {c : Code} {g : GE} {B : Nat} {h : ST}  {l3 : Int32} (F : Fx p s m args meth c cX10_findOrder 6 "DustParish" 395 g B)
    {y : Int32 × ST} (hr : meth.sig.returnType = (some .int)) (hf : fX10_findOrder_151 h l3 = some y) : V p l e 6 0 s m args below meth c (MQ below (QO KC 395 g (some (.int y.1)) y.2) args s 0 (6 * 0) (WA 395 g)) KC 395 g B 6 0 h 151 [(3, .int l3)] [] := by
  unfold fX10_findOrder_151 at hf
  refine v_iload_n (pc := 151) (j := 0) F dX10_findOrder_151 rfl rfl ?_
  exact v_iret (pc := 152) F hr dX10_findOrder_152 (some_fst hf) (some_snd hf) (Nat.zero_le _)
set_option maxRecDepth 100000 in
set_option maxHeartbeats 4000000 in
theorem kX10_findOrder {l : Launch} {g : GE} {B : Nat} {h : ST} {a1 : Int32} {y : Int32 × ST} (hf : fX10_findOrder h a1 = some y) : CT l yX10_findOrder cX10_findOrder 6 (some .int) 6 KC 395 g B [.ref (gA g 0), .int a1] h (some (.int y.1)) y.2 := by
  refine CT.of pn_X10 (Nat.le_of_ble_eq_true rfl) ?_
  intro p e s m below meth c hr F
  have F : Fx p s m _ meth c cX10_findOrder 6 "DustParish" 395 g B := F
  refine V_lv (lv' := [(0, .ref (gA g 0)), (1, .int a1)]) rfl ?_
  unfold fX10_findOrder at hf
  refine v_aload_n (pc := 0) (j := 0) F dX10_findOrder_0 rfl rfl ?_
  obtain ⟨f1, e2, hf⟩ := bnd_some hf
  obtain ⟨ho_f1, hk_f1, e2⟩ := rf_in e2
  refine v_ifl (pc := 1) F fl_X10_23 dX10_findOrder_1 kc_0.1 kc_0.2 (fv_9_3 e2) ?_
  refine v_ifl (pc := 4) F fl_X10_110 dX10_findOrder_4 ho_f1 hk_f1 fv_1_8 ?_
  refine v_istore_n (pc := 7) (lv' := [(0, .ref (gA g 0)), (1, .int a1), (2, .int (h f1 8))]) F dX10_findOrder_7 rfl (by decide) rfl ?_
  refine v_iconst (pc := 8) (v := 0) F dX10_findOrder_8 ic_0 ?_
  refine v_istore_n (pc := 9) (lv' := [(0, .ref (gA g 0)), (1, .int a1), (2, .int (h f1 8)), (3, .int 0)]) F dX10_findOrder_9 rfl (by decide) rfl ?_
  obtain ⟨x6, e7, hf⟩ := bnd_some hf
  refine tX10_findOrder_10 (s0 := (h, 0)) F ?_ e7
  refine v_iconst (pc := 28) (v := (-1)) F dX10_findOrder_28 ic_m1 ?_
  refine v_istore_n (pc := 29) (lv' := [(0, .ref (gA g 0)), (1, .int a1), (2, .int (h f1 8)), (3, .int (-1))]) F dX10_findOrder_29 rfl (by decide) rfl ?_
  refine v_iconst (pc := 30) (v := 0) F dX10_findOrder_30 ic_0 ?_
  refine v_istore (pc := 31) (lv' := [(0, .ref (gA g 0)), (1, .int a1), (2, .int (h f1 8)), (3, .int (-1)), (4, .int 0)]) F dX10_findOrder_31 (by decide) rfl ?_
  obtain ⟨x32, e33, hf⟩ := bnd_some hf
  refine tX10_findOrder_33 (s0 := (x6, (-1), 0)) F (fun v e9 => ?_) (fun v e9 => ?_) e33
  · subst e9
    have hf := sm_l hf
    refine v_goto (pc := 142) (tgt := 151) F dX10_findOrder_142 (by decide) ?_
    exact tX10_findOrder_151 F hr hf
  · subst e9
    have hf := sm_r hf
    exact tX10_findOrder_151 F hr hf
def fX10_forget (h : ST) : Option (ST) :=
  bnd (pw h 209 0 0) fun h1 =>
  some h1
set_option maxRecDepth 100000 in
set_option maxHeartbeats 4000000 in
theorem kX10_forget {l : Launch} {g : GE} {B : Nat} {h : ST} {y : ST} (hf : fX10_forget h = some y) : CT l yX10_forget cX10_forget 1 none 1 KC 395 g B [.ref (gA g 0)] h none y := by
  refine CT.of pn_X10 (Nat.le_of_ble_eq_true rfl) ?_
  intro p e s m below meth c hr F
  have F : Fx p s m _ meth c cX10_forget 1 "DustParish" 395 g B := F
  refine V_lv (lv' := [(0, .ref (gA g 0))]) rfl ?_
  unfold fX10_forget at hf
  refine v_aload_n (pc := 0) (j := 0) F dX10_forget_0 rfl rfl ?_
  refine v_ifl (pc := 1) F fl_X10_42 dX10_forget_1 kc_0.1 kc_0.2 fv_9_6 ?_
  refine v_ifl (pc := 4) F fl_X10_152 dX10_forget_4 kc_42.1 kc_42.2 fv_2_2 ?_
  refine v_iconst (pc := 7) (v := 0) F dX10_forget_7 ic_0 ?_
  obtain ⟨h1, e2, hf⟩ := bnd_some hf
  refine v_pfl (pc := 8) F fl_X10_156 pl_6_0 dX10_forget_8 kc_209.1 kc_209.2 fv_6_0 rfl rfl e2 ?_
  exact v_vret (pc := 11) F hr dX10_forget_11 (Option.some.inj hf) (Nat.zero_le _)
def fJ7_fill_53178_5 (o1 : Nat) (n_o1 : Nat) (l1 : Int32) (l3 : Int32) (s1 : (ST × Int32)) : Option ((ST × Int32) ⊕ ST) :=
  if l3 ≤ s1.2 then
  some (.inr s1.1)
  else
  bnd (wr n_o1 s1.1 o1 s1.2 l1) fun h2 =>
    some (.inl (h2, s1.2 + 1))
def fJ7_fill_53178 (h : ST) (o1 : Nat) (n_o1 : Nat) (a2 : Int32) : Option (ST) :=
  bnd (lp FU (fJ7_fill_53178_5 o1 n_o1 a2 (Int32.ofNat n_o1)) (h, 0)) fun x4 =>
  some x4
set_option maxRecDepth 100000 in
set_option maxHeartbeats 4000000 in
theorem tJ7_fill_53178_5 {p : Program} {l : Launch} {e : Env} {s : State} {m : MethodId} {args : Array Value} {below : List Frame} {meth : Method} {c : Code} {g : GE} {B : Nat}  {o1 n_o1 : Nat} (ho_o1 : o1 < 395) (hk_o1 : KC o1 = (20, n_o1)) {l1 : Int32} {l3 : Int32} {Q : State → Prop} {x : ST} {nf : Nat} {s0 : (ST × Int32)} (F : Fx p s m args meth c cJ7_fill_53178 4 "java/util/Arrays" 395 g B) (hX0 : V p l e 1 0 s m args below meth c Q KC 395 g B 4 0 x 20 [] []) (hl : lp nf (fJ7_fill_53178_5 o1 n_o1 l1 l3) s0 = some x) : V p l e 1 0 s m args below meth c Q KC 395 g B 4 0 s0.1 5 [(0, .ref (gA g o1)), (1, .int l1), (2, .int s0.2), (3, .int l3)] [] := by
  refine lp_ind (P := fun s0 => V p l e 1 0 s m args below meth c Q KC 395 g B 4 0 s0.1 5 [(0, .ref (gA g o1)), (1, .int l1), (2, .int s0.2), (3, .int l3)] []) ?_ nf s0 hl
  intro s1 y hf hk hx
  have hx0 : ∀ v : ST, y = Sum.inr v → V p l e 1 0 s m args below meth c Q KC 395 g B 4 0 v 20 [] [] := fun v e9 => by rw [hx v e9]; exact hX0
  unfold fJ7_fill_53178_5 at hf
  refine v_iload_n (pc := 5) (j := 2) F dJ7_fill_53178_5 rfl rfl ?_
  refine v_iload_n (pc := 6) (j := 3) F dJ7_fill_53178_6 rfl rfl ?_
  refine v_icmp_ge (pc := 7) (tgt := 20) F dJ7_fill_53178_7 (by decide) (fun c1 => ?_) (fun c1 => ?_)
  · have hf := ite_t hf c1
    refine V.sub (lv' := []) [] rfl ?_
    exact hx0 s1.1 (Option.some.inj hf).symm
  · have hf := ite_f hf c1
    refine v_aload_n (pc := 10) (j := 0) F dJ7_fill_53178_10 rfl rfl ?_
    refine v_iload_n (pc := 11) (j := 2) F dJ7_fill_53178_11 rfl rfl ?_
    refine v_iload_n (pc := 12) (j := 1) F dJ7_fill_53178_12 rfl rfl ?_
    obtain ⟨h2, e3, hf⟩ := bnd_some hf
    refine v_iast (pc := 13) F dJ7_fill_53178_13 ho_o1 hk_o1 e3 ?_
    refine v_iinc (pc := 14) (j := 2) (v := s1.2 + 1) (lv' := [(0, .ref (gA g o1)), (1, .int l1), (2, .int (s1.2 + 1)), (3, .int l3)]) F dJ7_fill_53178_14 rfl (congrArg (fun z => s1.2 + z) ic_1) (by decide) rfl ?_
    refine v_goto (pc := 17) (tgt := 5) F dJ7_fill_53178_17 (by decide) ?_
    exact hk (h2, s1.2 + 1) (Option.some.inj hf).symm
set_option maxRecDepth 100000 in
set_option maxHeartbeats 4000000 in
theorem kJ7_fill_53178 {l : Launch} {g : GE} {B : Nat} {h : ST} {o1 n_o1 : Nat} (ho_o1 : o1 < 395) (hk_o1 : KC o1 = (20, n_o1)) {a2 : Int32} {y : ST} (hf : fJ7_fill_53178 h o1 n_o1 a2 = some y) : CT l yJ7_fill_53178 cJ7_fill_53178 4 none 1 KC 395 g B [.ref (gA g o1), .int a2] h none y := by
  refine CT.of pn_J7 (Nat.le_of_ble_eq_true rfl) ?_
  intro p e s m below meth c hr F
  have F : Fx p s m _ meth c cJ7_fill_53178 4 "java/util/Arrays" 395 g B := F
  refine V_lv (lv' := [(0, .ref (gA g o1)), (1, .int a2)]) rfl ?_
  unfold fJ7_fill_53178 at hf
  refine v_iconst (pc := 0) (v := 0) F dJ7_fill_53178_0 ic_0 ?_
  refine v_istore_n (pc := 1) (lv' := [(0, .ref (gA g o1)), (1, .int a2), (2, .int 0)]) F dJ7_fill_53178_1 rfl (by decide) rfl ?_
  refine v_aload_n (pc := 2) (j := 0) F dJ7_fill_53178_2 rfl rfl ?_
  refine v_alen (pc := 3) (v := Int32.ofNat n_o1) F dJ7_fill_53178_3 ho_o1 hk_o1 (by decide) (by decide) rfl ?_
  refine v_istore_n (pc := 4) (lv' := [(0, .ref (gA g o1)), (1, .int a2), (2, .int 0), (3, .int (Int32.ofNat n_o1))]) F dJ7_fill_53178_4 rfl (by decide) rfl ?_
  obtain ⟨x4, e5, hf⟩ := bnd_some hf
  refine tJ7_fill_53178_5 (s0 := (h, 0)) ho_o1 hk_o1 F ?_ e5
  exact v_vret (pc := 20) F hr dJ7_fill_53178_20 (Option.some.inj hf) (Nat.zero_le _)
def fX10_from_20 (h : ST)  : Option ((Int32 ⊕ Nat) × ST) :=
  some (.inr 2, h)
def fX10_from_48 (l2 : Int32) (l3 : Int32) (s1 : (ST × Int32)) : Option ((ST × Int32) ⊕ ST) :=
  if l3 ≤ s1.2 then
  some (.inr s1.1)
  else
  bnd (rf KC 395 1 (s1.1 0 3)) fun f12 =>
    bnd (fX1_windOf s1.1 f12 43 ((s1.1 43 0) + s1.2)) fun r14 =>
    bnd (fX10_carryGrains s1.1 r14) fun r16 =>
    some (.inl (r16, s1.2 + 1))
def fX10_from (h : ST) (a1 : Int32) (a2 : Int32) (a3 : Int32) : Option ((Int32 ⊕ Nat) × ST) :=
  bnd (fX10_needRoom h a1) fun r1 =>
  sm r1 (fun _ => bnd (fX10_needRoom h a2) fun r3 =>
  sm r3 (fun _ => if a3 < 0 then
  fX10_from_20 h 
  else
  if a3 ≤ 9 then
    bnd (fJ7_fill_53178 h 392 9 0) fun r7 =>
      bnd (wr 9 r7 392 a1 10000) fun h9 =>
      bnd (lp FU (fX10_from_48 a2 a3) (h9, 0)) fun x18 =>
      bnd (rd 9 (x18 392) a2) fun v20 =>
      some (.inl v20, x18)
    else
    fX10_from_20 h ) (fun r3 => some (.inr r3, h))) (fun r1 => some (.inr r1, h))
set_option maxRecDepth 100000 in
set_option maxHeartbeats 4000000 in
theorem tX10_from_20 {p : Program} {l : Launch} {e : Env} {s : State} {m : MethodId} {args : Array Value} {below : List Frame} {meth : Method} {c : Code} {g : GE} {B : Nat} {h : ST}  (F : Fx p s m args meth c cX10_from 5 "DustParish" 395 g B)
    {y : (Int32 ⊕ Nat) × ST} (hr : meth.sig.returnType = (some .int)) (hT : l.stackTraces = false) (hex : ∀ x ∈ c.exceptionTable.toList, False) (hf : fX10_from_20 h  = some y) : V p l e 9 3 s m args below meth c (vx_MQ below (QX KC 395 g (ocI y.1) y.2) (XX KC 395 g (ocI y.1) y.2) args s 3 (6 * 3) (WA 395 g)) KC 395 g B 5 2 h 20 [] [] := by
  unfold fX10_from_20 at hf
  exact v_throw0 (pc := 20) (E := xIA) F hT xw_IA hex dX10_from_20 dX10_from_23 dX10_from_24 dX10_from_27 (congrArg ocI (some_fst hf)) (some_snd hf) (by decide) (Nat.le_of_ble_eq_true rfl) (by decide)
set_option maxRecDepth 100000 in
set_option maxHeartbeats 4000000 in
theorem tX10_from_48 {p : Program} {l : Launch} {e : Env} {s : State} {m : MethodId} {args : Array Value} {below : List Frame} {meth : Method} {c : Code} {g : GE} {B : Nat}   {l2 : Int32} {l3 : Int32} {Q : State → Prop} {x : ST} {nf : Nat} {s0 : (ST × Int32)} (F : Fx p s m args meth c cX10_from 5 "DustParish" 395 g B) (hX0 : V p l e 9 3 s m args below meth c Q KC 395 g B 5 2 x 91 [(0, .ref (gA g 0)), (2, .int l2)] []) (hl : lp nf (fX10_from_48 l2 l3) s0 = some x) : V p l e 9 3 s m args below meth c Q KC 395 g B 5 2 s0.1 48 [(0, .ref (gA g 0)), (2, .int l2), (3, .int l3), (4, .int s0.2)] [] := by
  refine lp_ind (P := fun s0 => V p l e 9 3 s m args below meth c Q KC 395 g B 5 2 s0.1 48 [(0, .ref (gA g 0)), (2, .int l2), (3, .int l3), (4, .int s0.2)] []) ?_ nf s0 hl
  intro s1 y hf hk hx
  have hx0 : ∀ v : ST, y = Sum.inr v → V p l e 9 3 s m args below meth c Q KC 395 g B 5 2 v 91 [(0, .ref (gA g 0)), (2, .int l2)] [] := fun v e9 => by rw [hx v e9]; exact hX0
  unfold fX10_from_48 at hf
  refine v_iload (pc := 48) (j := 3) F dX10_from_48 rfl ?_
  refine v_iload_n (pc := 50) (j := 2) F dX10_from_50 rfl rfl ?_
  refine v_icmp_ge (pc := 51) (tgt := 91) F dX10_from_51 (by decide) (fun c11 => ?_) (fun c11 => ?_)
  · have hf := ite_t hf c11
    refine V.sub (lv' := [(0, .ref (gA g 0)), (2, .int l2)]) [0, 1] rfl ?_
    exact hx0 s1.1 (Option.some.inj hf).symm
  · have hf := ite_f hf c11
    refine v_aload_n (pc := 54) (j := 0) F dX10_from_54 rfl rfl ?_
    refine v_aload_n (pc := 55) (j := 0) F dX10_from_55 rfl rfl ?_
    obtain ⟨f12, e13, hf⟩ := bnd_some hf
    obtain ⟨ho_f12, hk_f12, e13⟩ := rf_in e13
    refine v_ifl (pc := 56) F fl_X10_23 dX10_from_56 kc_0.1 kc_0.2 (fv_9_3 e13) ?_
    refine v_aload_n (pc := 59) (j := 0) F dX10_from_59 rfl rfl ?_
    refine v_ifl (pc := 60) F fl_X10_42 dX10_from_60 kc_0.1 kc_0.2 fv_9_6 ?_
    refine v_ifl (pc := 63) F fl_X10_122 dX10_from_63 kc_42.1 kc_42.2 fv_2_0 ?_
    refine v_aload_n (pc := 66) (j := 0) F dX10_from_66 rfl rfl ?_
    refine v_ifl (pc := 67) F fl_X10_42 dX10_from_67 kc_0.1 kc_0.2 fv_9_6 ?_
    refine v_ifl (pc := 70) F fl_X10_122 dX10_from_70 kc_42.1 kc_42.2 fv_2_0 ?_
    refine v_ifl (pc := 73) F fl_X10_125 dX10_from_73 kc_43.1 kc_43.2 fv_7_0 ?_
    refine v_iload (pc := 76) (j := 3) F dX10_from_76 rfl ?_
    refine v_iadd (pc := 78) F dX10_from_78 ?_
    obtain ⟨r14, e15, hf⟩ := bnd_some hf
    refine v_callSi (pc := 79) (As := [.ref (gA g f12), .ref (gA g 43), .int ((s1.1 43 0) + s1.2)]) F cl_X10_204 dX10_from_79 (kX1_windOf ho_f12 hk_f12 kc_43.1 kc_43.2 e15) rfl rfl (Nat.le_of_ble_eq_true rfl) (by decide) (by decide) ?_
    obtain ⟨r16, e17, hf⟩ := bnd_some hf
    refine v_callVv (pc := 82) (As := [.int r14]) F cl_X10_303 dX10_from_82 (kX10_carryGrains e17) kc_0.1 kc_0.2 rc_9 rfl rfl (Nat.le_of_ble_eq_true rfl) (by decide) (by decide) ?_
    refine v_iinc (pc := 85) (j := 3) (v := s1.2 + 1) (lv' := [(0, .ref (gA g 0)), (2, .int l2), (3, .int l3), (4, .int (s1.2 + 1))]) F dX10_from_85 rfl (congrArg (fun z => s1.2 + z) ic_1) (by decide) rfl ?_
    refine v_goto (pc := 88) (tgt := 48) F dX10_from_88 (by decide) ?_
    exact hk (r16, s1.2 + 1) (Option.some.inj hf).symm
set_option maxRecDepth 100000 in
set_option maxHeartbeats 4000000 in
theorem kX10_from {l : Launch} {g : GE} {B : Nat} {h : ST} {a1 : Int32} {a2 : Int32} {a3 : Int32} {y : (Int32 ⊕ Nat) × ST} (hT : l.stackTraces = false) (hf : fX10_from h a1 a2 a3 = some y) : XT l yX10_from cX10_from 5 (some .int) 9 3 KC 395 g B [.ref (gA g 0), .int a1, .int a2, .int a3] h (ocI y.1) y.2 := by
  refine XT.of pn_X10 (Nat.le_of_ble_eq_true rfl) ?_
  intro p e s m below meth c hr hex F
  have F : Fx p s m _ meth c cX10_from 5 "DustParish" 395 g B := F
  refine V_lv (lv' := [(0, .ref (gA g 0)), (1, .int a1), (2, .int a2), (3, .int a3)]) rfl ?_
  unfold fX10_from at hf
  refine v_aload_n (pc := 0) (j := 0) F dX10_from_0 rfl rfl ?_
  refine v_iload_n (pc := 1) (j := 1) F dX10_from_1 rfl rfl ?_
  obtain ⟨r1, e2, hf⟩ := bnd_some hf
  rcases r1 with v9 | r1
  · have hf := sm_l hf
    refine v_xcallV (pc := 2) (As := [.int a1]) F cl_X10_162 dX10_from_2 (kX10_needRoom hT e2) kc_0.1 kc_0.2 rc_9 rfl rfl (Nat.le_of_ble_eq_true rfl) (by decide) (by decide) ?_
    refine v_aload_n (pc := 5) (j := 0) F dX10_from_5 rfl rfl ?_
    refine v_iload_n (pc := 6) (j := 2) F dX10_from_6 rfl rfl ?_
    obtain ⟨r3, e4, hf⟩ := bnd_some hf
    rcases r3 with v9 | r3
    · have hf := sm_l hf
      refine v_xcallV (pc := 7) (As := [.int a2]) F cl_X10_162 dX10_from_7 (kX10_needRoom hT e4) kc_0.1 kc_0.2 rc_9 rfl rfl (Nat.le_of_ble_eq_true rfl) (by decide) (by decide) ?_
      refine v_iload_n (pc := 10) (j := 3) F dX10_from_10 rfl rfl ?_
      refine v_if_lt (pc := 11) (tgt := 20) F dX10_from_11 (by decide) (fun c5 => ?_) (fun c5 => ?_)
      · have hf := ite_t hf c5
        refine V.sub (lv' := []) [] rfl ?_
        exact tX10_from_20 F hr hT hex hf
      · have hf := ite_f hf c5
        refine v_iload_n (pc := 14) (j := 3) F dX10_from_14 rfl rfl ?_
        refine v_bipush (pc := 15) (v := 9) F dX10_from_15 bp_9 ?_
        refine v_icmp_le (pc := 17) (tgt := 28) F dX10_from_17 (by decide) (fun c6 => ?_) (fun c6 => ?_)
        · have hf := ite_t hf c6
          refine v_aload_n (pc := 28) (j := 0) F dX10_from_28 rfl rfl ?_
          refine v_ifl (pc := 29) F fl_X10_67 dX10_from_29 kc_0.1 kc_0.2 fv_9_12 ?_
          refine v_iconst (pc := 32) (v := 0) F dX10_from_32 ic_0 ?_
          obtain ⟨r7, e8, hf⟩ := bnd_some hf
          refine v_callSv (pc := 33) (As := [.ref (gA g 392), .int 0]) F cl_X10_282 dX10_from_33 (kJ7_fill_53178 kc_392.1 kc_392.2 e8) rfl rfl (Nat.le_of_ble_eq_true rfl) (by decide) (by decide) ?_
          refine v_aload_n (pc := 36) (j := 0) F dX10_from_36 rfl rfl ?_
          refine v_ifl (pc := 37) F fl_X10_67 dX10_from_37 kc_0.1 kc_0.2 fv_9_12 ?_
          refine v_iload_n (pc := 40) (j := 1) F dX10_from_40 rfl rfl ?_
          refine v_sipush (pc := 41) (v := 10000) F dX10_from_41 sp_10000 ?_
          obtain ⟨h9, e10, hf⟩ := bnd_some hf
          refine v_iast (pc := 44) F dX10_from_44 kc_392.1 kc_392.2 e10 ?_
          refine v_iconst (pc := 45) (v := 0) F dX10_from_45 ic_0 ?_
          refine v_istore (pc := 46) (lv' := [(0, .ref (gA g 0)), (1, .int a1), (2, .int a2), (3, .int a3), (4, .int 0)]) F dX10_from_46 (by decide) rfl ?_
          obtain ⟨x18, e19, hf⟩ := bnd_some hf
          refine V.sub (lv' := [(0, .ref (gA g 0)), (2, .int a2), (3, .int a3), (4, .int 0)]) [0, 2, 3, 4] rfl ?_
          refine tX10_from_48 (s0 := (h9, 0)) F ?_ e19
          refine v_aload_n (pc := 91) (j := 0) F dX10_from_91 rfl rfl ?_
          refine v_ifl (pc := 92) F fl_X10_67 dX10_from_92 kc_0.1 kc_0.2 fv_9_12 ?_
          refine v_iload_n (pc := 95) (j := 1) F dX10_from_95 rfl rfl ?_
          obtain ⟨v20, e21, hf⟩ := bnd_some hf
          refine v_iald (pc := 96) F dX10_from_96 kc_392.1 kc_392.2 e21 ?_
          exact v_xiret (pc := 97) F hr dX10_from_97 (some_fst hf) (some_snd hf) (by decide)
        · have hf := ite_f hf c6
          refine V.sub (lv' := []) [] rfl ?_
          exact tX10_from_20 F hr hT hex hf
    · have hf := sm_r hf
      exact v_xcallX (pc := 7) (As := [.int a2]) F cl_X10_162 dX10_from_7 (kX10_needRoom hT e4) kc_0.1 kc_0.2 rc_9 rfl rfl (Nat.le_of_ble_eq_true rfl) (by decide) (by decide) hex (congrArg ocI (some_fst hf)) (some_snd hf)
  · have hf := sm_r hf
    exact v_xcallX (pc := 2) (As := [.int a1]) F cl_X10_162 dX10_from_2 (kX10_needRoom hT e2) kc_0.1 kc_0.2 rc_9 rfl rfl (Nat.le_of_ble_eq_true rfl) (by decide) (by decide) hex (congrArg ocI (some_fst hf)) (some_snd hf)
def fX10_fullest_78 (h : ST) (l1 : Int32) (l2 : Int32) (l3 : Int32) (l4 : Int32) : Option ((ST × Int32 × Int32 × Int32) ⊕ (ST × Int32)) :=
  some (.inl (h, l2, l3, l4 + 1))
def fX10_fullest_35 (l1 : Int32) (s1 : (ST × Int32 × Int32 × Int32)) : Option ((ST × Int32 × Int32 × Int32) ⊕ (ST × Int32)) :=
  if l1 < s1.2.2.2 then
  some (.inr (s1.1, s1.2.1))
  else
  bnd (rf KC 395 1 (s1.1 0 3)) fun f10 =>
    bnd (fX1_passMany s1.1 f10 386 1) fun r12 =>
    bnd (rf KC 395 1 (r12 0 3)) fun f14 =>
    bnd (fX1_dustInAll r12 f14 386) fun r16 =>
    if r16 ≤ s1.2.2.1 then
    fX10_fullest_78 r12 l1 s1.2.1 s1.2.2.1 s1.2.2.2
    else
    fX10_fullest_78 r12 l1 s1.2.2.2 r16 s1.2.2.2
def fX10_fullest (h : ST) (a1 : Int32) : Option ((Int32 ⊕ Nat) × ST) :=
  bnd (fX10_needAhead h a1) fun r1 =>
  sm r1 (fun _ => bnd (fX8_copy h 386 43) fun r3 =>
  bnd (rf KC 395 1 (r3 0 3)) fun f5 =>
  bnd (fX1_dustInAll r3 f5 386) fun r7 =>
  bnd (lp FU (fX10_fullest_35 a1) (r3, 0, r7, 1)) fun x19 =>
  some (.inl x19.2, x19.1)) (fun r1 => some (.inr r1, h))
set_option maxRecDepth 100000 in
set_option maxHeartbeats 4000000 in
theorem tX10_fullest_78 {p : Program} {l : Launch} {e : Env} {s : State} {m : MethodId} {args : Array Value} {below : List Frame} {meth : Method} {c : Code} {g : GE} {B : Nat} {h : ST}  {l1 : Int32} {l2 : Int32} {l3 : Int32} {l4 : Int32} (F : Fx p s m args meth c cX10_fullest 6 "DustParish" 395 g B)
    {Q : State → Prop} {y : (ST × Int32 × Int32 × Int32) ⊕ (ST × Int32)} (hk : ∀ v : (ST × Int32 × Int32 × Int32), y = Sum.inl v → V p l e 9 1 s m args below meth c Q KC 395 g B 6 1 v.1 35 [(0, .ref (gA g 0)), (1, .int l1), (2, .int v.2.1), (3, .int v.2.2.1), (4, .int v.2.2.2)] []) (hx0 : ∀ v : (ST × Int32), y = Sum.inr v → V p l e 9 1 s m args below meth c Q KC 395 g B 6 1 v.1 84 [(2, .int v.2)] []) (hf : fX10_fullest_78 h l1 l2 l3 l4 = some y) : V p l e 9 1 s m args below meth c Q KC 395 g B 6 1 h 78 [(0, .ref (gA g 0)), (1, .int l1), (2, .int l2), (3, .int l3), (4, .int l4)] [] := by
  unfold fX10_fullest_78 at hf
  refine v_iinc (pc := 78) (j := 4) (v := l4 + 1) (lv' := [(0, .ref (gA g 0)), (1, .int l1), (2, .int l2), (3, .int l3), (4, .int (l4 + 1))]) F dX10_fullest_78 rfl (congrArg (fun z => l4 + z) ic_1) (by decide) rfl ?_
  refine v_goto (pc := 81) (tgt := 35) F dX10_fullest_81 (by decide) ?_
  exact hk (h, l2, l3, l4 + 1) (Option.some.inj hf).symm
set_option maxRecDepth 100000 in
set_option maxHeartbeats 4000000 in
theorem tX10_fullest_35 {p : Program} {l : Launch} {e : Env} {s : State} {m : MethodId} {args : Array Value} {below : List Frame} {meth : Method} {c : Code} {g : GE} {B : Nat}   {l1 : Int32} {Q : State → Prop} {x : (ST × Int32)} {nf : Nat} {s0 : (ST × Int32 × Int32 × Int32)} (F : Fx p s m args meth c cX10_fullest 6 "DustParish" 395 g B) (hX0 : V p l e 9 1 s m args below meth c Q KC 395 g B 6 1 x.1 84 [(2, .int x.2)] []) (hl : lp nf (fX10_fullest_35 l1) s0 = some x) : V p l e 9 1 s m args below meth c Q KC 395 g B 6 1 s0.1 35 [(0, .ref (gA g 0)), (1, .int l1), (2, .int s0.2.1), (3, .int s0.2.2.1), (4, .int s0.2.2.2)] [] := by
  refine lp_ind (P := fun s0 => V p l e 9 1 s m args below meth c Q KC 395 g B 6 1 s0.1 35 [(0, .ref (gA g 0)), (1, .int l1), (2, .int s0.2.1), (3, .int s0.2.2.1), (4, .int s0.2.2.2)] []) ?_ nf s0 hl
  intro s1 y hf hk hx
  have hx0 : ∀ v : (ST × Int32), y = Sum.inr v → V p l e 9 1 s m args below meth c Q KC 395 g B 6 1 v.1 84 [(2, .int v.2)] [] := fun v e9 => by rw [hx v e9]; exact hX0
  unfold fX10_fullest_35 at hf
  refine v_iload (pc := 35) (j := 4) F dX10_fullest_35 rfl ?_
  refine v_iload_n (pc := 37) (j := 1) F dX10_fullest_37 rfl rfl ?_
  refine v_icmp_gt (pc := 38) (tgt := 84) F dX10_fullest_38 (by decide) (fun c9 => ?_) (fun c9 => ?_)
  · have hf := ite_t hf c9
    refine V.sub (lv' := [(2, .int s1.2.1)]) [2] rfl ?_
    exact hx0 (s1.1, s1.2.1) (Option.some.inj hf).symm
  · have hf := ite_f hf c9
    refine v_aload_n (pc := 41) (j := 0) F dX10_fullest_41 rfl rfl ?_
    obtain ⟨f10, e11, hf⟩ := bnd_some hf
    obtain ⟨ho_f10, hk_f10, e11⟩ := rf_in e11
    refine v_ifl (pc := 42) F fl_X10_23 dX10_fullest_42 kc_0.1 kc_0.2 (fv_9_3 e11) ?_
    refine v_aload_n (pc := 45) (j := 0) F dX10_fullest_45 rfl rfl ?_
    refine v_ifl (pc := 46) F fl_X10_56 dX10_fullest_46 kc_0.1 kc_0.2 fv_9_9 ?_
    refine v_iconst (pc := 49) (v := 1) F dX10_fullest_49 ic_1 ?_
    obtain ⟨r12, e13, hf⟩ := bnd_some hf
    refine v_callSv (pc := 50) (As := [.ref (gA g f10), .ref (gA g 386), .int 1]) F cl_X10_214 dX10_fullest_50 (kX1_passMany ho_f10 hk_f10 kc_386.1 kc_386.2 e13) rfl rfl (Nat.le_of_ble_eq_true rfl) (by decide) (by decide) ?_
    refine v_aload_n (pc := 53) (j := 0) F dX10_fullest_53 rfl rfl ?_
    obtain ⟨f14, e15, hf⟩ := bnd_some hf
    obtain ⟨ho_f14, hk_f14, e15⟩ := rf_in e15
    refine v_ifl (pc := 54) F fl_X10_23 dX10_fullest_54 kc_0.1 kc_0.2 (fv_9_3 e15) ?_
    refine v_aload_n (pc := 57) (j := 0) F dX10_fullest_57 rfl rfl ?_
    refine v_ifl (pc := 58) F fl_X10_56 dX10_fullest_58 kc_0.1 kc_0.2 fv_9_9 ?_
    obtain ⟨r16, e17, hf⟩ := bnd_some hf
    refine v_callSi (pc := 61) (As := [.ref (gA g f14), .ref (gA g 386)]) F cl_X10_128 dX10_fullest_61 (kX1_dustInAll ho_f14 hk_f14 kc_386.1 kc_386.2 e17) rfl rfl (Nat.le_of_ble_eq_true rfl) (by decide) (by decide) ?_
    refine v_istore (pc := 64) (lv' := [(0, .ref (gA g 0)), (1, .int l1), (2, .int s1.2.1), (3, .int s1.2.2.1), (4, .int s1.2.2.2), (5, .int r16)]) F dX10_fullest_64 (by decide) rfl ?_
    refine v_iload (pc := 66) (j := 5) F dX10_fullest_66 rfl ?_
    refine v_iload_n (pc := 68) (j := 3) F dX10_fullest_68 rfl rfl ?_
    refine v_icmp_le (pc := 69) (tgt := 78) F dX10_fullest_69 (by decide) (fun c18 => ?_) (fun c18 => ?_)
    · have hf := ite_t hf c18
      refine V.sub (lv' := [(0, .ref (gA g 0)), (1, .int l1), (2, .int s1.2.1), (3, .int s1.2.2.1), (4, .int s1.2.2.2)]) [0, 1, 2, 3, 4] rfl ?_
      exact tX10_fullest_78 F hk hx0 hf
    · have hf := ite_f hf c18
      refine v_iload (pc := 72) (j := 5) F dX10_fullest_72 rfl ?_
      refine v_istore_n (pc := 74) (lv' := [(0, .ref (gA g 0)), (1, .int l1), (2, .int s1.2.1), (3, .int r16), (4, .int s1.2.2.2), (5, .int r16)]) F dX10_fullest_74 rfl (by decide) rfl ?_
      refine v_iload (pc := 75) (j := 4) F dX10_fullest_75 rfl ?_
      refine v_istore_n (pc := 77) (lv' := [(0, .ref (gA g 0)), (1, .int l1), (2, .int s1.2.2.2), (3, .int r16), (4, .int s1.2.2.2), (5, .int r16)]) F dX10_fullest_77 rfl (by decide) rfl ?_
      refine V.sub (lv' := [(0, .ref (gA g 0)), (1, .int l1), (2, .int s1.2.2.2), (3, .int r16), (4, .int s1.2.2.2)]) [0, 1, 2, 3, 4] rfl ?_
      exact tX10_fullest_78 F hk hx0 hf
set_option maxRecDepth 100000 in
set_option maxHeartbeats 4000000 in
theorem kX10_fullest {l : Launch} {g : GE} {B : Nat} {h : ST} {a1 : Int32} {y : (Int32 ⊕ Nat) × ST} (hT : l.stackTraces = false) (hf : fX10_fullest h a1 = some y) : XT l yX10_fullest cX10_fullest 6 (some .int) 9 1 KC 395 g B [.ref (gA g 0), .int a1] h (ocI y.1) y.2 := by
  refine XT.of pn_X10 (Nat.le_of_ble_eq_true rfl) ?_
  intro p e s m below meth c hr hex F
  have F : Fx p s m _ meth c cX10_fullest 6 "DustParish" 395 g B := F
  refine V_lv (lv' := [(0, .ref (gA g 0)), (1, .int a1)]) rfl ?_
  unfold fX10_fullest at hf
  refine v_iload_n (pc := 0) (j := 1) F dX10_fullest_0 rfl rfl ?_
  obtain ⟨r1, e2, hf⟩ := bnd_some hf
  rcases r1 with v9 | r1
  · have hf := sm_l hf
    refine v_xcallS (pc := 1) (As := [.int a1]) F cl_X10_235 dX10_fullest_1 (kX10_needAhead hT e2) rfl rfl (Nat.le_of_ble_eq_true rfl) (by decide) (by decide) ?_
    refine v_aload_n (pc := 4) (j := 0) F dX10_fullest_4 rfl rfl ?_
    refine v_ifl (pc := 5) F fl_X10_56 dX10_fullest_5 kc_0.1 kc_0.2 fv_9_9 ?_
    refine v_aload_n (pc := 8) (j := 0) F dX10_fullest_8 rfl rfl ?_
    refine v_ifl (pc := 9) F fl_X10_42 dX10_fullest_9 kc_0.1 kc_0.2 fv_9_6 ?_
    refine v_ifl (pc := 12) F fl_X10_122 dX10_fullest_12 kc_42.1 kc_42.2 fv_2_0 ?_
    obtain ⟨r3, e4, hf⟩ := bnd_some hf
    refine v_callVv (pc := 15) (As := [.ref (gA g 43)]) F cl_X10_241 dX10_fullest_15 (kX8_copy kc_386.1 kc_386.2 kc_43.1 kc_43.2 e4) kc_386.1 kc_386.2 rc_7 rfl rfl (Nat.le_of_ble_eq_true rfl) (by decide) (by decide) ?_
    refine v_iconst (pc := 18) (v := 0) F dX10_fullest_18 ic_0 ?_
    refine v_istore_n (pc := 19) (lv' := [(0, .ref (gA g 0)), (1, .int a1), (2, .int 0)]) F dX10_fullest_19 rfl (by decide) rfl ?_
    refine v_aload_n (pc := 20) (j := 0) F dX10_fullest_20 rfl rfl ?_
    obtain ⟨f5, e6, hf⟩ := bnd_some hf
    obtain ⟨ho_f5, hk_f5, e6⟩ := rf_in e6
    refine v_ifl (pc := 21) F fl_X10_23 dX10_fullest_21 kc_0.1 kc_0.2 (fv_9_3 e6) ?_
    refine v_aload_n (pc := 24) (j := 0) F dX10_fullest_24 rfl rfl ?_
    refine v_ifl (pc := 25) F fl_X10_56 dX10_fullest_25 kc_0.1 kc_0.2 fv_9_9 ?_
    obtain ⟨r7, e8, hf⟩ := bnd_some hf
    refine v_callSi (pc := 28) (As := [.ref (gA g f5), .ref (gA g 386)]) F cl_X10_128 dX10_fullest_28 (kX1_dustInAll ho_f5 hk_f5 kc_386.1 kc_386.2 e8) rfl rfl (Nat.le_of_ble_eq_true rfl) (by decide) (by decide) ?_
    refine v_istore_n (pc := 31) (lv' := [(0, .ref (gA g 0)), (1, .int a1), (2, .int 0), (3, .int r7)]) F dX10_fullest_31 rfl (by decide) rfl ?_
    refine v_iconst (pc := 32) (v := 1) F dX10_fullest_32 ic_1 ?_
    refine v_istore (pc := 33) (lv' := [(0, .ref (gA g 0)), (1, .int a1), (2, .int 0), (3, .int r7), (4, .int 1)]) F dX10_fullest_33 (by decide) rfl ?_
    obtain ⟨x19, e20, hf⟩ := bnd_some hf
    refine tX10_fullest_35 (s0 := (r3, 0, r7, 1)) F ?_ e20
    refine v_iload_n (pc := 84) (j := 0) F dX10_fullest_84 rfl rfl ?_
    exact v_xiret (pc := 85) F hr dX10_fullest_85 (some_fst hf) (some_snd hf) (by decide)
  · have hf := sm_r hf
    exact v_xcallSX (pc := 1) (As := [.int a1]) F cl_X10_235 dX10_fullest_1 (kX10_needAhead hT e2) rfl rfl (Nat.le_of_ble_eq_true rfl) (by decide) (by decide) hex (congrArg ocI (some_fst hf)) (some_snd hf)
def fX10_fullestTrialRoom_4 (h : ST) (s1 : (Int32 × Int32)) : Option ((Int32 × Int32) ⊕ Int32) :=
  bnd (rf KC 395 1 (h 0 3)) fun f1 =>
  if (h f1 0) ≤ s1.2 then
  some (.inr s1.1)
  else
  bnd (rd 9 (h 387) s1.2) fun v4 =>
    some (.inl ((if s1.1 < v4 then v4 else s1.1), s1.2 + 1))
def fX10_fullestTrialRoom (h : ST) : Option (Int32) :=
  bnd (lp FU (fX10_fullestTrialRoom_4 h) (0, 0)) fun x6 =>
  some x6
set_option maxRecDepth 100000 in
set_option maxHeartbeats 4000000 in
theorem tX10_fullestTrialRoom_4 {p : Program} {l : Launch} {e : Env} {s : State} {m : MethodId} {args : Array Value} {below : List Frame} {meth : Method} {c : Code} {g : GE} {B : Nat}  {h : ST}  {Q : State → Prop} {x : Int32} {nf : Nat} {s0 : (Int32 × Int32)} (F : Fx p s m args meth c cX10_fullestTrialRoom 3 "DustParish" 395 g B) (hX0 : V p l e 1 0 s m args below meth c Q KC 395 g B 3 0 h 35 [(1, .int x)] []) (hl : lp nf (fX10_fullestTrialRoom_4 h) s0 = some x) : V p l e 1 0 s m args below meth c Q KC 395 g B 3 0 h 4 [(0, .ref (gA g 0)), (1, .int s0.1), (2, .int s0.2)] [] := by
  refine lp_ind (P := fun s0 => V p l e 1 0 s m args below meth c Q KC 395 g B 3 0 h 4 [(0, .ref (gA g 0)), (1, .int s0.1), (2, .int s0.2)] []) ?_ nf s0 hl
  intro s1 y hf hk hx
  have hx0 : ∀ v : Int32, y = Sum.inr v → V p l e 1 0 s m args below meth c Q KC 395 g B 3 0 h 35 [(1, .int v)] [] := fun v e9 => by rw [hx v e9]; exact hX0
  unfold fX10_fullestTrialRoom_4 at hf
  refine v_iload_n (pc := 4) (j := 2) F dX10_fullestTrialRoom_4 rfl rfl ?_
  refine v_aload_n (pc := 5) (j := 0) F dX10_fullestTrialRoom_5 rfl rfl ?_
  obtain ⟨f1, e2, hf⟩ := bnd_some hf
  obtain ⟨ho_f1, hk_f1, e2⟩ := rf_in e2
  refine v_ifl (pc := 6) F fl_X10_23 dX10_fullestTrialRoom_6 kc_0.1 kc_0.2 (fv_9_3 e2) ?_
  refine v_ifl (pc := 9) F fl_X10_104 dX10_fullestTrialRoom_9 ho_f1 hk_f1 fv_1_0 ?_
  refine v_icmp_ge (pc := 12) (tgt := 35) F dX10_fullestTrialRoom_12 (by decide) (fun c3 => ?_) (fun c3 => ?_)
  · have hf := ite_t hf c3
    refine V.sub (lv' := [(1, .int s1.1)]) [1] rfl ?_
    exact hx0 s1.1 (Option.some.inj hf).symm
  · have hf := ite_f hf c3
    refine v_iload_n (pc := 15) (j := 1) F dX10_fullestTrialRoom_15 rfl rfl ?_
    refine v_aload_n (pc := 16) (j := 0) F dX10_fullestTrialRoom_16 rfl rfl ?_
    refine v_ifl (pc := 17) F fl_X10_56 dX10_fullestTrialRoom_17 kc_0.1 kc_0.2 fv_9_9 ?_
    refine v_ifl (pc := 20) F fl_X10_171 dX10_fullestTrialRoom_20 kc_386.1 kc_386.2 fv_7_3 ?_
    refine v_iload_n (pc := 23) (j := 2) F dX10_fullestTrialRoom_23 rfl rfl ?_
    obtain ⟨v4, e5, hf⟩ := bnd_some hf
    refine v_iald (pc := 24) F dX10_fullestTrialRoom_24 kc_387.1 kc_387.2 e5 ?_
    refine v_mmax (pc := 25) F tw_1109 mmaxW dX10_fullestTrialRoom_25 (by decide) (Nat.le_of_ble_eq_true rfl) (Nat.zero_le _) ?_
    refine v_istore_n (pc := 28) (lv' := [(0, .ref (gA g 0)), (1, .int (if s1.1 < v4 then v4 else s1.1)), (2, .int s1.2)]) F dX10_fullestTrialRoom_28 rfl (by decide) rfl ?_
    refine v_iinc (pc := 29) (j := 2) (v := s1.2 + 1) (lv' := [(0, .ref (gA g 0)), (1, .int (if s1.1 < v4 then v4 else s1.1)), (2, .int (s1.2 + 1))]) F dX10_fullestTrialRoom_29 rfl (congrArg (fun z => s1.2 + z) ic_1) (by decide) rfl ?_
    refine v_goto (pc := 32) (tgt := 4) F dX10_fullestTrialRoom_32 (by decide) ?_
    exact hk ((if s1.1 < v4 then v4 else s1.1), s1.2 + 1) (Option.some.inj hf).symm
set_option maxRecDepth 100000 in
set_option maxHeartbeats 4000000 in
theorem kX10_fullestTrialRoom {l : Launch} {g : GE} {B : Nat} {h : ST} {y : Int32} (hf : fX10_fullestTrialRoom h = some y) : CT l yX10_fullestTrialRoom cX10_fullestTrialRoom 3 (some .int) 1 KC 395 g B [.ref (gA g 0)] h (some (.int y)) h := by
  refine CT.of pn_X10 (Nat.le_of_ble_eq_true rfl) ?_
  intro p e s m below meth c hr F
  have F : Fx p s m _ meth c cX10_fullestTrialRoom 3 "DustParish" 395 g B := F
  refine V_lv (lv' := [(0, .ref (gA g 0))]) rfl ?_
  unfold fX10_fullestTrialRoom at hf
  refine v_iconst (pc := 0) (v := 0) F dX10_fullestTrialRoom_0 ic_0 ?_
  refine v_istore_n (pc := 1) (lv' := [(0, .ref (gA g 0)), (1, .int 0)]) F dX10_fullestTrialRoom_1 rfl (by decide) rfl ?_
  refine v_iconst (pc := 2) (v := 0) F dX10_fullestTrialRoom_2 ic_0 ?_
  refine v_istore_n (pc := 3) (lv' := [(0, .ref (gA g 0)), (1, .int 0), (2, .int 0)]) F dX10_fullestTrialRoom_3 rfl (by decide) rfl ?_
  obtain ⟨x6, e7, hf⟩ := bnd_some hf
  refine tX10_fullestTrialRoom_4 (s0 := (0, 0)) F ?_ e7
  refine v_iload_n (pc := 35) (j := 0) F dX10_fullestTrialRoom_35 rfl rfl ?_
  exact v_iret (pc := 36) F hr dX10_fullestTrialRoom_36 (Option.some.inj hf) rfl (Nat.zero_le _)
def fX10_lowestRoom_2 (h : ST) (l1 : Int32) (s1 : Int32) : Option (Int32 ⊕ (Int32 ⊕ Unit)) :=
  bnd (rf KC 395 1 (h 0 3)) fun f1 =>
  if (h f1 0) ≤ s1 then
  some (.inr (.inr ()))
  else
  bnd (rf KC 395 1 (h 0 3)) fun f4 =>
    bnd (rd 9 (h (f4 + 2)) s1) fun v6 =>
    if v6 = l1 then
    some (.inr (.inl s1))
    else
    some (.inl (s1 + 1))
def fX10_lowestRoom (h : ST) (a1 : Int32) : Option (Int32) :=
  bnd (lp FU (fX10_lowestRoom_2 h a1) 0) fun x9 =>
  sm x9 (fun v => some v) (fun v => some (-1))
set_option maxRecDepth 100000 in
set_option maxHeartbeats 4000000 in
theorem tX10_lowestRoom_2 {p : Program} {l : Launch} {e : Env} {s : State} {m : MethodId} {args : Array Value} {below : List Frame} {meth : Method} {c : Code} {g : GE} {B : Nat}  {h : ST}  {l1 : Int32} {Q : State → Prop} {x : (Int32 ⊕ Unit)} {nf : Nat} {s0 : Int32} (F : Fx p s m args meth c cX10_lowestRoom 3 "DustParish" 395 g B) (hX0 : ∀ v : Int32, x = (.inl v) → V p l e 1 0 s m args below meth c Q KC 395 g B 3 0 h 26 [(2, .int v)] []) (hX1 : ∀ v : Unit, x = (.inr v) → V p l e 1 0 s m args below meth c Q KC 395 g B 3 0 h 34 [] []) (hl : lp nf (fX10_lowestRoom_2 h l1) s0 = some x) : V p l e 1 0 s m args below meth c Q KC 395 g B 3 0 h 2 [(0, .ref (gA g 0)), (1, .int l1), (2, .int s0)] [] := by
  refine lp_ind (P := fun s0 => V p l e 1 0 s m args below meth c Q KC 395 g B 3 0 h 2 [(0, .ref (gA g 0)), (1, .int l1), (2, .int s0)] []) ?_ nf s0 hl
  intro s1 y hf hk hx
  have hx0 : ∀ v : Int32, y = Sum.inr (.inl v) → V p l e 1 0 s m args below meth c Q KC 395 g B 3 0 h 26 [(2, .int v)] [] := fun v e9 => hX0 v (hx _ e9).symm
  have hx1 : ∀ v : Unit, y = Sum.inr (.inr v) → V p l e 1 0 s m args below meth c Q KC 395 g B 3 0 h 34 [] [] := fun v e9 => hX1 v (hx _ e9).symm
  unfold fX10_lowestRoom_2 at hf
  refine v_iload_n (pc := 2) (j := 2) F dX10_lowestRoom_2 rfl rfl ?_
  refine v_aload_n (pc := 3) (j := 0) F dX10_lowestRoom_3 rfl rfl ?_
  obtain ⟨f1, e2, hf⟩ := bnd_some hf
  obtain ⟨ho_f1, hk_f1, e2⟩ := rf_in e2
  refine v_ifl (pc := 4) F fl_X10_23 dX10_lowestRoom_4 kc_0.1 kc_0.2 (fv_9_3 e2) ?_
  refine v_ifl (pc := 7) F fl_X10_104 dX10_lowestRoom_7 ho_f1 hk_f1 fv_1_0 ?_
  refine v_icmp_ge (pc := 10) (tgt := 34) F dX10_lowestRoom_10 (by decide) (fun c3 => ?_) (fun c3 => ?_)
  · have hf := ite_t hf c3
    refine V.sub (lv' := []) [] rfl ?_
    exact hx1 () (Option.some.inj hf).symm
  · have hf := ite_f hf c3
    refine v_aload_n (pc := 13) (j := 0) F dX10_lowestRoom_13 rfl rfl ?_
    obtain ⟨f4, e5, hf⟩ := bnd_some hf
    obtain ⟨ho_f4, hk_f4, e5⟩ := rf_in e5
    refine v_ifl (pc := 14) F fl_X10_23 dX10_lowestRoom_14 kc_0.1 kc_0.2 (fv_9_3 e5) ?_
    refine v_ifl (pc := 17) F fl_X10_168 dX10_lowestRoom_17 ho_f4 hk_f4 fv_1_2 ?_
    refine v_iload_n (pc := 20) (j := 2) F dX10_lowestRoom_20 rfl rfl ?_
    obtain ⟨v6, e7, hf⟩ := bnd_some hf
    refine v_iald (pc := 21) F dX10_lowestRoom_21 (ly_1_2 ho_f4 hk_f4).1 (ly_1_2 ho_f4 hk_f4).2 e7 ?_
    refine v_iload_n (pc := 22) (j := 1) F dX10_lowestRoom_22 rfl rfl ?_
    refine v_icmp_ne (pc := 23) (tgt := 28) F dX10_lowestRoom_23 (by decide) (fun c8 => ?_) (fun c8 => ?_)
    · have hf := ite_f hf c8
      refine v_iinc (pc := 28) (j := 2) (v := s1 + 1) (lv' := [(0, .ref (gA g 0)), (1, .int l1), (2, .int (s1 + 1))]) F dX10_lowestRoom_28 rfl (congrArg (fun z => s1 + z) ic_1) (by decide) rfl ?_
      refine v_goto (pc := 31) (tgt := 2) F dX10_lowestRoom_31 (by decide) ?_
      exact hk (s1 + 1) (Option.some.inj hf).symm
    · have hf := ite_t hf c8
      refine V.sub (lv' := [(2, .int s1)]) [2] rfl ?_
      exact hx0 s1 (Option.some.inj hf).symm
set_option maxRecDepth 100000 in
set_option maxHeartbeats 4000000 in
theorem kX10_lowestRoom {l : Launch} {g : GE} {B : Nat} {h : ST} {a1 : Int32} {y : Int32} (hf : fX10_lowestRoom h a1 = some y) : CT l yX10_lowestRoom cX10_lowestRoom 3 (some .int) 1 KC 395 g B [.ref (gA g 0), .int a1] h (some (.int y)) h := by
  refine CT.of pn_X10 (Nat.le_of_ble_eq_true rfl) ?_
  intro p e s m below meth c hr F
  have F : Fx p s m _ meth c cX10_lowestRoom 3 "DustParish" 395 g B := F
  refine V_lv (lv' := [(0, .ref (gA g 0)), (1, .int a1)]) rfl ?_
  unfold fX10_lowestRoom at hf
  refine v_iconst (pc := 0) (v := 0) F dX10_lowestRoom_0 ic_0 ?_
  refine v_istore_n (pc := 1) (lv' := [(0, .ref (gA g 0)), (1, .int a1), (2, .int 0)]) F dX10_lowestRoom_1 rfl (by decide) rfl ?_
  obtain ⟨x9, e10, hf⟩ := bnd_some hf
  refine tX10_lowestRoom_2 (s0 := 0) F (fun v e9 => ?_) (fun v e9 => ?_) e10
  · subst e9
    have hf := sm_l hf
    refine v_iload_n (pc := 26) (j := 0) F dX10_lowestRoom_26 rfl rfl ?_
    exact v_iret (pc := 27) F hr dX10_lowestRoom_27 (Option.some.inj hf) rfl (Nat.zero_le _)
  · subst e9
    have hf := sm_r hf
    refine v_iconst (pc := 34) (v := (-1)) F dX10_lowestRoom_34 ic_m1 ?_
    exact v_iret (pc := 35) F hr dX10_lowestRoom_35 (Option.some.inj hf) rfl (Nat.zero_le _)
def fX10_lossOf_45 (h : ST) (q0 : Int32) (q1 : Int32) : Option (Int32) :=
  some (q0 + q1)
def fX10_lossOf (h : ST) (a1 : Int32) (a2 : Int32) (a3 : Int32) (a4 : Int32) : Option (Int32) :=
  bnd (rf KC 395 1 (h 0 3)) fun f1 =>
  if (h f1 16) ≤ (if ((a1 - (a3 * (a1 / 2))) + (a4 * (a2 / 2))) < 9999 then ((a1 - (a3 * (a1 / 2))) + (a4 * (a2 / 2))) else 9999) then
  fX10_lossOf_45 h ((if ((a1 - (a3 * (a1 / 2))) + (a4 * (a2 / 2))) < 9999 then ((a1 - (a3 * (a1 / 2))) + (a4 * (a2 / 2))) else 9999) / 10) 0
  else
  fX10_lossOf_45 h ((if ((a1 - (a3 * (a1 / 2))) + (a4 * (a2 / 2))) < 9999 then ((a1 - (a3 * (a1 / 2))) + (a4 * (a2 / 2))) else 9999) / 10) 20
set_option maxRecDepth 100000 in
set_option maxHeartbeats 4000000 in
theorem tX10_lossOf_45 {p : Program} {l : Launch} {e : Env} {s : State} {m : MethodId} {args : Array Value} {below : List Frame} {meth : Method} {c : Code} {g : GE} {B : Nat} {h : ST}  {q0 : Int32} {q1 : Int32} (F : Fx p s m args meth c cX10_lossOf 6 "DustParish" 395 g B)
    {y : Int32} (hr : meth.sig.returnType = (some .int)) (hf : fX10_lossOf_45 h q0 q1 = some y) : V p l e 1 0 s m args below meth c (MQ below (QO KC 395 g (some (.int y)) h) args s 0 (6 * 0) (WA 395 g)) KC 395 g B 6 0 h 45 [] [.int q1, .int q0] := by
  unfold fX10_lossOf_45 at hf
  refine v_iadd (pc := 45) F dX10_lossOf_45 ?_
  exact v_iret (pc := 46) F hr dX10_lossOf_46 (Option.some.inj hf) rfl (Nat.zero_le _)
set_option maxRecDepth 100000 in
set_option maxHeartbeats 4000000 in
theorem kX10_lossOf {l : Launch} {g : GE} {B : Nat} {h : ST} {a1 : Int32} {a2 : Int32} {a3 : Int32} {a4 : Int32} {y : Int32} (hf : fX10_lossOf h a1 a2 a3 a4 = some y) : CT l yX10_lossOf cX10_lossOf 6 (some .int) 1 KC 395 g B [.ref (gA g 0), .int a1, .int a2, .int a3, .int a4] h (some (.int y)) h := by
  refine CT.of pn_X10 (Nat.le_of_ble_eq_true rfl) ?_
  intro p e s m below meth c hr F
  have F : Fx p s m _ meth c cX10_lossOf 6 "DustParish" 395 g B := F
  refine V_lv (lv' := [(0, .ref (gA g 0)), (1, .int a1), (2, .int a2), (3, .int a3), (4, .int a4)]) rfl ?_
  unfold fX10_lossOf at hf
  refine v_sipush (pc := 0) (v := 9999) F dX10_lossOf_0 sp_9999 ?_
  refine v_iload_n (pc := 3) (j := 1) F dX10_lossOf_3 rfl rfl ?_
  refine v_iload_n (pc := 4) (j := 3) F dX10_lossOf_4 rfl rfl ?_
  refine v_iload_n (pc := 5) (j := 1) F dX10_lossOf_5 rfl rfl ?_
  refine v_iconst (pc := 6) (v := 2) F dX10_lossOf_6 ic_2 ?_
  refine v_idiv (pc := 7) F dX10_lossOf_7 (by decide) ?_
  refine v_imul (pc := 8) F dX10_lossOf_8 ?_
  refine v_isub (pc := 9) F dX10_lossOf_9 ?_
  refine v_iload (pc := 10) (j := 4) F dX10_lossOf_10 rfl ?_
  refine v_iload_n (pc := 12) (j := 2) F dX10_lossOf_12 rfl rfl ?_
  refine v_iconst (pc := 13) (v := 2) F dX10_lossOf_13 ic_2 ?_
  refine v_idiv (pc := 14) F dX10_lossOf_14 (by decide) ?_
  refine v_imul (pc := 15) F dX10_lossOf_15 ?_
  refine v_iadd (pc := 16) F dX10_lossOf_16 ?_
  refine v_mmin (pc := 17) F tw_918 mminW dX10_lossOf_17 (by decide) (Nat.le_of_ble_eq_true rfl) (Nat.zero_le _) ?_
  refine v_istore (pc := 20) (lv' := [(0, .ref (gA g 0)), (1, .int a1), (2, .int a2), (3, .int a3), (4, .int a4), (5, .int (if ((a1 - (a3 * (a1 / 2))) + (a4 * (a2 / 2))) < 9999 then ((a1 - (a3 * (a1 / 2))) + (a4 * (a2 / 2))) else 9999))]) F dX10_lossOf_20 (by decide) rfl ?_
  refine v_iload (pc := 22) (j := 5) F dX10_lossOf_22 rfl ?_
  refine v_bipush (pc := 24) (v := 10) F dX10_lossOf_24 bp_10 ?_
  refine v_idiv (pc := 26) F dX10_lossOf_26 (by decide) ?_
  refine v_iload (pc := 27) (j := 5) F dX10_lossOf_27 rfl ?_
  refine v_aload_n (pc := 29) (j := 0) F dX10_lossOf_29 rfl rfl ?_
  obtain ⟨f1, e2, hf⟩ := bnd_some hf
  obtain ⟨ho_f1, hk_f1, e2⟩ := rf_in e2
  refine v_ifl (pc := 30) F fl_X10_23 dX10_lossOf_30 kc_0.1 kc_0.2 (fv_9_3 e2) ?_
  refine v_ifl (pc := 33) F fl_X10_119 dX10_lossOf_33 ho_f1 hk_f1 fv_1_16 ?_
  refine v_icmp_ge (pc := 36) (tgt := 44) F dX10_lossOf_36 (by decide) (fun c3 => ?_) (fun c3 => ?_)
  · have hf := ite_t hf c3
    refine v_iconst (pc := 44) (v := 0) F dX10_lossOf_44 ic_0 ?_
    refine V.sub (lv' := []) [] rfl ?_
    exact tX10_lossOf_45 F hr hf
  · have hf := ite_f hf c3
    refine v_bipush (pc := 39) (v := 20) F dX10_lossOf_39 bp_20 ?_
    refine v_goto (pc := 41) (tgt := 45) F dX10_lossOf_41 (by decide) ?_
    refine V.sub (lv' := []) [] rfl ?_
    exact tX10_lossOf_45 F hr hf
def fX10_rests_51 (h : ST) (q0 : Int32) : Option (Int32) :=
  bnd (zb q0) fun z6 =>
  some z6
def fX10_rests_50 (h : ST)  : Option (Int32) :=
  fX10_rests_51 h 0
def fX10_rests (h : ST) (a1 : Int32) (a2 : Int32) (a3 : Int32) (a4 : Int32) : Option (Int32) :=
  bnd (fX10_lossOf h a1 a2 a3 a4) fun r1 =>
  bnd (fX10_lossOf h a1 a2 (1 - a3) a4) fun r3 =>
  if r3 < r1 then
  fX10_rests_50 h 
  else
  bnd (fX10_lossOf h a2 a1 a4 a3) fun r8 =>
    bnd (fX10_lossOf h a2 a1 (1 - a4) a3) fun r10 =>
    if r10 < r8 then
    fX10_rests_50 h 
    else
    fX10_rests_51 h 1
set_option maxRecDepth 100000 in
set_option maxHeartbeats 4000000 in
theorem tX10_rests_51 {p : Program} {l : Launch} {e : Env} {s : State} {m : MethodId} {args : Array Value} {below : List Frame} {meth : Method} {c : Code} {g : GE} {B : Nat} {h : ST}  {q0 : Int32} (F : Fx p s m args meth c cX10_rests 5 "DustParish" 395 g B)
    {y : Int32} (hr : meth.sig.returnType = (some .boolean)) (hf : fX10_rests_51 h q0 = some y) : V p l e 2 0 s m args below meth c (MQ below (QO KC 395 g (some (.int y)) h) args s 0 (6 * 0) (WA 395 g)) KC 395 g B 5 0 h 51 [] [.int q0] := by
  unfold fX10_rests_51 at hf
  obtain ⟨z6, e7, hf⟩ := bnd_some hf
  exact v_zret (pc := 51) F hr dX10_rests_51 (zb_in e7).2 ((zb_in e7).1.symm.trans (Option.some.inj hf)) rfl (Nat.zero_le _)
set_option maxRecDepth 100000 in
set_option maxHeartbeats 4000000 in
theorem tX10_rests_50 {p : Program} {l : Launch} {e : Env} {s : State} {m : MethodId} {args : Array Value} {below : List Frame} {meth : Method} {c : Code} {g : GE} {B : Nat} {h : ST}  (F : Fx p s m args meth c cX10_rests 5 "DustParish" 395 g B)
    {y : Int32} (hr : meth.sig.returnType = (some .boolean)) (hf : fX10_rests_50 h  = some y) : V p l e 2 0 s m args below meth c (MQ below (QO KC 395 g (some (.int y)) h) args s 0 (6 * 0) (WA 395 g)) KC 395 g B 5 0 h 50 [] [] := by
  unfold fX10_rests_50 at hf
  refine v_iconst (pc := 50) (v := 0) F dX10_rests_50 ic_0 ?_
  exact tX10_rests_51 F hr hf
set_option maxRecDepth 100000 in
set_option maxHeartbeats 4000000 in
theorem kX10_rests {l : Launch} {g : GE} {B : Nat} {h : ST} {a1 : Int32} {a2 : Int32} {a3 : Int32} {a4 : Int32} {y : Int32} (hf : fX10_rests h a1 a2 a3 a4 = some y) : CT l yX10_rests cX10_rests 5 (some .boolean) 2 KC 395 g B [.ref (gA g 0), .int a1, .int a2, .int a3, .int a4] h (some (.int y)) h := by
  refine CT.of pn_X10 (Nat.le_of_ble_eq_true rfl) ?_
  intro p e s m below meth c hr F
  have F : Fx p s m _ meth c cX10_rests 5 "DustParish" 395 g B := F
  refine V_lv (lv' := [(0, .ref (gA g 0)), (1, .int a1), (2, .int a2), (3, .int a3), (4, .int a4)]) rfl ?_
  unfold fX10_rests at hf
  refine v_aload_n (pc := 0) (j := 0) F dX10_rests_0 rfl rfl ?_
  refine v_iload_n (pc := 1) (j := 1) F dX10_rests_1 rfl rfl ?_
  refine v_iload_n (pc := 2) (j := 2) F dX10_rests_2 rfl rfl ?_
  refine v_iload_n (pc := 3) (j := 3) F dX10_rests_3 rfl rfl ?_
  refine v_iload (pc := 4) (j := 4) F dX10_rests_4 rfl ?_
  obtain ⟨r1, e2, hf⟩ := bnd_some hf
  refine v_callVi (pc := 6) (As := [.int a1, .int a2, .int a3, .int a4]) F cl_X10_329 dX10_rests_6 (kX10_lossOf e2) kc_0.1 kc_0.2 rc_9 rfl rfl (Nat.le_of_ble_eq_true rfl) (by decide) (Nat.zero_le _) ?_
  refine v_aload_n (pc := 9) (j := 0) F dX10_rests_9 rfl rfl ?_
  refine v_iload_n (pc := 10) (j := 1) F dX10_rests_10 rfl rfl ?_
  refine v_iload_n (pc := 11) (j := 2) F dX10_rests_11 rfl rfl ?_
  refine v_iconst (pc := 12) (v := 1) F dX10_rests_12 ic_1 ?_
  refine v_iload_n (pc := 13) (j := 3) F dX10_rests_13 rfl rfl ?_
  refine v_isub (pc := 14) F dX10_rests_14 ?_
  refine v_iload (pc := 15) (j := 4) F dX10_rests_15 rfl ?_
  obtain ⟨r3, e4, hf⟩ := bnd_some hf
  refine v_callVi (pc := 17) (As := [.int a1, .int a2, .int (1 - a3), .int a4]) F cl_X10_329 dX10_rests_17 (kX10_lossOf e4) kc_0.1 kc_0.2 rc_9 rfl rfl (Nat.le_of_ble_eq_true rfl) (by decide) (Nat.zero_le _) ?_
  refine v_icmp_gt (pc := 20) (tgt := 50) F dX10_rests_20 (by decide) (fun c5 => ?_) (fun c5 => ?_)
  · have hf := ite_t hf c5
    refine V.sub (lv' := []) [] rfl ?_
    exact tX10_rests_50 F hr hf
  · have hf := ite_f hf c5
    refine v_aload_n (pc := 23) (j := 0) F dX10_rests_23 rfl rfl ?_
    refine v_iload_n (pc := 24) (j := 2) F dX10_rests_24 rfl rfl ?_
    refine v_iload_n (pc := 25) (j := 1) F dX10_rests_25 rfl rfl ?_
    refine v_iload (pc := 26) (j := 4) F dX10_rests_26 rfl ?_
    refine v_iload_n (pc := 28) (j := 3) F dX10_rests_28 rfl rfl ?_
    obtain ⟨r8, e9, hf⟩ := bnd_some hf
    refine v_callVi (pc := 29) (As := [.int a2, .int a1, .int a4, .int a3]) F cl_X10_329 dX10_rests_29 (kX10_lossOf e9) kc_0.1 kc_0.2 rc_9 rfl rfl (Nat.le_of_ble_eq_true rfl) (by decide) (Nat.zero_le _) ?_
    refine v_aload_n (pc := 32) (j := 0) F dX10_rests_32 rfl rfl ?_
    refine v_iload_n (pc := 33) (j := 2) F dX10_rests_33 rfl rfl ?_
    refine v_iload_n (pc := 34) (j := 1) F dX10_rests_34 rfl rfl ?_
    refine v_iconst (pc := 35) (v := 1) F dX10_rests_35 ic_1 ?_
    refine v_iload (pc := 36) (j := 4) F dX10_rests_36 rfl ?_
    refine v_isub (pc := 38) F dX10_rests_38 ?_
    refine v_iload_n (pc := 39) (j := 3) F dX10_rests_39 rfl rfl ?_
    obtain ⟨r10, e11, hf⟩ := bnd_some hf
    refine v_callVi (pc := 40) (As := [.int a2, .int a1, .int (1 - a4), .int a3]) F cl_X10_329 dX10_rests_40 (kX10_lossOf e11) kc_0.1 kc_0.2 rc_9 rfl rfl (Nat.le_of_ble_eq_true rfl) (by decide) (Nat.zero_le _) ?_
    refine v_icmp_gt (pc := 43) (tgt := 50) F dX10_rests_43 (by decide) (fun c12 => ?_) (fun c12 => ?_)
    · have hf := ite_t hf c12
      refine V.sub (lv' := []) [] rfl ?_
      exact tX10_rests_50 F hr hf
    · have hf := ite_f hf c12
      refine v_iconst (pc := 46) (v := 1) F dX10_rests_46 ic_1 ?_
      refine v_goto (pc := 47) (tgt := 51) F dX10_rests_47 (by decide) ?_
      refine V.sub (lv' := []) [] rfl ?_
      exact tX10_rests_51 F hr hf
def fX10_game_9 (h : ST)  : Option ((Int32 ⊕ Nat)) :=
  some (.inr 1)
def fX10_game_42 (h : ST)  : Option ((Int32 ⊕ Nat)) :=
  some (.inr 2)
def fX10_game_155 (h : ST) (l3 : Int32) (l4 : Int32) (l5 : Int32) (l6 : Int32) (l7 : Int32) (l8 : Int32) : Option ((Int32 × Int32 × Int32) ⊕ (Int32 × Int32)) :=
  some (.inl (l6, l7, l8 + 1))
def fX10_game_73 (h : ST) (l3 : Int32) (l4 : Int32) (l5 : Int32) (s1 : (Int32 × Int32 × Int32)) : Option ((Int32 × Int32 × Int32) ⊕ (Int32 × Int32)) :=
  if 4 ≤ s1.2.2 then
  some (.inr (s1.1, s1.2.1))
  else
  if l4 = (-1) then
    some (.inr (s1.1, s1.2.1))
    else
    if l5 = (-1) then
      some (.inr (s1.1, s1.2.1))
      else
      bnd (rd 9 (h 44) l4) fun v15 =>
        bnd (rd 9 (h 44) l5) fun v17 =>
        bnd (fX10_rests h v15 v17 (s1.2.2 >>> ((1 : Int32) &&& 31)) (s1.2.2 &&& 1)) fun r19 =>
        if r19 = 0 then
        fX10_game_155 h l3 l4 l5 s1.1 s1.2.1 s1.2.2
        else
        if s1.2.1 = (-1) then
          fX10_game_155 h l3 l4 l5 (s1.1 + 1) ((10 * (s1.2.2 >>> ((1 : Int32) &&& 31))) + (s1.2.2 &&& 1)) s1.2.2
          else
          fX10_game_155 h l3 l4 l5 (s1.1 + 1) s1.2.1 s1.2.2
def fX10_game_172 (h : ST) (q0 : Int32) : Option ((Int32 ⊕ Nat)) :=
  some (.inl q0)
def fX10_game_161 (h : ST) (l3 : Int32) (l6 : Int32) (l7 : Int32) : Option ((Int32 ⊕ Nat)) :=
  if l3 = 0 then
  fX10_game_172 h l6
  else
  fX10_game_172 h l7
def fX10_game (h : ST) (a1 : Int32) (a2 : Int32) (a3 : Int32) : Option ((Int32 ⊕ Nat)) :=
  if a3 < 0 then
  fX10_game_9 h 
  else
  if a3 ≤ 1 then
    if a1 < 0 then
      fX10_game_42 h 
      else
      if 6 ≤ a1 then
        fX10_game_42 h 
        else
        if a2 < 0 then
          fX10_game_42 h 
          else
          if 6 ≤ a2 then
            fX10_game_42 h 
            else
            if a1 = a2 then
              fX10_game_42 h 
              else
              bnd (fX10_lowestRoom h a1) fun r8 =>
                bnd (fX10_lowestRoom h a2) fun r10 =>
                bnd (lp FU (fX10_game_73 h a3 r8 r10) (0, (-1), 0)) fun x23 =>
                fX10_game_161 h a3 x23.1 x23.2
    else
    fX10_game_9 h 
set_option maxRecDepth 100000 in
set_option maxHeartbeats 4000000 in
theorem tX10_game_9 {p : Program} {l : Launch} {e : Env} {s : State} {m : MethodId} {args : Array Value} {below : List Frame} {meth : Method} {c : Code} {g : GE} {B : Nat} {h : ST}  (F : Fx p s m args meth c cX10_game 9 "DustParish" 395 g B)
    {y : (Int32 ⊕ Nat)} (hr : meth.sig.returnType = (some .int)) (hT : l.stackTraces = false) (hex : ∀ x ∈ c.exceptionTable.toList, False) (hf : fX10_game_9 h  = some y) : V p l e 8 1 s m args below meth c (vx_MQ below (QX KC 395 g (ocI y) h) (XX KC 395 g (ocI y) h) args s 1 (6 * 1) (WA 395 g)) KC 395 g B 9 0 h 9 [] [] := by
  unfold fX10_game_9 at hf
  exact v_throw0 (pc := 9) (E := xNS) F hT xw_NS hex dX10_game_9 dX10_game_12 dX10_game_13 dX10_game_16 (congrArg ocI (Option.some.inj hf)) rfl (by decide) (Nat.le_of_ble_eq_true rfl) (by decide)
set_option maxRecDepth 100000 in
set_option maxHeartbeats 4000000 in
theorem tX10_game_42 {p : Program} {l : Launch} {e : Env} {s : State} {m : MethodId} {args : Array Value} {below : List Frame} {meth : Method} {c : Code} {g : GE} {B : Nat} {h : ST}  (F : Fx p s m args meth c cX10_game 9 "DustParish" 395 g B)
    {y : (Int32 ⊕ Nat)} (hr : meth.sig.returnType = (some .int)) (hT : l.stackTraces = false) (hex : ∀ x ∈ c.exceptionTable.toList, False) (hf : fX10_game_42 h  = some y) : V p l e 8 1 s m args below meth c (vx_MQ below (QX KC 395 g (ocI y) h) (XX KC 395 g (ocI y) h) args s 1 (6 * 1) (WA 395 g)) KC 395 g B 9 0 h 42 [] [] := by
  unfold fX10_game_42 at hf
  exact v_throw0 (pc := 42) (E := xIA) F hT xw_IA hex dX10_game_42 dX10_game_45 dX10_game_46 dX10_game_49 (congrArg ocI (Option.some.inj hf)) rfl (by decide) (Nat.le_of_ble_eq_true rfl) (by decide)
set_option maxRecDepth 100000 in
set_option maxHeartbeats 4000000 in
theorem tX10_game_155 {p : Program} {l : Launch} {e : Env} {s : State} {m : MethodId} {args : Array Value} {below : List Frame} {meth : Method} {c : Code} {g : GE} {B : Nat} {h : ST}  {l3 : Int32} {l4 : Int32} {l5 : Int32} {l6 : Int32} {l7 : Int32} {l8 : Int32} (F : Fx p s m args meth c cX10_game 9 "DustParish" 395 g B)
    {Q : State → Prop} {y : (Int32 × Int32 × Int32) ⊕ (Int32 × Int32)} (hk : ∀ v : (Int32 × Int32 × Int32), y = Sum.inl v → V p l e 8 1 s m args below meth c Q KC 395 g B 9 0 h 73 [(0, .ref (gA g 0)), (3, .int l3), (4, .int l4), (5, .int l5), (6, .int v.1), (7, .int v.2.1), (8, .int v.2.2)] []) (hx0 : ∀ v : (Int32 × Int32), y = Sum.inr v → V p l e 8 1 s m args below meth c Q KC 395 g B 9 0 h 161 [(3, .int l3), (6, .int v.1), (7, .int v.2)] []) (hf : fX10_game_155 h l3 l4 l5 l6 l7 l8 = some y) : V p l e 8 1 s m args below meth c Q KC 395 g B 9 0 h 155 [(0, .ref (gA g 0)), (3, .int l3), (4, .int l4), (5, .int l5), (6, .int l6), (7, .int l7), (8, .int l8)] [] := by
  unfold fX10_game_155 at hf
  refine v_iinc (pc := 155) (j := 6) (v := l8 + 1) (lv' := [(0, .ref (gA g 0)), (3, .int l3), (4, .int l4), (5, .int l5), (6, .int l6), (7, .int l7), (8, .int (l8 + 1))]) F dX10_game_155 rfl (congrArg (fun z => l8 + z) ic_1) (by decide) rfl ?_
  refine v_goto (pc := 158) (tgt := 73) F dX10_game_158 (by decide) ?_
  exact hk (l6, l7, l8 + 1) (Option.some.inj hf).symm
set_option maxRecDepth 100000 in
set_option maxHeartbeats 4000000 in
theorem tX10_game_73 {p : Program} {l : Launch} {e : Env} {s : State} {m : MethodId} {args : Array Value} {below : List Frame} {meth : Method} {c : Code} {g : GE} {B : Nat}  {h : ST}  {l3 : Int32} {l4 : Int32} {l5 : Int32} {Q : State → Prop} {x : (Int32 × Int32)} {nf : Nat} {s0 : (Int32 × Int32 × Int32)} (F : Fx p s m args meth c cX10_game 9 "DustParish" 395 g B) (hX0 : V p l e 8 1 s m args below meth c Q KC 395 g B 9 0 h 161 [(3, .int l3), (6, .int x.1), (7, .int x.2)] []) (hl : lp nf (fX10_game_73 h l3 l4 l5) s0 = some x) : V p l e 8 1 s m args below meth c Q KC 395 g B 9 0 h 73 [(0, .ref (gA g 0)), (3, .int l3), (4, .int l4), (5, .int l5), (6, .int s0.1), (7, .int s0.2.1), (8, .int s0.2.2)] [] := by
  refine lp_ind (P := fun s0 => V p l e 8 1 s m args below meth c Q KC 395 g B 9 0 h 73 [(0, .ref (gA g 0)), (3, .int l3), (4, .int l4), (5, .int l5), (6, .int s0.1), (7, .int s0.2.1), (8, .int s0.2.2)] []) ?_ nf s0 hl
  intro s1 y hf hk hx
  have hx0 : ∀ v : (Int32 × Int32), y = Sum.inr v → V p l e 8 1 s m args below meth c Q KC 395 g B 9 0 h 161 [(3, .int l3), (6, .int v.1), (7, .int v.2)] [] := fun v e9 => by rw [hx v e9]; exact hX0
  unfold fX10_game_73 at hf
  refine v_iload (pc := 73) (j := 6) F dX10_game_73 rfl ?_
  refine v_iconst (pc := 75) (v := 4) F dX10_game_75 ic_4 ?_
  refine v_icmp_ge (pc := 76) (tgt := 161) F dX10_game_76 (by decide) (fun c12 => ?_) (fun c12 => ?_)
  · have hf := ite_t hf c12
    refine V.sub (lv' := [(3, .int l3), (6, .int s1.1), (7, .int s1.2.1)]) [1, 4, 5] rfl ?_
    exact hx0 (s1.1, s1.2.1) (Option.some.inj hf).symm
  · have hf := ite_f hf c12
    refine v_iload (pc := 79) (j := 2) F dX10_game_79 rfl ?_
    refine v_iconst (pc := 81) (v := (-1)) F dX10_game_81 ic_m1 ?_
    refine v_icmp_eq (pc := 82) (tgt := 161) F dX10_game_82 (by decide) (fun c13 => ?_) (fun c13 => ?_)
    · have hf := ite_t hf c13
      refine V.sub (lv' := [(3, .int l3), (6, .int s1.1), (7, .int s1.2.1)]) [1, 4, 5] rfl ?_
      exact hx0 (s1.1, s1.2.1) (Option.some.inj hf).symm
    · have hf := ite_f hf c13
      refine v_iload (pc := 85) (j := 3) F dX10_game_85 rfl ?_
      refine v_iconst (pc := 87) (v := (-1)) F dX10_game_87 ic_m1 ?_
      refine v_icmp_eq (pc := 88) (tgt := 161) F dX10_game_88 (by decide) (fun c14 => ?_) (fun c14 => ?_)
      · have hf := ite_t hf c14
        refine V.sub (lv' := [(3, .int l3), (6, .int s1.1), (7, .int s1.2.1)]) [1, 4, 5] rfl ?_
        exact hx0 (s1.1, s1.2.1) (Option.some.inj hf).symm
      · have hf := ite_f hf c14
        refine v_aload_n (pc := 91) (j := 0) F dX10_game_91 rfl rfl ?_
        refine v_aload_n (pc := 92) (j := 0) F dX10_game_92 rfl rfl ?_
        refine v_ifl (pc := 93) F fl_X10_42 dX10_game_93 kc_0.1 kc_0.2 fv_9_6 ?_
        refine v_ifl (pc := 96) F fl_X10_122 dX10_game_96 kc_42.1 kc_42.2 fv_2_0 ?_
        refine v_ifl (pc := 99) F fl_X10_171 dX10_game_99 kc_43.1 kc_43.2 fv_7_3 ?_
        refine v_iload (pc := 102) (j := 2) F dX10_game_102 rfl ?_
        obtain ⟨v15, e16, hf⟩ := bnd_some hf
        refine v_iald (pc := 104) F dX10_game_104 kc_44.1 kc_44.2 e16 ?_
        refine v_aload_n (pc := 105) (j := 0) F dX10_game_105 rfl rfl ?_
        refine v_ifl (pc := 106) F fl_X10_42 dX10_game_106 kc_0.1 kc_0.2 fv_9_6 ?_
        refine v_ifl (pc := 109) F fl_X10_122 dX10_game_109 kc_42.1 kc_42.2 fv_2_0 ?_
        refine v_ifl (pc := 112) F fl_X10_171 dX10_game_112 kc_43.1 kc_43.2 fv_7_3 ?_
        refine v_iload (pc := 115) (j := 3) F dX10_game_115 rfl ?_
        obtain ⟨v17, e18, hf⟩ := bnd_some hf
        refine v_iald (pc := 117) F dX10_game_117 kc_44.1 kc_44.2 e18 ?_
        refine v_iload (pc := 118) (j := 6) F dX10_game_118 rfl ?_
        refine v_iconst (pc := 120) (v := 1) F dX10_game_120 ic_1 ?_
        refine v_ishr (pc := 121) F dX10_game_121 ?_
        refine v_iload (pc := 122) (j := 6) F dX10_game_122 rfl ?_
        refine v_iconst (pc := 124) (v := 1) F dX10_game_124 ic_1 ?_
        refine v_iand (pc := 125) F dX10_game_125 ?_
        obtain ⟨r19, e20, hf⟩ := bnd_some hf
        refine v_callVi (pc := 126) (As := [.int v15, .int v17, .int (s1.2.2 >>> ((1 : Int32) &&& 31)), .int (s1.2.2 &&& 1)]) F cl_X10_325 dX10_game_126 (kX10_rests e20) kc_0.1 kc_0.2 rc_9 rfl rfl (Nat.le_of_ble_eq_true rfl) (by decide) (Nat.zero_le _) ?_
        refine v_if_eq (pc := 129) (tgt := 155) F dX10_game_129 (by decide) (fun c21 => ?_) (fun c21 => ?_)
        · have hf := ite_t hf c21
          exact tX10_game_155 F hk hx0 hf
        · have hf := ite_f hf c21
          refine v_iinc (pc := 132) (j := 4) (v := s1.1 + 1) (lv' := [(0, .ref (gA g 0)), (3, .int l3), (4, .int l4), (5, .int l5), (6, .int (s1.1 + 1)), (7, .int s1.2.1), (8, .int s1.2.2)]) F dX10_game_132 rfl (congrArg (fun z => s1.1 + z) ic_1) (by decide) rfl ?_
          refine v_iload (pc := 135) (j := 5) F dX10_game_135 rfl ?_
          refine v_iconst (pc := 137) (v := (-1)) F dX10_game_137 ic_m1 ?_
          refine v_icmp_ne (pc := 138) (tgt := 155) F dX10_game_138 (by decide) (fun c22 => ?_) (fun c22 => ?_)
          · have hf := ite_f hf c22
            exact tX10_game_155 F hk hx0 hf
          · have hf := ite_t hf c22
            refine v_bipush (pc := 141) (v := 10) F dX10_game_141 bp_10 ?_
            refine v_iload (pc := 143) (j := 6) F dX10_game_143 rfl ?_
            refine v_iconst (pc := 145) (v := 1) F dX10_game_145 ic_1 ?_
            refine v_ishr (pc := 146) F dX10_game_146 ?_
            refine v_imul (pc := 147) F dX10_game_147 ?_
            refine v_iload (pc := 148) (j := 6) F dX10_game_148 rfl ?_
            refine v_iconst (pc := 150) (v := 1) F dX10_game_150 ic_1 ?_
            refine v_iand (pc := 151) F dX10_game_151 ?_
            refine v_iadd (pc := 152) F dX10_game_152 ?_
            refine v_istore (pc := 153) (lv' := [(0, .ref (gA g 0)), (3, .int l3), (4, .int l4), (5, .int l5), (6, .int (s1.1 + 1)), (7, .int ((10 * (s1.2.2 >>> ((1 : Int32) &&& 31))) + (s1.2.2 &&& 1))), (8, .int s1.2.2)]) F dX10_game_153 (by decide) rfl ?_
            exact tX10_game_155 F hk hx0 hf
set_option maxRecDepth 100000 in
set_option maxHeartbeats 4000000 in
theorem tX10_game_172 {p : Program} {l : Launch} {e : Env} {s : State} {m : MethodId} {args : Array Value} {below : List Frame} {meth : Method} {c : Code} {g : GE} {B : Nat} {h : ST}  {q0 : Int32} (F : Fx p s m args meth c cX10_game 9 "DustParish" 395 g B)
    {y : (Int32 ⊕ Nat)} (hr : meth.sig.returnType = (some .int)) (hT : l.stackTraces = false) (hex : ∀ x ∈ c.exceptionTable.toList, False) (hf : fX10_game_172 h q0 = some y) : V p l e 8 1 s m args below meth c (vx_MQ below (QX KC 395 g (ocI y) h) (XX KC 395 g (ocI y) h) args s 1 (6 * 1) (WA 395 g)) KC 395 g B 9 0 h 172 [] [.int q0] := by
  unfold fX10_game_172 at hf
  exact v_xiret (pc := 172) F hr dX10_game_172 (Option.some.inj hf) rfl (by decide)
set_option maxRecDepth 100000 in
set_option maxHeartbeats 4000000 in
theorem tX10_game_161 {p : Program} {l : Launch} {e : Env} {s : State} {m : MethodId} {args : Array Value} {below : List Frame} {meth : Method} {c : Code} {g : GE} {B : Nat} {h : ST}  {l3 : Int32} {l6 : Int32} {l7 : Int32} (F : Fx p s m args meth c cX10_game 9 "DustParish" 395 g B)
    {y : (Int32 ⊕ Nat)} (hr : meth.sig.returnType = (some .int)) (hT : l.stackTraces = false) (hex : ∀ x ∈ c.exceptionTable.toList, False) (hf : fX10_game_161 h l3 l6 l7 = some y) : V p l e 8 1 s m args below meth c (vx_MQ below (QX KC 395 g (ocI y) h) (XX KC 395 g (ocI y) h) args s 1 (6 * 1) (WA 395 g)) KC 395 g B 9 0 h 161 [(3, .int l3), (6, .int l6), (7, .int l7)] [] := by
  unfold fX10_game_161 at hf
  refine v_iload_n (pc := 161) (j := 0) F dX10_game_161 rfl rfl ?_
  refine v_if_ne (pc := 162) (tgt := 170) F dX10_game_162 (by decide) (fun c25 => ?_) (fun c25 => ?_)
  · have hf := ite_f hf c25
    refine v_iload (pc := 170) (j := 2) F dX10_game_170 rfl ?_
    refine V.sub (lv' := []) [] rfl ?_
    exact tX10_game_172 F hr hT hex hf
  · have hf := ite_t hf c25
    refine v_iload (pc := 165) (j := 1) F dX10_game_165 rfl ?_
    refine v_goto (pc := 167) (tgt := 172) F dX10_game_167 (by decide) ?_
    refine V.sub (lv' := []) [] rfl ?_
    exact tX10_game_172 F hr hT hex hf
set_option maxRecDepth 100000 in
set_option maxHeartbeats 4000000 in
theorem kX10_game {l : Launch} {g : GE} {B : Nat} {h : ST} {a1 : Int32} {a2 : Int32} {a3 : Int32} {y : (Int32 ⊕ Nat)} (hT : l.stackTraces = false) (hf : fX10_game h a1 a2 a3 = some y) : XT l yX10_game cX10_game 9 (some .int) 8 1 KC 395 g B [.ref (gA g 0), .int a1, .int a2, .int a3] h (ocI y) h := by
  refine XT.of pn_X10 (Nat.le_of_ble_eq_true rfl) ?_
  intro p e s m below meth c hr hex F
  have F : Fx p s m _ meth c cX10_game 9 "DustParish" 395 g B := F
  refine V_lv (lv' := [(0, .ref (gA g 0)), (1, .int a1), (2, .int a2), (3, .int a3)]) rfl ?_
  unfold fX10_game at hf
  refine v_iload_n (pc := 0) (j := 3) F dX10_game_0 rfl rfl ?_
  refine v_if_lt (pc := 1) (tgt := 9) F dX10_game_1 (by decide) (fun c1 => ?_) (fun c1 => ?_)
  · have hf := ite_t hf c1
    refine V.sub (lv' := []) [] rfl ?_
    exact tX10_game_9 F hr hT hex hf
  · have hf := ite_f hf c1
    refine v_iload_n (pc := 4) (j := 3) F dX10_game_4 rfl rfl ?_
    refine v_iconst (pc := 5) (v := 1) F dX10_game_5 ic_1 ?_
    refine v_icmp_le (pc := 6) (tgt := 17) F dX10_game_6 (by decide) (fun c2 => ?_) (fun c2 => ?_)
    · have hf := ite_t hf c2
      refine v_iload_n (pc := 17) (j := 1) F dX10_game_17 rfl rfl ?_
      refine v_if_lt (pc := 18) (tgt := 42) F dX10_game_18 (by decide) (fun c3 => ?_) (fun c3 => ?_)
      · have hf := ite_t hf c3
        refine V.sub (lv' := []) [] rfl ?_
        exact tX10_game_42 F hr hT hex hf
      · have hf := ite_f hf c3
        refine v_iload_n (pc := 21) (j := 1) F dX10_game_21 rfl rfl ?_
        refine v_bipush (pc := 22) (v := 6) F dX10_game_22 bp_6 ?_
        refine v_icmp_ge (pc := 24) (tgt := 42) F dX10_game_24 (by decide) (fun c4 => ?_) (fun c4 => ?_)
        · have hf := ite_t hf c4
          refine V.sub (lv' := []) [] rfl ?_
          exact tX10_game_42 F hr hT hex hf
        · have hf := ite_f hf c4
          refine v_iload_n (pc := 27) (j := 2) F dX10_game_27 rfl rfl ?_
          refine v_if_lt (pc := 28) (tgt := 42) F dX10_game_28 (by decide) (fun c5 => ?_) (fun c5 => ?_)
          · have hf := ite_t hf c5
            refine V.sub (lv' := []) [] rfl ?_
            exact tX10_game_42 F hr hT hex hf
          · have hf := ite_f hf c5
            refine v_iload_n (pc := 31) (j := 2) F dX10_game_31 rfl rfl ?_
            refine v_bipush (pc := 32) (v := 6) F dX10_game_32 bp_6 ?_
            refine v_icmp_ge (pc := 34) (tgt := 42) F dX10_game_34 (by decide) (fun c6 => ?_) (fun c6 => ?_)
            · have hf := ite_t hf c6
              refine V.sub (lv' := []) [] rfl ?_
              exact tX10_game_42 F hr hT hex hf
            · have hf := ite_f hf c6
              refine v_iload_n (pc := 37) (j := 1) F dX10_game_37 rfl rfl ?_
              refine v_iload_n (pc := 38) (j := 2) F dX10_game_38 rfl rfl ?_
              refine v_icmp_ne (pc := 39) (tgt := 50) F dX10_game_39 (by decide) (fun c7 => ?_) (fun c7 => ?_)
              · have hf := ite_f hf c7
                refine v_aload_n (pc := 50) (j := 0) F dX10_game_50 rfl rfl ?_
                refine v_iload_n (pc := 51) (j := 1) F dX10_game_51 rfl rfl ?_
                obtain ⟨r8, e9, hf⟩ := bnd_some hf
                refine v_callVi (pc := 52) (As := [.int a1]) F cl_X10_322 dX10_game_52 (kX10_lowestRoom e9) kc_0.1 kc_0.2 rc_9 rfl rfl (Nat.le_of_ble_eq_true rfl) (by decide) (Nat.zero_le _) ?_
                refine v_istore (pc := 55) (lv' := [(0, .ref (gA g 0)), (1, .int a1), (2, .int a2), (3, .int a3), (4, .int r8)]) F dX10_game_55 (by decide) rfl ?_
                refine v_aload_n (pc := 57) (j := 0) F dX10_game_57 rfl rfl ?_
                refine v_iload_n (pc := 58) (j := 2) F dX10_game_58 rfl rfl ?_
                obtain ⟨r10, e11, hf⟩ := bnd_some hf
                refine v_callVi (pc := 59) (As := [.int a2]) F cl_X10_322 dX10_game_59 (kX10_lowestRoom e11) kc_0.1 kc_0.2 rc_9 rfl rfl (Nat.le_of_ble_eq_true rfl) (by decide) (Nat.zero_le _) ?_
                refine v_istore (pc := 62) (lv' := [(0, .ref (gA g 0)), (1, .int a1), (2, .int a2), (3, .int a3), (4, .int r8), (5, .int r10)]) F dX10_game_62 (by decide) rfl ?_
                refine v_iconst (pc := 64) (v := 0) F dX10_game_64 ic_0 ?_
                refine v_istore (pc := 65) (lv' := [(0, .ref (gA g 0)), (1, .int a1), (2, .int a2), (3, .int a3), (4, .int r8), (5, .int r10), (6, .int 0)]) F dX10_game_65 (by decide) rfl ?_
                refine v_iconst (pc := 67) (v := (-1)) F dX10_game_67 ic_m1 ?_
                refine v_istore (pc := 68) (lv' := [(0, .ref (gA g 0)), (1, .int a1), (2, .int a2), (3, .int a3), (4, .int r8), (5, .int r10), (6, .int 0), (7, .int (-1))]) F dX10_game_68 (by decide) rfl ?_
                refine v_iconst (pc := 70) (v := 0) F dX10_game_70 ic_0 ?_
                refine v_istore (pc := 71) (lv' := [(0, .ref (gA g 0)), (1, .int a1), (2, .int a2), (3, .int a3), (4, .int r8), (5, .int r10), (6, .int 0), (7, .int (-1)), (8, .int 0)]) F dX10_game_71 (by decide) rfl ?_
                obtain ⟨x23, e24, hf⟩ := bnd_some hf
                refine V.sub (lv' := [(0, .ref (gA g 0)), (3, .int a3), (4, .int r8), (5, .int r10), (6, .int 0), (7, .int (-1)), (8, .int 0)]) [0, 3, 4, 5, 6, 7, 8] rfl ?_
                refine tX10_game_73 (s0 := (0, (-1), 0)) F ?_ e24
                exact tX10_game_161 F hr hT hex hf
              · have hf := ite_t hf c7
                refine V.sub (lv' := []) [] rfl ?_
                exact tX10_game_42 F hr hT hex hf
    · have hf := ite_f hf c2
      refine V.sub (lv' := []) [] rfl ?_
      exact tX10_game_9 F hr hT hex hf
def fX7_lastDay_4 (h : ST) (o : Nat) (s1 : (Int32 × Int32)) : Option ((Int32 × Int32) ⊕ Int32) :=
  if (h o 0) ≤ s1.2 then
  some (.inr s1.1)
  else
  bnd (rd 8 (h (o + 2)) s1.2) fun v2 =>
    some (.inl ((if s1.1 < v2 then v2 else s1.1), s1.2 + 1))
def fX7_lastDay (h : ST) (o : Nat) : Option (Int32) :=
  bnd (lp FU (fX7_lastDay_4 h o) ((-1), 0)) fun x4 =>
  some x4
set_option maxRecDepth 100000 in
set_option maxHeartbeats 4000000 in
theorem tX7_lastDay_4 {p : Program} {l : Launch} {e : Env} {s : State} {m : MethodId} {args : Array Value} {below : List Frame} {meth : Method} {c : Code} {g : GE} {B : Nat}  {h : ST} {o : Nat} (ho_o : o < 395) (hk_o : KC o = (6, 0)) {Q : State → Prop} {x : Int32} {nf : Nat} {s0 : (Int32 × Int32)} (F : Fx p s m args meth c cX7_lastDay 3 "DustParish$Sights" 395 g B) (hX0 : V p l e 1 0 s m args below meth c Q KC 395 g B 3 0 h 29 [(1, .int x)] []) (hl : lp nf (fX7_lastDay_4 h o) s0 = some x) : V p l e 1 0 s m args below meth c Q KC 395 g B 3 0 h 4 [(0, .ref (gA g o)), (1, .int s0.1), (2, .int s0.2)] [] := by
  refine lp_ind (P := fun s0 => V p l e 1 0 s m args below meth c Q KC 395 g B 3 0 h 4 [(0, .ref (gA g o)), (1, .int s0.1), (2, .int s0.2)] []) ?_ nf s0 hl
  intro s1 y hf hk hx
  have hx0 : ∀ v : Int32, y = Sum.inr v → V p l e 1 0 s m args below meth c Q KC 395 g B 3 0 h 29 [(1, .int v)] [] := fun v e9 => by rw [hx v e9]; exact hX0
  unfold fX7_lastDay_4 at hf
  refine v_iload_n (pc := 4) (j := 2) F dX7_lastDay_4 rfl rfl ?_
  refine v_aload_n (pc := 5) (j := 0) F dX7_lastDay_5 rfl rfl ?_
  refine v_ifl (pc := 6) F fl_X7_9 dX7_lastDay_6 ho_o hk_o fv_6_0 ?_
  refine v_icmp_ge (pc := 9) (tgt := 29) F dX7_lastDay_9 (by decide) (fun c1 => ?_) (fun c1 => ?_)
  · have hf := ite_t hf c1
    refine V.sub (lv' := [(1, .int s1.1)]) [1] rfl ?_
    exact hx0 s1.1 (Option.some.inj hf).symm
  · have hf := ite_f hf c1
    refine v_iload_n (pc := 12) (j := 1) F dX7_lastDay_12 rfl rfl ?_
    refine v_aload_n (pc := 13) (j := 0) F dX7_lastDay_13 rfl rfl ?_
    refine v_ifl (pc := 14) F fl_X7_19 dX7_lastDay_14 ho_o hk_o fv_6_2 ?_
    refine v_iload_n (pc := 17) (j := 2) F dX7_lastDay_17 rfl rfl ?_
    obtain ⟨v2, e3, hf⟩ := bnd_some hf
    refine v_iald (pc := 18) F dX7_lastDay_18 (ly_6_2 ho_o hk_o).1 (ly_6_2 ho_o hk_o).2 e3 ?_
    refine v_mmax (pc := 19) F tw_1202 mmaxW dX7_lastDay_19 (by decide) (Nat.le_of_ble_eq_true rfl) (Nat.zero_le _) ?_
    refine v_istore_n (pc := 22) (lv' := [(0, .ref (gA g o)), (1, .int (if s1.1 < v2 then v2 else s1.1)), (2, .int s1.2)]) F dX7_lastDay_22 rfl (by decide) rfl ?_
    refine v_iinc (pc := 23) (j := 2) (v := s1.2 + 1) (lv' := [(0, .ref (gA g o)), (1, .int (if s1.1 < v2 then v2 else s1.1)), (2, .int (s1.2 + 1))]) F dX7_lastDay_23 rfl (congrArg (fun z => s1.2 + z) ic_1) (by decide) rfl ?_
    refine v_goto (pc := 26) (tgt := 4) F dX7_lastDay_26 (by decide) ?_
    exact hk ((if s1.1 < v2 then v2 else s1.1), s1.2 + 1) (Option.some.inj hf).symm
set_option maxRecDepth 100000 in
set_option maxHeartbeats 4000000 in
theorem kX7_lastDay {l : Launch} {g : GE} {B : Nat} {h : ST} {o : Nat} (ho_o : o < 395) (hk_o : KC o = (6, 0)) {y : Int32} (hf : fX7_lastDay h o = some y) : CT l yX7_lastDay cX7_lastDay 3 (some .int) 1 KC 395 g B [.ref (gA g o)] h (some (.int y)) h := by
  refine CT.of pn_X7 (Nat.le_of_ble_eq_true rfl) ?_
  intro p e s m below meth c hr F
  have F : Fx p s m _ meth c cX7_lastDay 3 "DustParish$Sights" 395 g B := F
  refine V_lv (lv' := [(0, .ref (gA g o))]) rfl ?_
  unfold fX7_lastDay at hf
  refine v_iconst (pc := 0) (v := (-1)) F dX7_lastDay_0 ic_m1 ?_
  refine v_istore_n (pc := 1) (lv' := [(0, .ref (gA g o)), (1, .int (-1))]) F dX7_lastDay_1 rfl (by decide) rfl ?_
  refine v_iconst (pc := 2) (v := 0) F dX7_lastDay_2 ic_0 ?_
  refine v_istore_n (pc := 3) (lv' := [(0, .ref (gA g o)), (1, .int (-1)), (2, .int 0)]) F dX7_lastDay_3 rfl (by decide) rfl ?_
  obtain ⟨x4, e5, hf⟩ := bnd_some hf
  refine tX7_lastDay_4 (s0 := ((-1), 0)) ho_o hk_o F ?_ e5
  refine v_iload_n (pc := 29) (j := 0) F dX7_lastDay_29 rfl rfl ?_
  exact v_iret (pc := 30) F hr dX7_lastDay_30 (Option.some.inj hf) rfl (Nat.zero_le _)
def fX7_areSo_42 (h : ST) (o : Nat) (o2 : Nat) (l1 : Int32) (l3 : Int32) : Option (Int32 ⊕ (Unit ⊕ Unit)) :=
  some (.inl (l3 + 1))
def fX7_areSo_2 (h : ST) (o : Nat) (o2 : Nat) (l1 : Int32) (s1 : Int32) : Option (Int32 ⊕ (Unit ⊕ Unit)) :=
  if (h o 0) ≤ s1 then
  some (.inr (.inr ()))
  else
  bnd (rd 8 (h (o + 2)) s1) fun v2 =>
    if v2 = l1 then
    bnd (rd 8 (h (o + 1)) s1) fun v5 =>
      bnd (rd 9 (h (o2 + 1)) v5) fun v7 =>
      bnd (rd 8 (h (o + 3)) s1) fun v9 =>
      if v7 = v9 then
      fX7_areSo_42 h o o2 l1 s1
      else
      some (.inr (.inl ()))
    else
    fX7_areSo_42 h o o2 l1 s1
def fX7_areSo (h : ST) (o : Nat) (a1 : Int32) (o2 : Nat) : Option (Int32) :=
  bnd (lp FU (fX7_areSo_2 h o o2 a1) 0) fun x12 =>
  sm x12 (fun v => some 0) (fun v => some 1)
set_option maxRecDepth 100000 in
set_option maxHeartbeats 4000000 in
theorem tX7_areSo_42 {p : Program} {l : Launch} {e : Env} {s : State} {m : MethodId} {args : Array Value} {below : List Frame} {meth : Method} {c : Code} {g : GE} {B : Nat} {h : ST} {o : Nat} (ho_o : o < 395) (hk_o : KC o = (6, 0)) {o2 : Nat} (ho_o2 : o2 < 395) (hk_o2 : KC o2 = (7, 0)) {l1 : Int32} {l3 : Int32} (F : Fx p s m args meth c cX7_areSo 4 "DustParish$Sights" 395 g B)
    {Q : State → Prop} {y : Int32 ⊕ (Unit ⊕ Unit)} (hk : ∀ v : Int32, y = Sum.inl v → V p l e 1 0 s m args below meth c Q KC 395 g B 4 0 h 2 [(0, .ref (gA g o)), (1, .int l1), (2, .ref (gA g o2)), (3, .int v)] []) (hx0 : ∀ v : Unit, y = Sum.inr (.inl v) → V p l e 1 0 s m args below meth c Q KC 395 g B 4 0 h 40 [] []) (hx1 : ∀ v : Unit, y = Sum.inr (.inr v) → V p l e 1 0 s m args below meth c Q KC 395 g B 4 0 h 48 [] []) (hf : fX7_areSo_42 h o o2 l1 l3 = some y) : V p l e 1 0 s m args below meth c Q KC 395 g B 4 0 h 42 [(0, .ref (gA g o)), (1, .int l1), (2, .ref (gA g o2)), (3, .int l3)] [] := by
  unfold fX7_areSo_42 at hf
  refine v_iinc (pc := 42) (j := 3) (v := l3 + 1) (lv' := [(0, .ref (gA g o)), (1, .int l1), (2, .ref (gA g o2)), (3, .int (l3 + 1))]) F dX7_areSo_42 rfl (congrArg (fun z => l3 + z) ic_1) (by decide) rfl ?_
  refine v_goto (pc := 45) (tgt := 2) F dX7_areSo_45 (by decide) ?_
  exact hk (l3 + 1) (Option.some.inj hf).symm
set_option maxRecDepth 100000 in
set_option maxHeartbeats 4000000 in
theorem tX7_areSo_2 {p : Program} {l : Launch} {e : Env} {s : State} {m : MethodId} {args : Array Value} {below : List Frame} {meth : Method} {c : Code} {g : GE} {B : Nat}  {h : ST} {o : Nat} (ho_o : o < 395) (hk_o : KC o = (6, 0)) {o2 : Nat} (ho_o2 : o2 < 395) (hk_o2 : KC o2 = (7, 0)) {l1 : Int32} {Q : State → Prop} {x : (Unit ⊕ Unit)} {nf : Nat} {s0 : Int32} (F : Fx p s m args meth c cX7_areSo 4 "DustParish$Sights" 395 g B) (hX0 : ∀ v : Unit, x = (.inl v) → V p l e 1 0 s m args below meth c Q KC 395 g B 4 0 h 40 [] []) (hX1 : ∀ v : Unit, x = (.inr v) → V p l e 1 0 s m args below meth c Q KC 395 g B 4 0 h 48 [] []) (hl : lp nf (fX7_areSo_2 h o o2 l1) s0 = some x) : V p l e 1 0 s m args below meth c Q KC 395 g B 4 0 h 2 [(0, .ref (gA g o)), (1, .int l1), (2, .ref (gA g o2)), (3, .int s0)] [] := by
  refine lp_ind (P := fun s0 => V p l e 1 0 s m args below meth c Q KC 395 g B 4 0 h 2 [(0, .ref (gA g o)), (1, .int l1), (2, .ref (gA g o2)), (3, .int s0)] []) ?_ nf s0 hl
  intro s1 y hf hk hx
  have hx0 : ∀ v : Unit, y = Sum.inr (.inl v) → V p l e 1 0 s m args below meth c Q KC 395 g B 4 0 h 40 [] [] := fun v e9 => hX0 v (hx _ e9).symm
  have hx1 : ∀ v : Unit, y = Sum.inr (.inr v) → V p l e 1 0 s m args below meth c Q KC 395 g B 4 0 h 48 [] [] := fun v e9 => hX1 v (hx _ e9).symm
  unfold fX7_areSo_2 at hf
  refine v_iload_n (pc := 2) (j := 3) F dX7_areSo_2 rfl rfl ?_
  refine v_aload_n (pc := 3) (j := 0) F dX7_areSo_3 rfl rfl ?_
  refine v_ifl (pc := 4) F fl_X7_9 dX7_areSo_4 ho_o hk_o fv_6_0 ?_
  refine v_icmp_ge (pc := 7) (tgt := 48) F dX7_areSo_7 (by decide) (fun c1 => ?_) (fun c1 => ?_)
  · have hf := ite_t hf c1
    refine V.sub (lv' := []) [] rfl ?_
    exact hx1 () (Option.some.inj hf).symm
  · have hf := ite_f hf c1
    refine v_aload_n (pc := 10) (j := 0) F dX7_areSo_10 rfl rfl ?_
    refine v_ifl (pc := 11) F fl_X7_19 dX7_areSo_11 ho_o hk_o fv_6_2 ?_
    refine v_iload_n (pc := 14) (j := 3) F dX7_areSo_14 rfl rfl ?_
    obtain ⟨v2, e3, hf⟩ := bnd_some hf
    refine v_iald (pc := 15) F dX7_areSo_15 (ly_6_2 ho_o hk_o).1 (ly_6_2 ho_o hk_o).2 e3 ?_
    refine v_iload_n (pc := 16) (j := 1) F dX7_areSo_16 rfl rfl ?_
    refine v_icmp_ne (pc := 17) (tgt := 42) F dX7_areSo_17 (by decide) (fun c4 => ?_) (fun c4 => ?_)
    · have hf := ite_f hf c4
      exact tX7_areSo_42 ho_o hk_o ho_o2 hk_o2 F hk hx0 hx1 hf
    · have hf := ite_t hf c4
      refine v_aload_n (pc := 20) (j := 2) F dX7_areSo_20 rfl rfl ?_
      refine v_ifl (pc := 21) F fl_X7_31 dX7_areSo_21 ho_o2 hk_o2 fv_7_3 ?_
      refine v_aload_n (pc := 24) (j := 0) F dX7_areSo_24 rfl rfl ?_
      refine v_ifl (pc := 25) F fl_X7_15 dX7_areSo_25 ho_o hk_o fv_6_1 ?_
      refine v_iload_n (pc := 28) (j := 3) F dX7_areSo_28 rfl rfl ?_
      obtain ⟨v5, e6, hf⟩ := bnd_some hf
      refine v_iald (pc := 29) F dX7_areSo_29 (ly_6_1 ho_o hk_o).1 (ly_6_1 ho_o hk_o).2 e6 ?_
      obtain ⟨v7, e8, hf⟩ := bnd_some hf
      refine v_iald (pc := 30) F dX7_areSo_30 (ly_7_3 ho_o2 hk_o2).1 (ly_7_3 ho_o2 hk_o2).2 e8 ?_
      refine v_aload_n (pc := 31) (j := 0) F dX7_areSo_31 rfl rfl ?_
      refine v_ifl (pc := 32) F fl_X7_22 dX7_areSo_32 ho_o hk_o fv_6_3 ?_
      refine v_iload_n (pc := 35) (j := 3) F dX7_areSo_35 rfl rfl ?_
      obtain ⟨v9, e10, hf⟩ := bnd_some hf
      refine v_iald (pc := 36) F dX7_areSo_36 (ly_6_3 ho_o hk_o).1 (ly_6_3 ho_o hk_o).2 e10 ?_
      refine v_icmp_eq (pc := 37) (tgt := 42) F dX7_areSo_37 (by decide) (fun c11 => ?_) (fun c11 => ?_)
      · have hf := ite_t hf c11
        exact tX7_areSo_42 ho_o hk_o ho_o2 hk_o2 F hk hx0 hx1 hf
      · have hf := ite_f hf c11
        refine V.sub (lv' := []) [] rfl ?_
        exact hx0 () (Option.some.inj hf).symm
set_option maxRecDepth 100000 in
set_option maxHeartbeats 4000000 in
theorem kX7_areSo {l : Launch} {g : GE} {B : Nat} {h : ST} {o : Nat} (ho_o : o < 395) (hk_o : KC o = (6, 0)) {a1 : Int32} {o2 : Nat} (ho_o2 : o2 < 395) (hk_o2 : KC o2 = (7, 0)) {y : Int32} (hf : fX7_areSo h o a1 o2 = some y) : CT l yX7_areSo cX7_areSo 4 (some .boolean) 1 KC 395 g B [.ref (gA g o), .int a1, .ref (gA g o2)] h (some (.int y)) h := by
  refine CT.of pn_X7 (Nat.le_of_ble_eq_true rfl) ?_
  intro p e s m below meth c hr F
  have F : Fx p s m _ meth c cX7_areSo 4 "DustParish$Sights" 395 g B := F
  refine V_lv (lv' := [(0, .ref (gA g o)), (1, .int a1), (2, .ref (gA g o2))]) rfl ?_
  unfold fX7_areSo at hf
  refine v_iconst (pc := 0) (v := 0) F dX7_areSo_0 ic_0 ?_
  refine v_istore_n (pc := 1) (lv' := [(0, .ref (gA g o)), (1, .int a1), (2, .ref (gA g o2)), (3, .int 0)]) F dX7_areSo_1 rfl (by decide) rfl ?_
  obtain ⟨x12, e13, hf⟩ := bnd_some hf
  refine tX7_areSo_2 (s0 := 0) ho_o hk_o ho_o2 hk_o2 F (fun v e9 => ?_) (fun v e9 => ?_) e13
  · subst e9
    have hf := sm_l hf
    refine v_iconst (pc := 40) (v := 0) F dX7_areSo_40 ic_0 ?_
    exact v_zret (pc := 41) F hr dX7_areSo_41 rfl (Option.some.inj hf) rfl (Nat.zero_le _)
  · subst e9
    have hf := sm_r hf
    refine v_iconst (pc := 48) (v := 1) F dX7_areSo_48 ic_1 ?_
    exact v_zret (pc := 49) F hr dX7_areSo_49 rfl (Option.some.inj hf) rfl (Nat.zero_le _)
