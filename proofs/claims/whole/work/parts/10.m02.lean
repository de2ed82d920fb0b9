def fX11_heretics_52 (h : ST) (l2 : Int32) (q0 : Int32) (q1 : Int32) : Option ((Int32 × Int32) ⊕ Int32) :=
  some (.inl (q0 ||| q1, l2 + 1))
def fX11_heretics_51 (h : ST) (l2 : Int32) (q0 : Int32) : Option ((Int32 × Int32) ⊕ Int32) :=
  fX11_heretics_52 h l2 q0 0
def fX11_heretics_4 (h : ST) (s1 : (Int32 × Int32)) : Option ((Int32 × Int32) ⊕ Int32) :=
  bnd (rd 14 (h 3) 0) fun v1 =>
  if v1 ≤ s1.2 then
  some (.inr s1.1)
  else
  bnd (rd 18 (h 4) s1.2) fun v4 =>
    if v4 = 2 then
    fX11_heretics_51 h s1.2 s1.1
    else
    bnd (rd 9 (h 19) s1.2) fun v7 =>
      bnd (rd 14 (h 3) 5) fun v9 =>
      if v9 ≤ v7 then
      fX11_heretics_51 h s1.2 s1.1
      else
      bnd (rd 18 (h 5) s1.2) fun v12 =>
        fX11_heretics_52 h s1.2 s1.1 ((1 : Int32) <<< (v12 &&& 31))
def fX11_heretics (h : ST) : Option (Int32) :=
  bnd (lp FU (fX11_heretics_4 h) (0, 0)) fun x14 =>
  some x14
set_option maxRecDepth 100000 in
set_option maxHeartbeats 4000000 in
theorem tX11_heretics_52 {p : Program} {l : Launch} {e : Env} {s : State} {m : MethodId} {args : Array Value} {below : List Frame} {meth : Method} {c : Code} {g : GE} {B : Nat} {h : ST}  {l2 : Int32} {q0 : Int32} {q1 : Int32} (F : Fx p s m args meth c cX11_heretics 3 "DustParishModel" 43 g B)
    {Q : State → Prop} {y : (Int32 × Int32) ⊕ Int32} (hk : ∀ v : (Int32 × Int32), y = Sum.inl v → V p l e 1 0 s m args below meth c Q KM 43 g B 3 0 h 4 [(0, .ref (gA g 0)), (1, .int v.1), (2, .int v.2)] []) (hx0 : ∀ v : Int32, y = Sum.inr v → V p l e 1 0 s m args below meth c Q KM 43 g B 3 0 h 60 [(1, .int v)] []) (hf : fX11_heretics_52 h l2 q0 q1 = some y) : V p l e 1 0 s m args below meth c Q KM 43 g B 3 0 h 52 [(0, .ref (gA g 0)), (2, .int l2)] [.int q1, .int q0] := by
  unfold fX11_heretics_52 at hf
  refine v_ior (pc := 52) F dX11_heretics_52 ?_
  refine v_istore_n (pc := 53) (lv' := [(0, .ref (gA g 0)), (1, .int (q0 ||| q1)), (2, .int l2)]) F dX11_heretics_53 rfl (by decide) rfl ?_
  refine v_iinc (pc := 54) (j := 2) (v := l2 + 1) (lv' := [(0, .ref (gA g 0)), (1, .int (q0 ||| q1)), (2, .int (l2 + 1))]) F dX11_heretics_54 rfl (congrArg (fun z => l2 + z) ic_1) (by decide) rfl ?_
  refine v_goto (pc := 57) (tgt := 4) F dX11_heretics_57 (by decide) ?_
  exact hk (q0 ||| q1, l2 + 1) (Option.some.inj hf).symm
set_option maxRecDepth 100000 in
set_option maxHeartbeats 4000000 in
theorem tX11_heretics_51 {p : Program} {l : Launch} {e : Env} {s : State} {m : MethodId} {args : Array Value} {below : List Frame} {meth : Method} {c : Code} {g : GE} {B : Nat} {h : ST}  {l2 : Int32} {q0 : Int32} (F : Fx p s m args meth c cX11_heretics 3 "DustParishModel" 43 g B)
    {Q : State → Prop} {y : (Int32 × Int32) ⊕ Int32} (hk : ∀ v : (Int32 × Int32), y = Sum.inl v → V p l e 1 0 s m args below meth c Q KM 43 g B 3 0 h 4 [(0, .ref (gA g 0)), (1, .int v.1), (2, .int v.2)] []) (hx0 : ∀ v : Int32, y = Sum.inr v → V p l e 1 0 s m args below meth c Q KM 43 g B 3 0 h 60 [(1, .int v)] []) (hf : fX11_heretics_51 h l2 q0 = some y) : V p l e 1 0 s m args below meth c Q KM 43 g B 3 0 h 51 [(0, .ref (gA g 0)), (2, .int l2)] [.int q0] := by
  unfold fX11_heretics_51 at hf
  refine v_iconst (pc := 51) (v := 0) F dX11_heretics_51 ic_0 ?_
  exact tX11_heretics_52 F hk hx0 hf
set_option maxRecDepth 100000 in
set_option maxHeartbeats 4000000 in
theorem tX11_heretics_4 {p : Program} {l : Launch} {e : Env} {s : State} {m : MethodId} {args : Array Value} {below : List Frame} {meth : Method} {c : Code} {g : GE} {B : Nat}  {h : ST}  {Q : State → Prop} {x : Int32} {nf : Nat} {s0 : (Int32 × Int32)} (F : Fx p s m args meth c cX11_heretics 3 "DustParishModel" 43 g B) (hX0 : V p l e 1 0 s m args below meth c Q KM 43 g B 3 0 h 60 [(1, .int x)] []) (hl : lp nf (fX11_heretics_4 h) s0 = some x) : V p l e 1 0 s m args below meth c Q KM 43 g B 3 0 h 4 [(0, .ref (gA g 0)), (1, .int s0.1), (2, .int s0.2)] [] := by
  refine lp_ind (P := fun s0 => V p l e 1 0 s m args below meth c Q KM 43 g B 3 0 h 4 [(0, .ref (gA g 0)), (1, .int s0.1), (2, .int s0.2)] []) ?_ nf s0 hl
  intro s1 y hf hk hx
  have hx0 : ∀ v : Int32, y = Sum.inr v → V p l e 1 0 s m args below meth c Q KM 43 g B 3 0 h 60 [(1, .int v)] [] := fun v e9 => by rw [hx v e9]; exact hX0
  unfold fX11_heretics_4 at hf
  refine v_iload_n (pc := 4) (j := 2) F dX11_heretics_4 rfl rfl ?_
  refine v_aload_n (pc := 5) (j := 0) F dX11_heretics_5 rfl rfl ?_
  refine v_ifl (pc := 6) F fl_X11_36 dX11_heretics_6 km_0.1 km_0.2 fv_10_3 ?_
  refine v_iconst (pc := 9) (v := 0) F dX11_heretics_9 ic_0 ?_
  obtain ⟨v1, e2, hf⟩ := bnd_some hf
  refine v_iald (pc := 10) F dX11_heretics_10 km_3.1 km_3.2 e2 ?_
  refine v_icmp_ge (pc := 11) (tgt := 60) F dX11_heretics_11 (by decide) (fun c3 => ?_) (fun c3 => ?_)
  · have hf := ite_t hf c3
    refine V.sub (lv' := [(1, .int s1.1)]) [1] rfl ?_
    exact hx0 s1.1 (Option.some.inj hf).symm
  · have hf := ite_f hf c3
    refine v_iload_n (pc := 14) (j := 1) F dX11_heretics_14 rfl rfl ?_
    refine v_aload_n (pc := 15) (j := 0) F dX11_heretics_15 rfl rfl ?_
    refine v_ifl (pc := 16) F fl_X11_40 dX11_heretics_16 km_0.1 km_0.2 fv_10_4 ?_
    refine v_iload_n (pc := 19) (j := 2) F dX11_heretics_19 rfl rfl ?_
    obtain ⟨v4, e5, hf⟩ := bnd_some hf
    refine v_iald (pc := 20) F dX11_heretics_20 km_4.1 km_4.2 e5 ?_
    refine v_iconst (pc := 21) (v := 2) F dX11_heretics_21 ic_2 ?_
    refine v_icmp_eq (pc := 22) (tgt := 51) F dX11_heretics_22 (by decide) (fun c6 => ?_) (fun c6 => ?_)
    · have hf := ite_t hf c6
      refine V.sub (lv' := [(0, .ref (gA g 0)), (2, .int s1.2)]) [0, 2] rfl ?_
      exact tX11_heretics_51 F hk hx0 hf
    · have hf := ite_f hf c6
      refine v_aload_n (pc := 25) (j := 0) F dX11_heretics_25 rfl rfl ?_
      refine v_ifl (pc := 26) F fl_X11_87 dX11_heretics_26 km_0.1 km_0.2 fv_10_29 ?_
      refine v_iload_n (pc := 29) (j := 2) F dX11_heretics_29 rfl rfl ?_
      obtain ⟨v7, e8, hf⟩ := bnd_some hf
      refine v_iald (pc := 30) F dX11_heretics_30 km_19.1 km_19.2 e8 ?_
      refine v_aload_n (pc := 31) (j := 0) F dX11_heretics_31 rfl rfl ?_
      refine v_ifl (pc := 32) F fl_X11_36 dX11_heretics_32 km_0.1 km_0.2 fv_10_3 ?_
      refine v_iconst (pc := 35) (v := 5) F dX11_heretics_35 ic_5 ?_
      obtain ⟨v9, e10, hf⟩ := bnd_some hf
      refine v_iald (pc := 36) F dX11_heretics_36 km_3.1 km_3.2 e10 ?_
      refine v_icmp_ge (pc := 37) (tgt := 51) F dX11_heretics_37 (by decide) (fun c11 => ?_) (fun c11 => ?_)
      · have hf := ite_t hf c11
        refine V.sub (lv' := [(0, .ref (gA g 0)), (2, .int s1.2)]) [0, 2] rfl ?_
        exact tX11_heretics_51 F hk hx0 hf
      · have hf := ite_f hf c11
        refine v_iconst (pc := 40) (v := 1) F dX11_heretics_40 ic_1 ?_
        refine v_aload_n (pc := 41) (j := 0) F dX11_heretics_41 rfl rfl ?_
        refine v_ifl (pc := 42) F fl_X11_42 dX11_heretics_42 km_0.1 km_0.2 fv_10_5 ?_
        refine v_iload_n (pc := 45) (j := 2) F dX11_heretics_45 rfl rfl ?_
        obtain ⟨v12, e13, hf⟩ := bnd_some hf
        refine v_iald (pc := 46) F dX11_heretics_46 km_5.1 km_5.2 e13 ?_
        refine v_ishl (pc := 47) F dX11_heretics_47 ?_
        refine v_goto (pc := 48) (tgt := 52) F dX11_heretics_48 (by decide) ?_
        refine V.sub (lv' := [(0, .ref (gA g 0)), (2, .int s1.2)]) [0, 2] rfl ?_
        exact tX11_heretics_52 F hk hx0 hf
set_option maxRecDepth 100000 in
set_option maxHeartbeats 4000000 in
theorem kX11_heretics {l : Launch} {g : GE} {B : Nat} {h : ST} {y : Int32} (hf : fX11_heretics h = some y) : CT l yX11_heretics cX11_heretics 3 (some .int) 1 KM 43 g B [.ref (gA g 0)] h (some (.int y)) h := by
  refine CT.of pn_X11 (Nat.le_of_ble_eq_true rfl) ?_
  intro p e s m below meth c hr F
  have F : Fx p s m _ meth c cX11_heretics 3 "DustParishModel" 43 g B := F
  refine V_lv (lv' := [(0, .ref (gA g 0))]) rfl ?_
  unfold fX11_heretics at hf
  refine v_iconst (pc := 0) (v := 0) F dX11_heretics_0 ic_0 ?_
  refine v_istore_n (pc := 1) (lv' := [(0, .ref (gA g 0)), (1, .int 0)]) F dX11_heretics_1 rfl (by decide) rfl ?_
  refine v_iconst (pc := 2) (v := 0) F dX11_heretics_2 ic_0 ?_
  refine v_istore_n (pc := 3) (lv' := [(0, .ref (gA g 0)), (1, .int 0), (2, .int 0)]) F dX11_heretics_3 rfl (by decide) rfl ?_
  obtain ⟨x14, e15, hf⟩ := bnd_some hf
  refine tX11_heretics_4 (s0 := (0, 0)) F ?_ e15
  refine v_iload_n (pc := 60) (j := 0) F dX11_heretics_60 rfl rfl ?_
  exact v_iret (pc := 61) F hr dX11_heretics_61 (Option.some.inj hf) rfl (Nat.zero_le _)
def fX11_count (h : ST) (a1 : Int32) : Option (Int32 × ST) :=
  bnd (pw h 0 2 0) fun h1 =>
  if a1 = 0 then
  bnd (rd 14 (h1 3) a1) fun v4 =>
    some (v4, h1)
  else
  if a1 = 1 then
  bnd (rd 14 (h1 3) a1) fun v7 =>
    some (v7, h1)
  else
  if a1 = 2 then
  bnd (rd 14 (h1 3) a1) fun v10 =>
    some (v10, h1)
  else
  if a1 = 3 then
  bnd (rd 14 (h1 3) a1) fun v13 =>
    some (v13, h1)
  else
  if a1 = 4 then
  bnd (rd 14 (h1 3) a1) fun v16 =>
    some (v16, h1)
  else
  if a1 = 5 then
  bnd (rd 14 (h1 3) a1) fun v19 =>
    some (v19, h1)
  else
  if a1 = 6 then
  some (h1 0 33, h1)
  else
  if a1 = 7 then
  bnd (fX11_allDust h1) fun r23 =>
    some (r23, h1)
  else
  if a1 = 8 then
  some (h1 0 34, h1)
  else
  if a1 = 9 then
  some (h1 0 35, h1)
  else
  if a1 = 10 then
  bnd (fX11_heretics h1) fun r28 =>
    some (r28, h1)
  else
  if a1 = 11 then
  some (h1 0 36, h1)
  else
  if a1 = 12 then
  some (h1 0 37, h1)
  else
  if a1 = 13 then
  some (h1 0 19, h1)
  else
  if a1 = 14 then
  bnd (rd 3 (h1 17) (a1 - 14)) fun v34 =>
    some (v34, h1)
  else
  if a1 = 15 then
  bnd (rd 3 (h1 17) (a1 - 14)) fun v37 =>
    some (v37, h1)
  else
  if a1 = 16 then
  bnd (rd 3 (h1 17) (a1 - 14)) fun v40 =>
    some (v40, h1)
  else
  bnd (fX11_fail h1 1) fun r42 =>
  some (r42.1, r42.2)
set_option maxRecDepth 100000 in
set_option maxHeartbeats 4000000 in
theorem kX11_count {l : Launch} {g : GE} {B : Nat} {h : ST} {a1 : Int32} {y : Int32 × ST} (hf : fX11_count h a1 = some y) : CT l yX11_count cX11_count 2 (some .int) 2 KM 43 g B [.ref (gA g 0), .int a1] h (some (.int y.1)) y.2 := by
  refine CT.of pn_X11 (Nat.le_of_ble_eq_true rfl) ?_
  intro p e s m below meth c hr F
  have F : Fx p s m _ meth c cX11_count 2 "DustParishModel" 43 g B := F
  refine V_lv (lv' := [(0, .ref (gA g 0)), (1, .int a1)]) rfl ?_
  unfold fX11_count at hf
  refine v_aload_n (pc := 0) (j := 0) F dX11_count_0 rfl rfl ?_
  refine v_iconst (pc := 1) (v := 0) F dX11_count_1 ic_0 ?_
  obtain ⟨h1, e2, hf⟩ := bnd_some hf
  refine v_pfl (pc := 2) F fl_X11_157 pl_10_2 dX11_count_2 km_0.1 km_0.2 fv_10_2 rfl rfl e2 ?_
  refine v_iload_n (pc := 5) (j := 1) F dX11_count_5 rfl rfl ?_
  by_cases c3 : a1 = 0
  · have hf := ite_t hf c3
    refine v_tabIn (pc := 6) (off := 82) (tgt := 88) F dX11_count_6 (by rw [c3]; decide) (by rw [c3]; decide) (by rw [c3]; rfl) (by decide) ?_
    refine v_aload_n (pc := 88) (j := 0) F dX11_count_88 rfl rfl ?_
    refine v_ifl (pc := 89) F fl_X11_36 dX11_count_89 km_0.1 km_0.2 fv_10_3 ?_
    refine v_iload_n (pc := 92) (j := 1) F dX11_count_92 rfl rfl ?_
    obtain ⟨v4, e5, hf⟩ := bnd_some hf
    refine v_iald (pc := 93) F dX11_count_93 km_3.1 km_3.2 e5 ?_
    exact v_iret (pc := 94) F hr dX11_count_94 (some_fst hf) (some_snd hf) (Nat.zero_le _)
  have hf := ite_f hf c3
  by_cases c6 : a1 = 1
  · have hf := ite_t hf c6
    refine v_tabIn (pc := 6) (off := 82) (tgt := 88) F dX11_count_6 (by rw [c6]; decide) (by rw [c6]; decide) (by rw [c6]; rfl) (by decide) ?_
    refine v_aload_n (pc := 88) (j := 0) F dX11_count_88 rfl rfl ?_
    refine v_ifl (pc := 89) F fl_X11_36 dX11_count_89 km_0.1 km_0.2 fv_10_3 ?_
    refine v_iload_n (pc := 92) (j := 1) F dX11_count_92 rfl rfl ?_
    obtain ⟨v7, e8, hf⟩ := bnd_some hf
    refine v_iald (pc := 93) F dX11_count_93 km_3.1 km_3.2 e8 ?_
    exact v_iret (pc := 94) F hr dX11_count_94 (some_fst hf) (some_snd hf) (Nat.zero_le _)
  have hf := ite_f hf c6
  by_cases c9 : a1 = 2
  · have hf := ite_t hf c9
    refine v_tabIn (pc := 6) (off := 82) (tgt := 88) F dX11_count_6 (by rw [c9]; decide) (by rw [c9]; decide) (by rw [c9]; rfl) (by decide) ?_
    refine v_aload_n (pc := 88) (j := 0) F dX11_count_88 rfl rfl ?_
    refine v_ifl (pc := 89) F fl_X11_36 dX11_count_89 km_0.1 km_0.2 fv_10_3 ?_
    refine v_iload_n (pc := 92) (j := 1) F dX11_count_92 rfl rfl ?_
    obtain ⟨v10, e11, hf⟩ := bnd_some hf
    refine v_iald (pc := 93) F dX11_count_93 km_3.1 km_3.2 e11 ?_
    exact v_iret (pc := 94) F hr dX11_count_94 (some_fst hf) (some_snd hf) (Nat.zero_le _)
  have hf := ite_f hf c9
  by_cases c12 : a1 = 3
  · have hf := ite_t hf c12
    refine v_tabIn (pc := 6) (off := 82) (tgt := 88) F dX11_count_6 (by rw [c12]; decide) (by rw [c12]; decide) (by rw [c12]; rfl) (by decide) ?_
    refine v_aload_n (pc := 88) (j := 0) F dX11_count_88 rfl rfl ?_
    refine v_ifl (pc := 89) F fl_X11_36 dX11_count_89 km_0.1 km_0.2 fv_10_3 ?_
    refine v_iload_n (pc := 92) (j := 1) F dX11_count_92 rfl rfl ?_
    obtain ⟨v13, e14, hf⟩ := bnd_some hf
    refine v_iald (pc := 93) F dX11_count_93 km_3.1 km_3.2 e14 ?_
    exact v_iret (pc := 94) F hr dX11_count_94 (some_fst hf) (some_snd hf) (Nat.zero_le _)
  have hf := ite_f hf c12
  by_cases c15 : a1 = 4
  · have hf := ite_t hf c15
    refine v_tabIn (pc := 6) (off := 82) (tgt := 88) F dX11_count_6 (by rw [c15]; decide) (by rw [c15]; decide) (by rw [c15]; rfl) (by decide) ?_
    refine v_aload_n (pc := 88) (j := 0) F dX11_count_88 rfl rfl ?_
    refine v_ifl (pc := 89) F fl_X11_36 dX11_count_89 km_0.1 km_0.2 fv_10_3 ?_
    refine v_iload_n (pc := 92) (j := 1) F dX11_count_92 rfl rfl ?_
    obtain ⟨v16, e17, hf⟩ := bnd_some hf
    refine v_iald (pc := 93) F dX11_count_93 km_3.1 km_3.2 e17 ?_
    exact v_iret (pc := 94) F hr dX11_count_94 (some_fst hf) (some_snd hf) (Nat.zero_le _)
  have hf := ite_f hf c15
  by_cases c18 : a1 = 5
  · have hf := ite_t hf c18
    refine v_tabIn (pc := 6) (off := 82) (tgt := 88) F dX11_count_6 (by rw [c18]; decide) (by rw [c18]; decide) (by rw [c18]; rfl) (by decide) ?_
    refine v_aload_n (pc := 88) (j := 0) F dX11_count_88 rfl rfl ?_
    refine v_ifl (pc := 89) F fl_X11_36 dX11_count_89 km_0.1 km_0.2 fv_10_3 ?_
    refine v_iload_n (pc := 92) (j := 1) F dX11_count_92 rfl rfl ?_
    obtain ⟨v19, e20, hf⟩ := bnd_some hf
    refine v_iald (pc := 93) F dX11_count_93 km_3.1 km_3.2 e20 ?_
    exact v_iret (pc := 94) F hr dX11_count_94 (some_fst hf) (some_snd hf) (Nat.zero_le _)
  have hf := ite_f hf c18
  by_cases c21 : a1 = 6
  · have hf := ite_t hf c21
    refine v_tabIn (pc := 6) (off := 89) (tgt := 95) F dX11_count_6 (by rw [c21]; decide) (by rw [c21]; decide) (by rw [c21]; rfl) (by decide) ?_
    refine v_aload_n (pc := 95) (j := 0) F dX11_count_95 rfl rfl ?_
    refine v_ifl (pc := 96) F fl_X11_333 dX11_count_96 km_0.1 km_0.2 fv_10_33 ?_
    exact v_iret (pc := 99) F hr dX11_count_99 (some_fst hf) (some_snd hf) (Nat.zero_le _)
  have hf := ite_f hf c21
  by_cases c22 : a1 = 7
  · have hf := ite_t hf c22
    refine v_tabIn (pc := 6) (off := 94) (tgt := 100) F dX11_count_6 (by rw [c22]; decide) (by rw [c22]; decide) (by rw [c22]; rfl) (by decide) ?_
    refine v_aload_n (pc := 100) (j := 0) F dX11_count_100 rfl rfl ?_
    obtain ⟨r23, e24, hf⟩ := bnd_some hf
    refine v_callVi (pc := 101) (As := []) F cl_X11_381 dX11_count_101 (kX11_allDust e24) km_0.1 km_0.2 rc_10 rfl rfl (Nat.le_of_ble_eq_true rfl) (by decide) (Nat.zero_le _) ?_
    exact v_iret (pc := 104) F hr dX11_count_104 (some_fst hf) (some_snd hf) (Nat.zero_le _)
  have hf := ite_f hf c22
  by_cases c25 : a1 = 8
  · have hf := ite_t hf c25
    refine v_tabIn (pc := 6) (off := 99) (tgt := 105) F dX11_count_6 (by rw [c25]; decide) (by rw [c25]; decide) (by rw [c25]; rfl) (by decide) ?_
    refine v_aload_n (pc := 105) (j := 0) F dX11_count_105 rfl rfl ?_
    refine v_ifl (pc := 106) F fl_X11_335 dX11_count_106 km_0.1 km_0.2 fv_10_34 ?_
    exact v_iret (pc := 109) F hr dX11_count_109 (some_fst hf) (some_snd hf) (Nat.zero_le _)
  have hf := ite_f hf c25
  by_cases c26 : a1 = 9
  · have hf := ite_t hf c26
    refine v_tabIn (pc := 6) (off := 104) (tgt := 110) F dX11_count_6 (by rw [c26]; decide) (by rw [c26]; decide) (by rw [c26]; rfl) (by decide) ?_
    refine v_aload_n (pc := 110) (j := 0) F dX11_count_110 rfl rfl ?_
    refine v_ifl (pc := 111) F fl_X11_338 dX11_count_111 km_0.1 km_0.2 fv_10_35 ?_
    exact v_iret (pc := 114) F hr dX11_count_114 (some_fst hf) (some_snd hf) (Nat.zero_le _)
  have hf := ite_f hf c26
  by_cases c27 : a1 = 10
  · have hf := ite_t hf c27
    refine v_tabIn (pc := 6) (off := 109) (tgt := 115) F dX11_count_6 (by rw [c27]; decide) (by rw [c27]; decide) (by rw [c27]; rfl) (by decide) ?_
    refine v_aload_n (pc := 115) (j := 0) F dX11_count_115 rfl rfl ?_
    obtain ⟨r28, e29, hf⟩ := bnd_some hf
    refine v_callVi (pc := 116) (As := []) F cl_X11_384 dX11_count_116 (kX11_heretics e29) km_0.1 km_0.2 rc_10 rfl rfl (Nat.le_of_ble_eq_true rfl) (by decide) (Nat.zero_le _) ?_
    exact v_iret (pc := 119) F hr dX11_count_119 (some_fst hf) (some_snd hf) (Nat.zero_le _)
  have hf := ite_f hf c27
  by_cases c30 : a1 = 11
  · have hf := ite_t hf c30
    refine v_tabIn (pc := 6) (off := 114) (tgt := 120) F dX11_count_6 (by rw [c30]; decide) (by rw [c30]; decide) (by rw [c30]; rfl) (by decide) ?_
    refine v_aload_n (pc := 120) (j := 0) F dX11_count_120 rfl rfl ?_
    refine v_ifl (pc := 121) F fl_X11_341 dX11_count_121 km_0.1 km_0.2 fv_10_36 ?_
    exact v_iret (pc := 124) F hr dX11_count_124 (some_fst hf) (some_snd hf) (Nat.zero_le _)
  have hf := ite_f hf c30
  by_cases c31 : a1 = 12
  · have hf := ite_t hf c31
    refine v_tabIn (pc := 6) (off := 119) (tgt := 125) F dX11_count_6 (by rw [c31]; decide) (by rw [c31]; decide) (by rw [c31]; rfl) (by decide) ?_
    refine v_aload_n (pc := 125) (j := 0) F dX11_count_125 rfl rfl ?_
    refine v_ifl (pc := 126) F fl_X11_344 dX11_count_126 km_0.1 km_0.2 fv_10_37 ?_
    exact v_iret (pc := 129) F hr dX11_count_129 (some_fst hf) (some_snd hf) (Nat.zero_le _)
  have hf := ite_f hf c31
  by_cases c32 : a1 = 13
  · have hf := ite_t hf c32
    refine v_tabIn (pc := 6) (off := 124) (tgt := 130) F dX11_count_6 (by rw [c32]; decide) (by rw [c32]; decide) (by rw [c32]; rfl) (by decide) ?_
    refine v_aload_n (pc := 130) (j := 0) F dX11_count_130 rfl rfl ?_
    refine v_ifl (pc := 131) F fl_X11_166 dX11_count_131 km_0.1 km_0.2 fv_10_19 ?_
    exact v_iret (pc := 134) F hr dX11_count_134 (some_fst hf) (some_snd hf) (Nat.zero_le _)
  have hf := ite_f hf c32
  by_cases c33 : a1 = 14
  · have hf := ite_t hf c33
    refine v_tabIn (pc := 6) (off := 129) (tgt := 135) F dX11_count_6 (by rw [c33]; decide) (by rw [c33]; decide) (by rw [c33]; rfl) (by decide) ?_
    refine v_aload_n (pc := 135) (j := 0) F dX11_count_135 rfl rfl ?_
    refine v_ifl (pc := 136) F fl_X11_77 dX11_count_136 km_0.1 km_0.2 fv_10_17 ?_
    refine v_iload_n (pc := 139) (j := 1) F dX11_count_139 rfl rfl ?_
    refine v_bipush (pc := 140) (v := 14) F dX11_count_140 bp_14 ?_
    refine v_isub (pc := 142) F dX11_count_142 ?_
    obtain ⟨v34, e35, hf⟩ := bnd_some hf
    refine v_iald (pc := 143) F dX11_count_143 km_17.1 km_17.2 e35 ?_
    exact v_iret (pc := 144) F hr dX11_count_144 (some_fst hf) (some_snd hf) (Nat.zero_le _)
  have hf := ite_f hf c33
  by_cases c36 : a1 = 15
  · have hf := ite_t hf c36
    refine v_tabIn (pc := 6) (off := 129) (tgt := 135) F dX11_count_6 (by rw [c36]; decide) (by rw [c36]; decide) (by rw [c36]; rfl) (by decide) ?_
    refine v_aload_n (pc := 135) (j := 0) F dX11_count_135 rfl rfl ?_
    refine v_ifl (pc := 136) F fl_X11_77 dX11_count_136 km_0.1 km_0.2 fv_10_17 ?_
    refine v_iload_n (pc := 139) (j := 1) F dX11_count_139 rfl rfl ?_
    refine v_bipush (pc := 140) (v := 14) F dX11_count_140 bp_14 ?_
    refine v_isub (pc := 142) F dX11_count_142 ?_
    obtain ⟨v37, e38, hf⟩ := bnd_some hf
    refine v_iald (pc := 143) F dX11_count_143 km_17.1 km_17.2 e38 ?_
    exact v_iret (pc := 144) F hr dX11_count_144 (some_fst hf) (some_snd hf) (Nat.zero_le _)
  have hf := ite_f hf c36
  by_cases c39 : a1 = 16
  · have hf := ite_t hf c39
    refine v_tabIn (pc := 6) (off := 129) (tgt := 135) F dX11_count_6 (by rw [c39]; decide) (by rw [c39]; decide) (by rw [c39]; rfl) (by decide) ?_
    refine v_aload_n (pc := 135) (j := 0) F dX11_count_135 rfl rfl ?_
    refine v_ifl (pc := 136) F fl_X11_77 dX11_count_136 km_0.1 km_0.2 fv_10_17 ?_
    refine v_iload_n (pc := 139) (j := 1) F dX11_count_139 rfl rfl ?_
    refine v_bipush (pc := 140) (v := 14) F dX11_count_140 bp_14 ?_
    refine v_isub (pc := 142) F dX11_count_142 ?_
    obtain ⟨v40, e41, hf⟩ := bnd_some hf
    refine v_iald (pc := 143) F dX11_count_143 km_17.1 km_17.2 e41 ?_
    exact v_iret (pc := 144) F hr dX11_count_144 (some_fst hf) (some_snd hf) (Nat.zero_le _)
  have hf := ite_f hf c39
  have n_c3 : ¬ (a1).toInt = 0 := lv_neT c3 rfl
  have n_c6 : ¬ (a1).toInt = 1 := lv_neT c6 rfl
  have n_c9 : ¬ (a1).toInt = 2 := lv_neT c9 rfl
  have n_c12 : ¬ (a1).toInt = 3 := lv_neT c12 rfl
  have n_c15 : ¬ (a1).toInt = 4 := lv_neT c15 rfl
  have n_c18 : ¬ (a1).toInt = 5 := lv_neT c18 rfl
  have n_c21 : ¬ (a1).toInt = 6 := lv_neT c21 rfl
  have n_c22 : ¬ (a1).toInt = 7 := lv_neT c22 rfl
  have n_c25 : ¬ (a1).toInt = 8 := lv_neT c25 rfl
  have n_c26 : ¬ (a1).toInt = 9 := lv_neT c26 rfl
  have n_c27 : ¬ (a1).toInt = 10 := lv_neT c27 rfl
  have n_c30 : ¬ (a1).toInt = 11 := lv_neT c30 rfl
  have n_c31 : ¬ (a1).toInt = 12 := lv_neT c31 rfl
  have n_c32 : ¬ (a1).toInt = 13 := lv_neT c32 rfl
  have n_c33 : ¬ (a1).toInt = 14 := lv_neT c33 rfl
  have n_c36 : ¬ (a1).toInt = 15 := lv_neT c36 rfl
  have n_c39 : ¬ (a1).toInt = 16 := lv_neT c39 rfl
  refine v_tabOut (pc := 6) (tgt := 145) F dX11_count_6 (by omega) (by decide) ?_
  refine v_aload_n (pc := 145) (j := 0) F dX11_count_145 rfl rfl ?_
  refine v_iconst (pc := 146) (v := 1) F dX11_count_146 ic_1 ?_
  obtain ⟨r42, e43, hf⟩ := bnd_some hf
  refine v_callVi (pc := 147) (As := [.int 1]) F cl_X11_320 dX11_count_147 (kX11_fail e43) km_0.1 km_0.2 rc_10 rfl rfl (Nat.le_of_ble_eq_true rfl) (by decide) (Nat.zero_le _) ?_
  exact v_iret (pc := 150) F hr dX11_count_150 (some_fst hf) (some_snd hf) (Nat.zero_le _)
def fX11_refuse (h : ST) (a1 : Int32) : Option (Int32 × ST) :=
  bnd (rd 3 (h 17) a1) fun v1 =>
  bnd (wr 3 h 17 a1 (v1 + 1)) fun h3 =>
  some ((-1), h3)
set_option maxRecDepth 100000 in
set_option maxHeartbeats 4000000 in
theorem kX11_refuse {l : Launch} {g : GE} {B : Nat} {h : ST} {a1 : Int32} {y : Int32 × ST} (hf : fX11_refuse h a1 = some y) : CT l yX11_refuse cX11_refuse 2 (some .int) 1 KM 43 g B [.ref (gA g 0), .int a1] h (some (.int y.1)) y.2 := by
  refine CT.of pn_X11 (Nat.le_of_ble_eq_true rfl) ?_
  intro p e s m below meth c hr F
  have F : Fx p s m _ meth c cX11_refuse 2 "DustParishModel" 43 g B := F
  refine V_lv (lv' := [(0, .ref (gA g 0)), (1, .int a1)]) rfl ?_
  unfold fX11_refuse at hf
  refine v_aload_n (pc := 0) (j := 0) F dX11_refuse_0 rfl rfl ?_
  refine v_ifl (pc := 1) F fl_X11_77 dX11_refuse_1 km_0.1 km_0.2 fv_10_17 ?_
  refine v_iload_n (pc := 4) (j := 1) F dX11_refuse_4 rfl rfl ?_
  refine v_dup2_11 (pc := 5) F dX11_refuse_5 rfl rfl ?_
  obtain ⟨v1, e2, hf⟩ := bnd_some hf
  refine v_iald (pc := 6) F dX11_refuse_6 km_17.1 km_17.2 e2 ?_
  refine v_iconst (pc := 7) (v := 1) F dX11_refuse_7 ic_1 ?_
  refine v_iadd (pc := 8) F dX11_refuse_8 ?_
  obtain ⟨h3, e4, hf⟩ := bnd_some hf
  refine v_iast (pc := 9) F dX11_refuse_9 km_17.1 km_17.2 e4 ?_
  refine v_iconst (pc := 10) (v := (-1)) F dX11_refuse_10 ic_m1 ?_
  exact v_iret (pc := 11) F hr dX11_refuse_11 (some_fst hf) (some_snd hf) (Nat.zero_le _)
def fX11_keep_52 (h : ST)  : Option (ST) :=
  bnd (fX11_pack h 22 1240 (31 * (h 0 36))) fun r2 =>
  bnd (pw r2 0 36 ((r2 0 36) + 1)) fun h4 =>
  some h4
def fX11_keep_12 (s1 : (ST × Int32)) : Option ((ST × Int32) ⊕ ST) :=
  if (Int32.ofNat 1240) ≤ s1.2 then
  some (.inr s1.1)
  else
  bnd (rd 1240 (s1.1 22) s1.2) fun v7 =>
    bnd (wr 1240 s1.1 22 (s1.2 - 31) v7) fun h9 =>
    some (.inl (h9, s1.2 + 1))
def fX11_keep (h : ST) : Option (ST) :=
  if (h 0 36) = 40 then
  bnd (lp FU (fX11_keep_12) (h, 31)) fun x11 =>
    bnd (pw x11 0 36 ((x11 0 36) - 1)) fun h13 =>
    fX11_keep_52 h13 
  else
  fX11_keep_52 h 
set_option maxRecDepth 100000 in
set_option maxHeartbeats 4000000 in
theorem tX11_keep_52 {p : Program} {l : Launch} {e : Env} {s : State} {m : MethodId} {args : Array Value} {below : List Frame} {meth : Method} {c : Code} {g : GE} {B : Nat} {h : ST}  (F : Fx p s m args meth c cX11_keep 2 "DustParishModel" 43 g B)
    {y : ST} (hr : meth.sig.returnType = none) (hf : fX11_keep_52 h  = some y) : V p l e 2 0 s m args below meth c (MQ below (QO KM 43 g none y) args s 0 (6 * 0) (WA 43 g)) KM 43 g B 2 0 h 52 [(0, .ref (gA g 0))] [] := by
  unfold fX11_keep_52 at hf
  refine v_aload_n (pc := 52) (j := 0) F dX11_keep_52 rfl rfl ?_
  refine v_aload_n (pc := 53) (j := 0) F dX11_keep_53 rfl rfl ?_
  refine v_ifl (pc := 54) F fl_X11_94 dX11_keep_54 km_0.1 km_0.2 fv_10_32 ?_
  refine v_bipush (pc := 57) (v := 31) F dX11_keep_57 bp_31 ?_
  refine v_aload_n (pc := 59) (j := 0) F dX11_keep_59 rfl rfl ?_
  refine v_ifl (pc := 60) F fl_X11_341 dX11_keep_60 km_0.1 km_0.2 fv_10_36 ?_
  refine v_imul (pc := 63) F dX11_keep_63 ?_
  obtain ⟨r2, e3, hf⟩ := bnd_some hf
  refine v_callVv (pc := 64) (As := [.ref (gA g 22), .int (31 * (h 0 36))]) F cl_X11_403 dX11_keep_64 (kX11_pack km_22.1 km_22.2 e3) km_0.1 km_0.2 rc_10 rfl rfl (Nat.le_of_ble_eq_true rfl) (by decide) (Nat.zero_le _) ?_
  refine v_aload_n (pc := 67) (j := 0) F dX11_keep_67 rfl rfl ?_
  refine v_dup (pc := 68) F dX11_keep_68 rfl ?_
  refine v_ifl (pc := 69) F fl_X11_341 dX11_keep_69 km_0.1 km_0.2 fv_10_36 ?_
  refine v_iconst (pc := 72) (v := 1) F dX11_keep_72 ic_1 ?_
  refine v_iadd (pc := 73) F dX11_keep_73 ?_
  obtain ⟨h4, e5, hf⟩ := bnd_some hf
  refine v_pfl (pc := 74) F fl_X11_341 pl_10_36 dX11_keep_74 km_0.1 km_0.2 fv_10_36 rfl rfl e5 ?_
  exact v_vret (pc := 77) F hr dX11_keep_77 (Option.some.inj hf) (Nat.zero_le _)
set_option maxRecDepth 100000 in
set_option maxHeartbeats 4000000 in
theorem tX11_keep_12 {p : Program} {l : Launch} {e : Env} {s : State} {m : MethodId} {args : Array Value} {below : List Frame} {meth : Method} {c : Code} {g : GE} {B : Nat}   {Q : State → Prop} {x : ST} {nf : Nat} {s0 : (ST × Int32)} (F : Fx p s m args meth c cX11_keep 2 "DustParishModel" 43 g B) (hX0 : V p l e 2 0 s m args below meth c Q KM 43 g B 2 0 x 42 [(0, .ref (gA g 0))] []) (hl : lp nf (fX11_keep_12) s0 = some x) : V p l e 2 0 s m args below meth c Q KM 43 g B 2 0 s0.1 12 [(0, .ref (gA g 0)), (1, .int s0.2)] [] := by
  refine lp_ind (P := fun s0 => V p l e 2 0 s m args below meth c Q KM 43 g B 2 0 s0.1 12 [(0, .ref (gA g 0)), (1, .int s0.2)] []) ?_ nf s0 hl
  intro s1 y hf hk hx
  have hx0 : ∀ v : ST, y = Sum.inr v → V p l e 2 0 s m args below meth c Q KM 43 g B 2 0 v 42 [(0, .ref (gA g 0))] [] := fun v e9 => by rw [hx v e9]; exact hX0
  unfold fX11_keep_12 at hf
  refine v_iload_n (pc := 12) (j := 1) F dX11_keep_12 rfl rfl ?_
  refine v_aload_n (pc := 13) (j := 0) F dX11_keep_13 rfl rfl ?_
  refine v_ifl (pc := 14) F fl_X11_94 dX11_keep_14 km_0.1 km_0.2 fv_10_32 ?_
  refine v_alen (pc := 17) (v := Int32.ofNat 1240) F dX11_keep_17 km_22.1 km_22.2 (by decide) (by decide) rfl ?_
  refine v_icmp_ge (pc := 18) (tgt := 42) F dX11_keep_18 (by decide) (fun c6 => ?_) (fun c6 => ?_)
  · have hf := ite_t hf c6
    refine V.sub (lv' := [(0, .ref (gA g 0))]) [0] rfl ?_
    exact hx0 s1.1 (Option.some.inj hf).symm
  · have hf := ite_f hf c6
    refine v_aload_n (pc := 21) (j := 0) F dX11_keep_21 rfl rfl ?_
    refine v_ifl (pc := 22) F fl_X11_94 dX11_keep_22 km_0.1 km_0.2 fv_10_32 ?_
    refine v_iload_n (pc := 25) (j := 1) F dX11_keep_25 rfl rfl ?_
    refine v_bipush (pc := 26) (v := 31) F dX11_keep_26 bp_31 ?_
    refine v_isub (pc := 28) F dX11_keep_28 ?_
    refine v_aload_n (pc := 29) (j := 0) F dX11_keep_29 rfl rfl ?_
    refine v_ifl (pc := 30) F fl_X11_94 dX11_keep_30 km_0.1 km_0.2 fv_10_32 ?_
    refine v_iload_n (pc := 33) (j := 1) F dX11_keep_33 rfl rfl ?_
    obtain ⟨v7, e8, hf⟩ := bnd_some hf
    refine v_iald (pc := 34) F dX11_keep_34 km_22.1 km_22.2 e8 ?_
    obtain ⟨h9, e10, hf⟩ := bnd_some hf
    refine v_iast (pc := 35) F dX11_keep_35 km_22.1 km_22.2 e10 ?_
    refine v_iinc (pc := 36) (j := 1) (v := s1.2 + 1) (lv' := [(0, .ref (gA g 0)), (1, .int (s1.2 + 1))]) F dX11_keep_36 rfl (congrArg (fun z => s1.2 + z) ic_1) (by decide) rfl ?_
    refine v_goto (pc := 39) (tgt := 12) F dX11_keep_39 (by decide) ?_
    exact hk (h9, s1.2 + 1) (Option.some.inj hf).symm
set_option maxRecDepth 100000 in
set_option maxHeartbeats 4000000 in
theorem kX11_keep {l : Launch} {g : GE} {B : Nat} {h : ST} {y : ST} (hf : fX11_keep h = some y) : CT l yX11_keep cX11_keep 2 none 2 KM 43 g B [.ref (gA g 0)] h none y := by
  refine CT.of pn_X11 (Nat.le_of_ble_eq_true rfl) ?_
  intro p e s m below meth c hr F
  have F : Fx p s m _ meth c cX11_keep 2 "DustParishModel" 43 g B := F
  refine V_lv (lv' := [(0, .ref (gA g 0))]) rfl ?_
  unfold fX11_keep at hf
  refine v_aload_n (pc := 0) (j := 0) F dX11_keep_0 rfl rfl ?_
  refine v_ifl (pc := 1) F fl_X11_341 dX11_keep_1 km_0.1 km_0.2 fv_10_36 ?_
  refine v_bipush (pc := 4) (v := 40) F dX11_keep_4 bp_40 ?_
  refine v_icmp_ne (pc := 6) (tgt := 52) F dX11_keep_6 (by decide) (fun c1 => ?_) (fun c1 => ?_)
  · have hf := ite_f hf c1
    exact tX11_keep_52 F hr hf
  · have hf := ite_t hf c1
    refine v_bipush (pc := 9) (v := 31) F dX11_keep_9 bp_31 ?_
    refine v_istore_n (pc := 11) (lv' := [(0, .ref (gA g 0)), (1, .int 31)]) F dX11_keep_11 rfl (by decide) rfl ?_
    obtain ⟨x11, e12, hf⟩ := bnd_some hf
    refine tX11_keep_12 (s0 := (h, 31)) F ?_ e12
    refine v_aload_n (pc := 42) (j := 0) F dX11_keep_42 rfl rfl ?_
    refine v_dup (pc := 43) F dX11_keep_43 rfl ?_
    refine v_ifl (pc := 44) F fl_X11_341 dX11_keep_44 km_0.1 km_0.2 fv_10_36 ?_
    refine v_iconst (pc := 47) (v := 1) F dX11_keep_47 ic_1 ?_
    refine v_isub (pc := 48) F dX11_keep_48 ?_
    obtain ⟨h13, e14, hf⟩ := bnd_some hf
    refine v_pfl (pc := 49) F fl_X11_341 pl_10_36 dX11_keep_49 km_0.1 km_0.2 fv_10_36 rfl rfl e14 ?_
    exact tX11_keep_52 F hr hf
def fX11_goOn_2 (l1 : Int32) (s1 : (ST × Int32)) : Option ((ST × Int32) ⊕ ST) :=
  if l1 ≤ s1.2 then
  some (.inr s1.1)
  else
  bnd (fX11_aDay s1.1) fun r2 =>
    some (.inl (r2, s1.2 + 1))
def fX11_goOn (h : ST) (a1 : Int32) : Option (ST) :=
  bnd (lp FU (fX11_goOn_2 a1) (h, 0)) fun x4 =>
  some x4
set_option maxRecDepth 100000 in
set_option maxHeartbeats 4000000 in
theorem tX11_goOn_2 {p : Program} {l : Launch} {e : Env} {s : State} {m : MethodId} {args : Array Value} {below : List Frame} {meth : Method} {c : Code} {g : GE} {B : Nat}   {l1 : Int32} {Q : State → Prop} {x : ST} {nf : Nat} {s0 : (ST × Int32)} (F : Fx p s m args meth c cX11_goOn 3 "DustParishModel" 43 g B) (hX0 : V p l e 7 0 s m args below meth c Q KM 43 g B 3 0 x 17 [] []) (hl : lp nf (fX11_goOn_2 l1) s0 = some x) : V p l e 7 0 s m args below meth c Q KM 43 g B 3 0 s0.1 2 [(0, .ref (gA g 0)), (1, .int l1), (2, .int s0.2)] [] := by
  refine lp_ind (P := fun s0 => V p l e 7 0 s m args below meth c Q KM 43 g B 3 0 s0.1 2 [(0, .ref (gA g 0)), (1, .int l1), (2, .int s0.2)] []) ?_ nf s0 hl
  intro s1 y hf hk hx
  have hx0 : ∀ v : ST, y = Sum.inr v → V p l e 7 0 s m args below meth c Q KM 43 g B 3 0 v 17 [] [] := fun v e9 => by rw [hx v e9]; exact hX0
  unfold fX11_goOn_2 at hf
  refine v_iload_n (pc := 2) (j := 2) F dX11_goOn_2 rfl rfl ?_
  refine v_iload_n (pc := 3) (j := 1) F dX11_goOn_3 rfl rfl ?_
  refine v_icmp_ge (pc := 4) (tgt := 17) F dX11_goOn_4 (by decide) (fun c1 => ?_) (fun c1 => ?_)
  · have hf := ite_t hf c1
    refine V.sub (lv' := []) [] rfl ?_
    exact hx0 s1.1 (Option.some.inj hf).symm
  · have hf := ite_f hf c1
    refine v_aload_n (pc := 7) (j := 0) F dX11_goOn_7 rfl rfl ?_
    obtain ⟨r2, e3, hf⟩ := bnd_some hf
    refine v_callVv (pc := 8) (As := []) F cl_X11_378 dX11_goOn_8 (kX11_aDay e3) km_0.1 km_0.2 rc_10 rfl rfl (Nat.le_of_ble_eq_true rfl) (by decide) (Nat.zero_le _) ?_
    refine v_iinc (pc := 11) (j := 2) (v := s1.2 + 1) (lv' := [(0, .ref (gA g 0)), (1, .int l1), (2, .int (s1.2 + 1))]) F dX11_goOn_11 rfl (congrArg (fun z => s1.2 + z) ic_1) (by decide) rfl ?_
    refine v_goto (pc := 14) (tgt := 2) F dX11_goOn_14 (by decide) ?_
    exact hk (r2, s1.2 + 1) (Option.some.inj hf).symm
set_option maxRecDepth 100000 in
set_option maxHeartbeats 4000000 in
theorem kX11_goOn {l : Launch} {g : GE} {B : Nat} {h : ST} {a1 : Int32} {y : ST} (hf : fX11_goOn h a1 = some y) : CT l yX11_goOn cX11_goOn 3 none 7 KM 43 g B [.ref (gA g 0), .int a1] h none y := by
  refine CT.of pn_X11 (Nat.le_of_ble_eq_true rfl) ?_
  intro p e s m below meth c hr F
  have F : Fx p s m _ meth c cX11_goOn 3 "DustParishModel" 43 g B := F
  refine V_lv (lv' := [(0, .ref (gA g 0)), (1, .int a1)]) rfl ?_
  unfold fX11_goOn at hf
  refine v_iconst (pc := 0) (v := 0) F dX11_goOn_0 ic_0 ?_
  refine v_istore_n (pc := 1) (lv' := [(0, .ref (gA g 0)), (1, .int a1), (2, .int 0)]) F dX11_goOn_1 rfl (by decide) rfl ?_
  obtain ⟨x4, e5, hf⟩ := bnd_some hf
  refine tX11_goOn_2 (s0 := (h, 0)) F ?_ e5
  exact v_vret (pc := 17) F hr dX11_goOn_17 (Option.some.inj hf) (Nat.zero_le _)
def fX11_days_29 (h : ST)  : Option (Int32 × ST) :=
  bnd (fX11_refuse h 1) fun r6 =>
  some (r6.1, r6.2)
def fX11_days (h : ST) (a1 : Int32) : Option (Int32 × ST) :=
  bnd (pw h 0 2 0) fun h1 =>
  bnd (fX11_isIn h1 a1.toInt64 (1 : Int64) (30 : Int64)) fun r3 =>
  if r3 = 0 then
  fX11_days_29 h1 
  else
  if ((h1 0 33) + a1) ≤ 999 then
    bnd (fX11_keep h1) fun r9 =>
      bnd (fX11_goOn r9 a1) fun r11 =>
      some (r11 0 33, r11)
    else
    fX11_days_29 h1 
set_option maxRecDepth 100000 in
set_option maxHeartbeats 4000000 in
theorem tX11_days_29 {p : Program} {l : Launch} {e : Env} {s : State} {m : MethodId} {args : Array Value} {below : List Frame} {meth : Method} {c : Code} {g : GE} {B : Nat} {h : ST}  (F : Fx p s m args meth c cX11_days 2 "DustParishModel" 43 g B)
    {y : Int32 × ST} (hr : meth.sig.returnType = (some .int)) (hf : fX11_days_29 h  = some y) : V p l e 8 0 s m args below meth c (MQ below (QO KM 43 g (some (.int y.1)) y.2) args s 0 (6 * 0) (WA 43 g)) KM 43 g B 2 0 h 29 [(0, .ref (gA g 0))] [] := by
  unfold fX11_days_29 at hf
  refine v_aload_n (pc := 29) (j := 0) F dX11_days_29 rfl rfl ?_
  refine v_iconst (pc := 30) (v := 1) F dX11_days_30 ic_1 ?_
  obtain ⟨r6, e7, hf⟩ := bnd_some hf
  refine v_callVi (pc := 31) (As := [.int 1]) F cl_X11_409 dX11_days_31 (kX11_refuse e7) km_0.1 km_0.2 rc_10 rfl rfl (Nat.le_of_ble_eq_true rfl) (by decide) (Nat.zero_le _) ?_
  exact v_iret (pc := 34) F hr dX11_days_34 (some_fst hf) (some_snd hf) (Nat.zero_le _)
set_option maxRecDepth 100000 in
set_option maxHeartbeats 4000000 in
theorem kX11_days {l : Launch} {g : GE} {B : Nat} {h : ST} {a1 : Int32} {y : Int32 × ST} (hf : fX11_days h a1 = some y) : CT l yX11_days cX11_days 2 (some .int) 8 KM 43 g B [.ref (gA g 0), .int a1] h (some (.int y.1)) y.2 := by
  refine CT.of pn_X11 (Nat.le_of_ble_eq_true rfl) ?_
  intro p e s m below meth c hr F
  have F : Fx p s m _ meth c cX11_days 2 "DustParishModel" 43 g B := F
  refine V_lv (lv' := [(0, .ref (gA g 0)), (1, .int a1)]) rfl ?_
  unfold fX11_days at hf
  refine v_aload_n (pc := 0) (j := 0) F dX11_days_0 rfl rfl ?_
  refine v_iconst (pc := 1) (v := 0) F dX11_days_1 ic_0 ?_
  obtain ⟨h1, e2, hf⟩ := bnd_some hf
  refine v_pfl (pc := 2) F fl_X11_157 pl_10_2 dX11_days_2 km_0.1 km_0.2 fv_10_2 rfl rfl e2 ?_
  refine v_iload_n (pc := 5) (j := 1) F dX11_days_5 rfl rfl ?_
  refine v_i2l (pc := 6) F dX11_days_6 rfl ?_
  refine v_lconst (pc := 7) (v := 1) F dX11_days_7 rfl ?_
  refine v_ldc2 (pc := 8) F tw_1683 dX11_days_8 ?_
  obtain ⟨r3, e4, hf⟩ := bnd_some hf
  refine v_callSi (pc := 11) (As := [.long a1.toInt64, .long (1 : Int64), .long (30 : Int64)]) F cl_X11_160 dX11_days_11 (kX11_isIn e4) rfl rfl (Nat.le_of_ble_eq_true rfl) (by decide) (Nat.zero_le _) ?_
  refine v_if_eq (pc := 14) (tgt := 29) F dX11_days_14 (by decide) (fun c5 => ?_) (fun c5 => ?_)
  · have hf := ite_t hf c5
    refine V.sub (lv' := [(0, .ref (gA g 0))]) [0] rfl ?_
    exact tX11_days_29 F hr hf
  · have hf := ite_f hf c5
    refine v_aload_n (pc := 17) (j := 0) F dX11_days_17 rfl rfl ?_
    refine v_ifl (pc := 18) F fl_X11_333 dX11_days_18 km_0.1 km_0.2 fv_10_33 ?_
    refine v_iload_n (pc := 21) (j := 1) F dX11_days_21 rfl rfl ?_
    refine v_iadd (pc := 22) F dX11_days_22 ?_
    refine v_sipush (pc := 23) (v := 999) F dX11_days_23 sp_999 ?_
    refine v_icmp_le (pc := 26) (tgt := 35) F dX11_days_26 (by decide) (fun c8 => ?_) (fun c8 => ?_)
    · have hf := ite_t hf c8
      refine v_aload_n (pc := 35) (j := 0) F dX11_days_35 rfl rfl ?_
      obtain ⟨r9, e10, hf⟩ := bnd_some hf
      refine v_callVv (pc := 36) (As := []) F cl_X11_412 dX11_days_36 (kX11_keep e10) km_0.1 km_0.2 rc_10 rfl rfl (Nat.le_of_ble_eq_true rfl) (by decide) (Nat.zero_le _) ?_
      refine v_aload_n (pc := 39) (j := 0) F dX11_days_39 rfl rfl ?_
      refine v_iload_n (pc := 40) (j := 1) F dX11_days_40 rfl rfl ?_
      obtain ⟨r11, e12, hf⟩ := bnd_some hf
      refine v_callVv (pc := 41) (As := [.int a1]) F cl_X11_415 dX11_days_41 (kX11_goOn e12) km_0.1 km_0.2 rc_10 rfl rfl (Nat.le_of_ble_eq_true rfl) (by decide) (Nat.zero_le _) ?_
      refine v_aload_n (pc := 44) (j := 0) F dX11_days_44 rfl rfl ?_
      refine v_ifl (pc := 45) F fl_X11_333 dX11_days_45 km_0.1 km_0.2 fv_10_33 ?_
      exact v_iret (pc := 48) F hr dX11_days_48 (some_fst hf) (some_snd hf) (Nat.zero_le _)
    · have hf := ite_f hf c8
      refine V.sub (lv' := [(0, .ref (gA g 0))]) [0] rfl ?_
      exact tX11_days_29 F hr hf
def fX11_drawOf (h : ST) (a1 : Int32) : Option (Int32 × ST) :=
  bnd (pw h 0 53 (((h 0 53) * 1103515245) + 12345)) fun h1 =>
  grd (¬ a1 = 0) (
  some ((((h1 0 53) >>> ((16 : Int32) &&& 31)) &&& 32767) - (((h1 0 53) >>> ((16 : Int32) &&& 31)) &&& 32767) / a1 * a1, h1))
set_option maxRecDepth 100000 in
set_option maxHeartbeats 4000000 in
theorem kX11_drawOf {l : Launch} {g : GE} {B : Nat} {h : ST} {a1 : Int32} {y : Int32 × ST} (hf : fX11_drawOf h a1 = some y) : CT l yX11_drawOf cX11_drawOf 2 (some .int) 1 KM 43 g B [.ref (gA g 0), .int a1] h (some (.int y.1)) y.2 := by
  refine CT.of pn_X11 (Nat.le_of_ble_eq_true rfl) ?_
  intro p e s m below meth c hr F
  have F : Fx p s m _ meth c cX11_drawOf 2 "DustParishModel" 43 g B := F
  refine V_lv (lv' := [(0, .ref (gA g 0)), (1, .int a1)]) rfl ?_
  unfold fX11_drawOf at hf
  refine v_aload_n (pc := 0) (j := 0) F dX11_drawOf_0 rfl rfl ?_
  refine v_aload_n (pc := 1) (j := 0) F dX11_drawOf_1 rfl rfl ?_
  refine v_ifl (pc := 2) F fl_X11_474 dX11_drawOf_2 km_0.1 km_0.2 fv_10_53 ?_
  refine v_ldcw (pc := 5) F tw_1896 dX11_drawOf_5 ?_
  refine v_imul (pc := 8) F dX11_drawOf_8 ?_
  refine v_sipush (pc := 9) (v := 12345) F dX11_drawOf_9 sp_12345 ?_
  refine v_iadd (pc := 12) F dX11_drawOf_12 ?_
  obtain ⟨h1, e2, hf⟩ := bnd_some hf
  refine v_pfl (pc := 13) F fl_X11_474 pl_10_53 dX11_drawOf_13 km_0.1 km_0.2 fv_10_53 rfl rfl e2 ?_
  refine v_aload_n (pc := 16) (j := 0) F dX11_drawOf_16 rfl rfl ?_
  refine v_ifl (pc := 17) F fl_X11_474 dX11_drawOf_17 km_0.1 km_0.2 fv_10_53 ?_
  refine v_bipush (pc := 20) (v := 16) F dX11_drawOf_20 bp_16 ?_
  refine v_ishr (pc := 22) F dX11_drawOf_22 ?_
  refine v_sipush (pc := 23) (v := 32767) F dX11_drawOf_23 sp_32767 ?_
  refine v_iand (pc := 26) F dX11_drawOf_26 ?_
  refine v_iload_n (pc := 27) (j := 1) F dX11_drawOf_27 rfl rfl ?_
  obtain ⟨g3, hf⟩ := grd_some hf
  refine v_irem (pc := 28) F dX11_drawOf_28 g3 ?_
  exact v_iret (pc := 29) F hr dX11_drawOf_29 (some_fst hf) (some_snd hf) (Nat.zero_le _)
def fX11_isRoom (h : ST) (a1 : Int32) : Option (Int32) :=
  bnd (rd 14 (h 3) 0) fun v1 =>
  bnd (fX11_isIn h a1.toInt64 (0 : Int64) ((v1 - 1).toInt64)) fun r3 =>
  bnd (zb r3) fun z5 =>
  some z5
set_option maxRecDepth 100000 in
set_option maxHeartbeats 4000000 in
theorem kX11_isRoom {l : Launch} {g : GE} {B : Nat} {h : ST} {a1 : Int32} {y : Int32} (hf : fX11_isRoom h a1 = some y) : CT l yX11_isRoom cX11_isRoom 2 (some .boolean) 2 KM 43 g B [.ref (gA g 0), .int a1] h (some (.int y)) h := by
  refine CT.of pn_X11 (Nat.le_of_ble_eq_true rfl) ?_
  intro p e s m below meth c hr F
  have F : Fx p s m _ meth c cX11_isRoom 2 "DustParishModel" 43 g B := F
  refine V_lv (lv' := [(0, .ref (gA g 0)), (1, .int a1)]) rfl ?_
  unfold fX11_isRoom at hf
  refine v_iload_n (pc := 0) (j := 1) F dX11_isRoom_0 rfl rfl ?_
  refine v_i2l (pc := 1) F dX11_isRoom_1 rfl ?_
  refine v_lconst (pc := 2) (v := 0) F dX11_isRoom_2 rfl ?_
  refine v_aload_n (pc := 3) (j := 0) F dX11_isRoom_3 rfl rfl ?_
  refine v_ifl (pc := 4) F fl_X11_36 dX11_isRoom_4 km_0.1 km_0.2 fv_10_3 ?_
  refine v_iconst (pc := 7) (v := 0) F dX11_isRoom_7 ic_0 ?_
  obtain ⟨v1, e2, hf⟩ := bnd_some hf
  refine v_iald (pc := 8) F dX11_isRoom_8 km_3.1 km_3.2 e2 ?_
  refine v_iconst (pc := 9) (v := 1) F dX11_isRoom_9 ic_1 ?_
  refine v_isub (pc := 10) F dX11_isRoom_10 ?_
  refine v_i2l (pc := 11) F dX11_isRoom_11 rfl ?_
  obtain ⟨r3, e4, hf⟩ := bnd_some hf
  refine v_callSi (pc := 12) (As := [.long a1.toInt64, .long (0 : Int64), .long ((v1 - 1).toInt64)]) F cl_X11_160 dX11_isRoom_12 (kX11_isIn e4) rfl rfl (Nat.le_of_ble_eq_true rfl) (by decide) (Nat.zero_le _) ?_
  obtain ⟨z5, e6, hf⟩ := bnd_some hf
  exact v_zret (pc := 15) F hr dX11_isRoom_15 (zb_in e6).2 ((zb_in e6).1.symm.trans (Option.some.inj hf)) rfl (Nat.zero_le _)
def fX11_tellWays_31 (h : ST) (l1 : Int32) (q1 : Int32) (q2 : Int32) : Option ((ST × Int32) ⊕ ST) :=
  bnd (wr 81 h 26 q1 q2) fun h3 =>
  some (.inl (h3, l1 + 1))
def fX11_tellWays_2 (s1 : (ST × Int32)) : Option ((ST × Int32) ⊕ ST) :=
  if 81 ≤ s1.2 then
  some (.inr s1.1)
  else
  if (s1.2 / 9) = (s1.2 - s1.2 / 9 * 9) then
    fX11_tellWays_31 s1.1 s1.2 s1.2 0
    else
    fX11_tellWays_31 s1.1 s1.2 s1.2 1000000
def fX11_tellWays_40 (s1 : (ST × Int32)) : Option ((ST × Int32) ⊕ ST) :=
  bnd (rd 14 (s1.1 3) 1) fun v7 =>
  if v7 ≤ s1.2 then
  some (.inr s1.1)
  else
  bnd (rd 28 (s1.1 8) s1.2) fun v10 =>
    bnd (rd 28 (s1.1 9) s1.2) fun v12 =>
    bnd (rd 28 (s1.1 10) s1.2) fun v14 =>
    bnd (wr 81 s1.1 26 ((9 * v10) + v12) v14) fun h16 =>
    bnd (rd 28 (h16 9) s1.2) fun v18 =>
    bnd (rd 28 (h16 8) s1.2) fun v20 =>
    bnd (rd 28 (h16 10) s1.2) fun v22 =>
    bnd (wr 81 h16 26 ((9 * v18) + v20) v22) fun h24 =>
    some (.inl (h24, s1.2 + 1))
def fX11_tellWays_120 (l1 : Int32) (s1 : (ST × Int32)) : Option ((ST × Int32) ⊕ ST) :=
  if 81 ≤ s1.2 then
  some (.inr s1.1)
  else
  bnd (rd 81 (s1.1 26) s1.2) fun v30 =>
    bnd (rd 81 (s1.1 26) ((s1.2 - (s1.2 - s1.2 / 9 * 9)) + l1)) fun v32 =>
    bnd (rd 81 (s1.1 26) ((9 * l1) + (s1.2 - s1.2 / 9 * 9))) fun v34 =>
    bnd (wr 81 s1.1 26 s1.2 (if (v32 + v34) < v30 then (v32 + v34) else v30)) fun h36 =>
    some (.inl (h36, s1.2 + 1))
def fX11_tellWays_112 (s1 : (ST × Int32)) : Option ((ST × Int32) ⊕ ST) :=
  if 9 ≤ s1.2 then
  some (.inr s1.1)
  else
  bnd (lp FU (fX11_tellWays_120 s1.2) (s1.1, 0)) fun x38 =>
    some (.inl (x38, s1.2 + 1))
def fX11_tellWays (h : ST) : Option (ST) :=
  bnd (lp FU (fX11_tellWays_2) (h, 0)) fun x5 =>
  bnd (lp FU (fX11_tellWays_40) (x5, 0)) fun x26 =>
  bnd (lp FU (fX11_tellWays_112) (x26, 0)) fun x40 =>
  some x40
set_option maxRecDepth 100000 in
set_option maxHeartbeats 4000000 in
theorem tX11_tellWays_31 {p : Program} {l : Launch} {e : Env} {s : State} {m : MethodId} {args : Array Value} {below : List Frame} {meth : Method} {c : Code} {g : GE} {B : Nat} {h : ST}  {l1 : Int32} {q1 : Int32} {q2 : Int32} (F : Fx p s m args meth c cX11_tellWays 3 "DustParishModel" 43 g B)
    {Q : State → Prop} {y : (ST × Int32) ⊕ ST} (hk : ∀ v : (ST × Int32), y = Sum.inl v → V p l e 1 0 s m args below meth c Q KM 43 g B 3 0 v.1 2 [(0, .ref (gA g 0)), (1, .int v.2)] []) (hx0 : ∀ v : ST, y = Sum.inr v → V p l e 1 0 s m args below meth c Q KM 43 g B 3 0 v 38 [(0, .ref (gA g 0))] []) (hf : fX11_tellWays_31 h l1 q1 q2 = some y) : V p l e 1 0 s m args below meth c Q KM 43 g B 3 0 h 31 [(0, .ref (gA g 0)), (1, .int l1)] [.int q2, .int q1, .ref (gA g 26)] := by
  unfold fX11_tellWays_31 at hf
  obtain ⟨h3, e4, hf⟩ := bnd_some hf
  refine v_iast (pc := 31) F dX11_tellWays_31 km_26.1 km_26.2 e4 ?_
  refine v_iinc (pc := 32) (j := 1) (v := l1 + 1) (lv' := [(0, .ref (gA g 0)), (1, .int (l1 + 1))]) F dX11_tellWays_32 rfl (congrArg (fun z => l1 + z) ic_1) (by decide) rfl ?_
  refine v_goto (pc := 35) (tgt := 2) F dX11_tellWays_35 (by decide) ?_
  exact hk (h3, l1 + 1) (Option.some.inj hf).symm
set_option maxRecDepth 100000 in
set_option maxHeartbeats 4000000 in
theorem tX11_tellWays_2 {p : Program} {l : Launch} {e : Env} {s : State} {m : MethodId} {args : Array Value} {below : List Frame} {meth : Method} {c : Code} {g : GE} {B : Nat}   {Q : State → Prop} {x : ST} {nf : Nat} {s0 : (ST × Int32)} (F : Fx p s m args meth c cX11_tellWays 3 "DustParishModel" 43 g B) (hX0 : V p l e 1 0 s m args below meth c Q KM 43 g B 3 0 x 38 [(0, .ref (gA g 0))] []) (hl : lp nf (fX11_tellWays_2) s0 = some x) : V p l e 1 0 s m args below meth c Q KM 43 g B 3 0 s0.1 2 [(0, .ref (gA g 0)), (1, .int s0.2)] [] := by
  refine lp_ind (P := fun s0 => V p l e 1 0 s m args below meth c Q KM 43 g B 3 0 s0.1 2 [(0, .ref (gA g 0)), (1, .int s0.2)] []) ?_ nf s0 hl
  intro s1 y hf hk hx
  have hx0 : ∀ v : ST, y = Sum.inr v → V p l e 1 0 s m args below meth c Q KM 43 g B 3 0 v 38 [(0, .ref (gA g 0))] [] := fun v e9 => by rw [hx v e9]; exact hX0
  unfold fX11_tellWays_2 at hf
  refine v_iload_n (pc := 2) (j := 1) F dX11_tellWays_2 rfl rfl ?_
  refine v_bipush (pc := 3) (v := 81) F dX11_tellWays_3 bp_81 ?_
  refine v_icmp_ge (pc := 5) (tgt := 38) F dX11_tellWays_5 (by decide) (fun c1 => ?_) (fun c1 => ?_)
  · have hf := ite_t hf c1
    refine V.sub (lv' := [(0, .ref (gA g 0))]) [0] rfl ?_
    exact hx0 s1.1 (Option.some.inj hf).symm
  · have hf := ite_f hf c1
    refine v_aload_n (pc := 8) (j := 0) F dX11_tellWays_8 rfl rfl ?_
    refine v_ifl (pc := 9) F fl_X11_106 dX11_tellWays_9 km_0.1 km_0.2 fv_10_41 ?_
    refine v_iload_n (pc := 12) (j := 1) F dX11_tellWays_12 rfl rfl ?_
    refine v_iload_n (pc := 13) (j := 1) F dX11_tellWays_13 rfl rfl ?_
    refine v_bipush (pc := 14) (v := 9) F dX11_tellWays_14 bp_9 ?_
    refine v_idiv (pc := 16) F dX11_tellWays_16 (by decide) ?_
    refine v_iload_n (pc := 17) (j := 1) F dX11_tellWays_17 rfl rfl ?_
    refine v_bipush (pc := 18) (v := 9) F dX11_tellWays_18 bp_9 ?_
    refine v_irem (pc := 20) F dX11_tellWays_20 (by decide) ?_
    refine v_icmp_ne (pc := 21) (tgt := 28) F dX11_tellWays_21 (by decide) (fun c2 => ?_) (fun c2 => ?_)
    · have hf := ite_f hf c2
      refine v_ldcw (pc := 28) F tw_1656 dX11_tellWays_28 ?_
      exact tX11_tellWays_31 F hk hx0 hf
    · have hf := ite_t hf c2
      refine v_iconst (pc := 24) (v := 0) F dX11_tellWays_24 ic_0 ?_
      refine v_goto (pc := 25) (tgt := 31) F dX11_tellWays_25 (by decide) ?_
      exact tX11_tellWays_31 F hk hx0 hf
set_option maxRecDepth 100000 in
set_option maxHeartbeats 4000000 in
theorem tX11_tellWays_40 {p : Program} {l : Launch} {e : Env} {s : State} {m : MethodId} {args : Array Value} {below : List Frame} {meth : Method} {c : Code} {g : GE} {B : Nat}   {Q : State → Prop} {x : ST} {nf : Nat} {s0 : (ST × Int32)} (F : Fx p s m args meth c cX11_tellWays 3 "DustParishModel" 43 g B) (hX0 : V p l e 1 0 s m args below meth c Q KM 43 g B 3 0 x 110 [(0, .ref (gA g 0))] []) (hl : lp nf (fX11_tellWays_40) s0 = some x) : V p l e 1 0 s m args below meth c Q KM 43 g B 3 0 s0.1 40 [(0, .ref (gA g 0)), (1, .int s0.2)] [] := by
  refine lp_ind (P := fun s0 => V p l e 1 0 s m args below meth c Q KM 43 g B 3 0 s0.1 40 [(0, .ref (gA g 0)), (1, .int s0.2)] []) ?_ nf s0 hl
  intro s1 y hf hk hx
  have hx0 : ∀ v : ST, y = Sum.inr v → V p l e 1 0 s m args below meth c Q KM 43 g B 3 0 v 110 [(0, .ref (gA g 0))] [] := fun v e9 => by rw [hx v e9]; exact hX0
  unfold fX11_tellWays_40 at hf
  refine v_iload_n (pc := 40) (j := 1) F dX11_tellWays_40 rfl rfl ?_
  refine v_aload_n (pc := 41) (j := 0) F dX11_tellWays_41 rfl rfl ?_
  refine v_ifl (pc := 42) F fl_X11_36 dX11_tellWays_42 km_0.1 km_0.2 fv_10_3 ?_
  refine v_iconst (pc := 45) (v := 1) F dX11_tellWays_45 ic_1 ?_
  obtain ⟨v7, e8, hf⟩ := bnd_some hf
  refine v_iald (pc := 46) F dX11_tellWays_46 km_3.1 km_3.2 e8 ?_
  refine v_icmp_ge (pc := 47) (tgt := 110) F dX11_tellWays_47 (by decide) (fun c9 => ?_) (fun c9 => ?_)
  · have hf := ite_t hf c9
    refine V.sub (lv' := [(0, .ref (gA g 0))]) [0] rfl ?_
    exact hx0 s1.1 (Option.some.inj hf).symm
  · have hf := ite_f hf c9
    refine v_aload_n (pc := 50) (j := 0) F dX11_tellWays_50 rfl rfl ?_
    refine v_ifl (pc := 51) F fl_X11_106 dX11_tellWays_51 km_0.1 km_0.2 fv_10_41 ?_
    refine v_bipush (pc := 54) (v := 9) F dX11_tellWays_54 bp_9 ?_
    refine v_aload_n (pc := 56) (j := 0) F dX11_tellWays_56 rfl rfl ?_
    refine v_ifl (pc := 57) F fl_X11_50 dX11_tellWays_57 km_0.1 km_0.2 fv_10_8 ?_
    refine v_iload_n (pc := 60) (j := 1) F dX11_tellWays_60 rfl rfl ?_
    obtain ⟨v10, e11, hf⟩ := bnd_some hf
    refine v_iald (pc := 61) F dX11_tellWays_61 km_8.1 km_8.2 e11 ?_
    refine v_imul (pc := 62) F dX11_tellWays_62 ?_
    refine v_aload_n (pc := 63) (j := 0) F dX11_tellWays_63 rfl rfl ?_
    refine v_ifl (pc := 64) F fl_X11_53 dX11_tellWays_64 km_0.1 km_0.2 fv_10_9 ?_
    refine v_iload_n (pc := 67) (j := 1) F dX11_tellWays_67 rfl rfl ?_
    obtain ⟨v12, e13, hf⟩ := bnd_some hf
    refine v_iald (pc := 68) F dX11_tellWays_68 km_9.1 km_9.2 e13 ?_
    refine v_iadd (pc := 69) F dX11_tellWays_69 ?_
    refine v_aload_n (pc := 70) (j := 0) F dX11_tellWays_70 rfl rfl ?_
    refine v_ifl (pc := 71) F fl_X11_56 dX11_tellWays_71 km_0.1 km_0.2 fv_10_10 ?_
    refine v_iload_n (pc := 74) (j := 1) F dX11_tellWays_74 rfl rfl ?_
    obtain ⟨v14, e15, hf⟩ := bnd_some hf
    refine v_iald (pc := 75) F dX11_tellWays_75 km_10.1 km_10.2 e15 ?_
    obtain ⟨h16, e17, hf⟩ := bnd_some hf
    refine v_iast (pc := 76) F dX11_tellWays_76 km_26.1 km_26.2 e17 ?_
    refine v_aload_n (pc := 77) (j := 0) F dX11_tellWays_77 rfl rfl ?_
    refine v_ifl (pc := 78) F fl_X11_106 dX11_tellWays_78 km_0.1 km_0.2 fv_10_41 ?_
    refine v_bipush (pc := 81) (v := 9) F dX11_tellWays_81 bp_9 ?_
    refine v_aload_n (pc := 83) (j := 0) F dX11_tellWays_83 rfl rfl ?_
    refine v_ifl (pc := 84) F fl_X11_53 dX11_tellWays_84 km_0.1 km_0.2 fv_10_9 ?_
    refine v_iload_n (pc := 87) (j := 1) F dX11_tellWays_87 rfl rfl ?_
    obtain ⟨v18, e19, hf⟩ := bnd_some hf
    refine v_iald (pc := 88) F dX11_tellWays_88 km_9.1 km_9.2 e19 ?_
    refine v_imul (pc := 89) F dX11_tellWays_89 ?_
    refine v_aload_n (pc := 90) (j := 0) F dX11_tellWays_90 rfl rfl ?_
    refine v_ifl (pc := 91) F fl_X11_50 dX11_tellWays_91 km_0.1 km_0.2 fv_10_8 ?_
    refine v_iload_n (pc := 94) (j := 1) F dX11_tellWays_94 rfl rfl ?_
    obtain ⟨v20, e21, hf⟩ := bnd_some hf
    refine v_iald (pc := 95) F dX11_tellWays_95 km_8.1 km_8.2 e21 ?_
    refine v_iadd (pc := 96) F dX11_tellWays_96 ?_
    refine v_aload_n (pc := 97) (j := 0) F dX11_tellWays_97 rfl rfl ?_
    refine v_ifl (pc := 98) F fl_X11_56 dX11_tellWays_98 km_0.1 km_0.2 fv_10_10 ?_
    refine v_iload_n (pc := 101) (j := 1) F dX11_tellWays_101 rfl rfl ?_
    obtain ⟨v22, e23, hf⟩ := bnd_some hf
    refine v_iald (pc := 102) F dX11_tellWays_102 km_10.1 km_10.2 e23 ?_
    obtain ⟨h24, e25, hf⟩ := bnd_some hf
    refine v_iast (pc := 103) F dX11_tellWays_103 km_26.1 km_26.2 e25 ?_
    refine v_iinc (pc := 104) (j := 1) (v := s1.2 + 1) (lv' := [(0, .ref (gA g 0)), (1, .int (s1.2 + 1))]) F dX11_tellWays_104 rfl (congrArg (fun z => s1.2 + z) ic_1) (by decide) rfl ?_
    refine v_goto (pc := 107) (tgt := 40) F dX11_tellWays_107 (by decide) ?_
    exact hk (h24, s1.2 + 1) (Option.some.inj hf).symm
set_option maxRecDepth 100000 in
set_option maxHeartbeats 4000000 in
theorem tX11_tellWays_120 {p : Program} {l : Launch} {e : Env} {s : State} {m : MethodId} {args : Array Value} {below : List Frame} {meth : Method} {c : Code} {g : GE} {B : Nat}   {l1 : Int32} {Q : State → Prop} {x : ST} {nf : Nat} {s0 : (ST × Int32)} (F : Fx p s m args meth c cX11_tellWays 3 "DustParishModel" 43 g B) (hX0 : V p l e 1 0 s m args below meth c Q KM 43 g B 3 0 x 175 [(0, .ref (gA g 0)), (1, .int l1)] []) (hl : lp nf (fX11_tellWays_120 l1) s0 = some x) : V p l e 1 0 s m args below meth c Q KM 43 g B 3 0 s0.1 120 [(0, .ref (gA g 0)), (1, .int l1), (2, .int s0.2)] [] := by
  refine lp_ind (P := fun s0 => V p l e 1 0 s m args below meth c Q KM 43 g B 3 0 s0.1 120 [(0, .ref (gA g 0)), (1, .int l1), (2, .int s0.2)] []) ?_ nf s0 hl
  intro s1 y hf hk hx
  have hx0 : ∀ v : ST, y = Sum.inr v → V p l e 1 0 s m args below meth c Q KM 43 g B 3 0 v 175 [(0, .ref (gA g 0)), (1, .int l1)] [] := fun v e9 => by rw [hx v e9]; exact hX0
  unfold fX11_tellWays_120 at hf
  refine v_iload_n (pc := 120) (j := 2) F dX11_tellWays_120 rfl rfl ?_
  refine v_bipush (pc := 121) (v := 81) F dX11_tellWays_121 bp_81 ?_
  refine v_icmp_ge (pc := 123) (tgt := 175) F dX11_tellWays_123 (by decide) (fun c29 => ?_) (fun c29 => ?_)
  · have hf := ite_t hf c29
    refine V.sub (lv' := [(0, .ref (gA g 0)), (1, .int l1)]) [0, 1] rfl ?_
    exact hx0 s1.1 (Option.some.inj hf).symm
  · have hf := ite_f hf c29
    refine v_aload_n (pc := 126) (j := 0) F dX11_tellWays_126 rfl rfl ?_
    refine v_ifl (pc := 127) F fl_X11_106 dX11_tellWays_127 km_0.1 km_0.2 fv_10_41 ?_
    refine v_iload_n (pc := 130) (j := 2) F dX11_tellWays_130 rfl rfl ?_
    refine v_aload_n (pc := 131) (j := 0) F dX11_tellWays_131 rfl rfl ?_
    refine v_ifl (pc := 132) F fl_X11_106 dX11_tellWays_132 km_0.1 km_0.2 fv_10_41 ?_
    refine v_iload_n (pc := 135) (j := 2) F dX11_tellWays_135 rfl rfl ?_
    obtain ⟨v30, e31, hf⟩ := bnd_some hf
    refine v_iald (pc := 136) F dX11_tellWays_136 km_26.1 km_26.2 e31 ?_
    refine v_aload_n (pc := 137) (j := 0) F dX11_tellWays_137 rfl rfl ?_
    refine v_ifl (pc := 138) F fl_X11_106 dX11_tellWays_138 km_0.1 km_0.2 fv_10_41 ?_
    refine v_iload_n (pc := 141) (j := 2) F dX11_tellWays_141 rfl rfl ?_
    refine v_iload_n (pc := 142) (j := 2) F dX11_tellWays_142 rfl rfl ?_
    refine v_bipush (pc := 143) (v := 9) F dX11_tellWays_143 bp_9 ?_
    refine v_irem (pc := 145) F dX11_tellWays_145 (by decide) ?_
    refine v_isub (pc := 146) F dX11_tellWays_146 ?_
    refine v_iload_n (pc := 147) (j := 1) F dX11_tellWays_147 rfl rfl ?_
    refine v_iadd (pc := 148) F dX11_tellWays_148 ?_
    obtain ⟨v32, e33, hf⟩ := bnd_some hf
    refine v_iald (pc := 149) F dX11_tellWays_149 km_26.1 km_26.2 e33 ?_
    refine v_aload_n (pc := 150) (j := 0) F dX11_tellWays_150 rfl rfl ?_
    refine v_ifl (pc := 151) F fl_X11_106 dX11_tellWays_151 km_0.1 km_0.2 fv_10_41 ?_
    refine v_bipush (pc := 154) (v := 9) F dX11_tellWays_154 bp_9 ?_
    refine v_iload_n (pc := 156) (j := 1) F dX11_tellWays_156 rfl rfl ?_
    refine v_imul (pc := 157) F dX11_tellWays_157 ?_
    refine v_iload_n (pc := 158) (j := 2) F dX11_tellWays_158 rfl rfl ?_
    refine v_bipush (pc := 159) (v := 9) F dX11_tellWays_159 bp_9 ?_
    refine v_irem (pc := 161) F dX11_tellWays_161 (by decide) ?_
    refine v_iadd (pc := 162) F dX11_tellWays_162 ?_
    obtain ⟨v34, e35, hf⟩ := bnd_some hf
    refine v_iald (pc := 163) F dX11_tellWays_163 km_26.1 km_26.2 e35 ?_
    refine v_iadd (pc := 164) F dX11_tellWays_164 ?_
    refine v_mmin (pc := 165) F tw_1490 mminW dX11_tellWays_165 (by decide) (Nat.le_of_ble_eq_true rfl) (Nat.zero_le _) ?_
    obtain ⟨h36, e37, hf⟩ := bnd_some hf
    refine v_iast (pc := 168) F dX11_tellWays_168 km_26.1 km_26.2 e37 ?_
    refine v_iinc (pc := 169) (j := 2) (v := s1.2 + 1) (lv' := [(0, .ref (gA g 0)), (1, .int l1), (2, .int (s1.2 + 1))]) F dX11_tellWays_169 rfl (congrArg (fun z => s1.2 + z) ic_1) (by decide) rfl ?_
    refine v_goto (pc := 172) (tgt := 120) F dX11_tellWays_172 (by decide) ?_
    exact hk (h36, s1.2 + 1) (Option.some.inj hf).symm
set_option maxRecDepth 100000 in
set_option maxHeartbeats 4000000 in
theorem tX11_tellWays_112 {p : Program} {l : Launch} {e : Env} {s : State} {m : MethodId} {args : Array Value} {below : List Frame} {meth : Method} {c : Code} {g : GE} {B : Nat}   {Q : State → Prop} {x : ST} {nf : Nat} {s0 : (ST × Int32)} (F : Fx p s m args meth c cX11_tellWays 3 "DustParishModel" 43 g B) (hX0 : V p l e 1 0 s m args below meth c Q KM 43 g B 3 0 x 181 [] []) (hl : lp nf (fX11_tellWays_112) s0 = some x) : V p l e 1 0 s m args below meth c Q KM 43 g B 3 0 s0.1 112 [(0, .ref (gA g 0)), (1, .int s0.2)] [] := by
  refine lp_ind (P := fun s0 => V p l e 1 0 s m args below meth c Q KM 43 g B 3 0 s0.1 112 [(0, .ref (gA g 0)), (1, .int s0.2)] []) ?_ nf s0 hl
  intro s1 y hf hk hx
  have hx0 : ∀ v : ST, y = Sum.inr v → V p l e 1 0 s m args below meth c Q KM 43 g B 3 0 v 181 [] [] := fun v e9 => by rw [hx v e9]; exact hX0
  unfold fX11_tellWays_112 at hf
  refine v_iload_n (pc := 112) (j := 1) F dX11_tellWays_112 rfl rfl ?_
  refine v_bipush (pc := 113) (v := 9) F dX11_tellWays_113 bp_9 ?_
  refine v_icmp_ge (pc := 115) (tgt := 181) F dX11_tellWays_115 (by decide) (fun c28 => ?_) (fun c28 => ?_)
  · have hf := ite_t hf c28
    refine V.sub (lv' := []) [] rfl ?_
    exact hx0 s1.1 (Option.some.inj hf).symm
  · have hf := ite_f hf c28
    refine v_iconst (pc := 118) (v := 0) F dX11_tellWays_118 ic_0 ?_
    refine v_istore_n (pc := 119) (lv' := [(0, .ref (gA g 0)), (1, .int s1.2), (2, .int 0)]) F dX11_tellWays_119 rfl (by decide) rfl ?_
    obtain ⟨x38, e39, hf⟩ := bnd_some hf
    refine tX11_tellWays_120 (s0 := (s1.1, 0)) F ?_ e39
    refine v_iinc (pc := 175) (j := 1) (v := s1.2 + 1) (lv' := [(0, .ref (gA g 0)), (1, .int (s1.2 + 1))]) F dX11_tellWays_175 rfl (congrArg (fun z => s1.2 + z) ic_1) (by decide) rfl ?_
    refine v_goto (pc := 178) (tgt := 112) F dX11_tellWays_178 (by decide) ?_
    exact hk (x38, s1.2 + 1) (Option.some.inj hf).symm
set_option maxRecDepth 100000 in
set_option maxHeartbeats 4000000 in
theorem kX11_tellWays {l : Launch} {g : GE} {B : Nat} {h : ST} {y : ST} (hf : fX11_tellWays h = some y) : CT l yX11_tellWays cX11_tellWays 3 none 1 KM 43 g B [.ref (gA g 0)] h none y := by
  refine CT.of pn_X11 (Nat.le_of_ble_eq_true rfl) ?_
  intro p e s m below meth c hr F
  have F : Fx p s m _ meth c cX11_tellWays 3 "DustParishModel" 43 g B := F
  refine V_lv (lv' := [(0, .ref (gA g 0))]) rfl ?_
  unfold fX11_tellWays at hf
  refine v_iconst (pc := 0) (v := 0) F dX11_tellWays_0 ic_0 ?_
  refine v_istore_n (pc := 1) (lv' := [(0, .ref (gA g 0)), (1, .int 0)]) F dX11_tellWays_1 rfl (by decide) rfl ?_
  obtain ⟨x5, e6, hf⟩ := bnd_some hf
  refine tX11_tellWays_2 (s0 := (h, 0)) F ?_ e6
  refine v_iconst (pc := 38) (v := 0) F dX11_tellWays_38 ic_0 ?_
  refine v_istore_n (pc := 39) (lv' := [(0, .ref (gA g 0)), (1, .int 0)]) F dX11_tellWays_39 rfl (by decide) rfl ?_
  obtain ⟨x26, e27, hf⟩ := bnd_some hf
  refine tX11_tellWays_40 (s0 := (x5, 0)) F ?_ e27
  refine v_iconst (pc := 110) (v := 0) F dX11_tellWays_110 ic_0 ?_
  refine v_istore_n (pc := 111) (lv' := [(0, .ref (gA g 0)), (1, .int 0)]) F dX11_tellWays_111 rfl (by decide) rfl ?_
  obtain ⟨x40, e41, hf⟩ := bnd_some hf
  refine tX11_tellWays_112 (s0 := (x26, 0)) F ?_ e41
  exact v_vret (pc := 181) F hr dX11_tellWays_181 (Option.some.inj hf) (Nat.zero_le _)
def fX11_orNone_12 (h : ST) (q0 : Int32) : Option (Int32) :=
  some q0
def fX11_orNone (h : ST) (a1 : Int32) : Option (Int32) :=
  if a1 < 1000000 then
  fX11_orNone_12 h a1
  else
  fX11_orNone_12 h (-1)
set_option maxRecDepth 100000 in
set_option maxHeartbeats 4000000 in
theorem tX11_orNone_12 {p : Program} {l : Launch} {e : Env} {s : State} {m : MethodId} {args : Array Value} {below : List Frame} {meth : Method} {c : Code} {g : GE} {B : Nat} {h : ST}  {q0 : Int32} (F : Fx p s m args meth c cX11_orNone 1 "DustParishModel" 43 g B)
    {y : Int32} (hr : meth.sig.returnType = (some .int)) (hf : fX11_orNone_12 h q0 = some y) : V p l e 1 0 s m args below meth c (MQ below (QO KM 43 g (some (.int y)) h) args s 0 (6 * 0) (WA 43 g)) KM 43 g B 1 0 h 12 [] [.int q0] := by
  unfold fX11_orNone_12 at hf
  exact v_iret (pc := 12) F hr dX11_orNone_12 (Option.some.inj hf) rfl (Nat.zero_le _)
set_option maxRecDepth 100000 in
set_option maxHeartbeats 4000000 in
theorem kX11_orNone {l : Launch} {g : GE} {B : Nat} {h : ST} {a1 : Int32} {y : Int32} (hf : fX11_orNone h a1 = some y) : CT l yX11_orNone cX11_orNone 1 (some .int) 1 KM 43 g B [.int a1] h (some (.int y)) h := by
  refine CT.of pn_X11 (Nat.le_of_ble_eq_true rfl) ?_
  intro p e s m below meth c hr F
  have F : Fx p s m _ meth c cX11_orNone 1 "DustParishModel" 43 g B := F
  refine V_lv (lv' := [(0, .int a1)]) rfl ?_
  unfold fX11_orNone at hf
  refine v_iload_n (pc := 0) (j := 0) F dX11_orNone_0 rfl rfl ?_
  refine v_ldcw (pc := 1) F tw_1656 dX11_orNone_1 ?_
  refine v_icmp_lt (pc := 4) (tgt := 11) F dX11_orNone_4 (by decide) (fun c1 => ?_) (fun c1 => ?_)
  · have hf := ite_t hf c1
    refine v_iload_n (pc := 11) (j := 0) F dX11_orNone_11 rfl rfl ?_
    refine V.sub (lv' := []) [] rfl ?_
    exact tX11_orNone_12 F hr hf
  · have hf := ite_f hf c1
    refine v_iconst (pc := 7) (v := (-1)) F dX11_orNone_7 ic_m1 ?_
    refine v_goto (pc := 8) (tgt := 12) F dX11_orNone_8 (by decide) ?_
    refine V.sub (lv' := []) [] rfl ?_
    exact tX11_orNone_12 F hr hf
def fX11_far_21 (h : ST)  : Option (Int32 × ST) :=
  bnd (fX11_fail h 1) fun r6 =>
  some (r6.1, r6.2)
def fX11_far (h : ST) (a1 : Int32) (a2 : Int32) : Option (Int32 × ST) :=
  bnd (pw h 0 2 0) fun h1 =>
  bnd (fX11_isRoom h1 a1) fun r3 =>
  if r3 = 0 then
  fX11_far_21 h1 
  else
  bnd (fX11_isRoom h1 a2) fun r8 =>
    if r8 = 0 then
    fX11_far_21 h1 
    else
    bnd (fX11_tellWays h1) fun r11 =>
      bnd (rd 81 (r11 26) ((9 * a1) + a2)) fun v13 =>
      bnd (fX11_orNone r11 v13) fun r15 =>
      some (r15, r11)
set_option maxRecDepth 100000 in
set_option maxHeartbeats 4000000 in
theorem tX11_far_21 {p : Program} {l : Launch} {e : Env} {s : State} {m : MethodId} {args : Array Value} {below : List Frame} {meth : Method} {c : Code} {g : GE} {B : Nat} {h : ST}  (F : Fx p s m args meth c cX11_far 3 "DustParishModel" 43 g B)
    {y : Int32 × ST} (hr : meth.sig.returnType = (some .int)) (hf : fX11_far_21 h  = some y) : V p l e 3 0 s m args below meth c (MQ below (QO KM 43 g (some (.int y.1)) y.2) args s 0 (6 * 0) (WA 43 g)) KM 43 g B 3 0 h 21 [(0, .ref (gA g 0))] [] := by
  unfold fX11_far_21 at hf
  refine v_aload_n (pc := 21) (j := 0) F dX11_far_21 rfl rfl ?_
  refine v_iconst (pc := 22) (v := 1) F dX11_far_22 ic_1 ?_
  obtain ⟨r6, e7, hf⟩ := bnd_some hf
  refine v_callVi (pc := 23) (As := [.int 1]) F cl_X11_320 dX11_far_23 (kX11_fail e7) km_0.1 km_0.2 rc_10 rfl rfl (Nat.le_of_ble_eq_true rfl) (by decide) (Nat.zero_le _) ?_
  exact v_iret (pc := 26) F hr dX11_far_26 (some_fst hf) (some_snd hf) (Nat.zero_le _)
set_option maxRecDepth 100000 in
set_option maxHeartbeats 4000000 in
theorem kX11_far {l : Launch} {g : GE} {B : Nat} {h : ST} {a1 : Int32} {a2 : Int32} {y : Int32 × ST} (hf : fX11_far h a1 a2 = some y) : CT l yX11_far cX11_far 3 (some .int) 3 KM 43 g B [.ref (gA g 0), .int a1, .int a2] h (some (.int y.1)) y.2 := by
  refine CT.of pn_X11 (Nat.le_of_ble_eq_true rfl) ?_
  intro p e s m below meth c hr F
  have F : Fx p s m _ meth c cX11_far 3 "DustParishModel" 43 g B := F
  refine V_lv (lv' := [(0, .ref (gA g 0)), (1, .int a1), (2, .int a2)]) rfl ?_
  unfold fX11_far at hf
  refine v_aload_n (pc := 0) (j := 0) F dX11_far_0 rfl rfl ?_
  refine v_iconst (pc := 1) (v := 0) F dX11_far_1 ic_0 ?_
  obtain ⟨h1, e2, hf⟩ := bnd_some hf
  refine v_pfl (pc := 2) F fl_X11_157 pl_10_2 dX11_far_2 km_0.1 km_0.2 fv_10_2 rfl rfl e2 ?_
  refine v_aload_n (pc := 5) (j := 0) F dX11_far_5 rfl rfl ?_
  refine v_iload_n (pc := 6) (j := 1) F dX11_far_6 rfl rfl ?_
  obtain ⟨r3, e4, hf⟩ := bnd_some hf
  refine v_callVi (pc := 7) (As := [.int a1]) F cl_X11_387 dX11_far_7 (kX11_isRoom e4) km_0.1 km_0.2 rc_10 rfl rfl (Nat.le_of_ble_eq_true rfl) (by decide) (Nat.zero_le _) ?_
  refine v_if_eq (pc := 10) (tgt := 21) F dX11_far_10 (by decide) (fun c5 => ?_) (fun c5 => ?_)
  · have hf := ite_t hf c5
    refine V.sub (lv' := [(0, .ref (gA g 0))]) [0] rfl ?_
    exact tX11_far_21 F hr hf
  · have hf := ite_f hf c5
    refine v_aload_n (pc := 13) (j := 0) F dX11_far_13 rfl rfl ?_
    refine v_iload_n (pc := 14) (j := 2) F dX11_far_14 rfl rfl ?_
    obtain ⟨r8, e9, hf⟩ := bnd_some hf
    refine v_callVi (pc := 15) (As := [.int a2]) F cl_X11_387 dX11_far_15 (kX11_isRoom e9) km_0.1 km_0.2 rc_10 rfl rfl (Nat.le_of_ble_eq_true rfl) (by decide) (Nat.zero_le _) ?_
    refine v_if_ne (pc := 18) (tgt := 27) F dX11_far_18 (by decide) (fun c10 => ?_) (fun c10 => ?_)
    · have hf := ite_f hf c10
      refine v_aload_n (pc := 27) (j := 0) F dX11_far_27 rfl rfl ?_
      obtain ⟨r11, e12, hf⟩ := bnd_some hf
      refine v_callVv (pc := 28) (As := []) F cl_X11_391 dX11_far_28 (kX11_tellWays e12) km_0.1 km_0.2 rc_10 rfl rfl (Nat.le_of_ble_eq_true rfl) (by decide) (Nat.zero_le _) ?_
      refine v_aload_n (pc := 31) (j := 0) F dX11_far_31 rfl rfl ?_
      refine v_ifl (pc := 32) F fl_X11_106 dX11_far_32 km_0.1 km_0.2 fv_10_41 ?_
      refine v_bipush (pc := 35) (v := 9) F dX11_far_35 bp_9 ?_
      refine v_iload_n (pc := 37) (j := 1) F dX11_far_37 rfl rfl ?_
      refine v_imul (pc := 38) F dX11_far_38 ?_
      refine v_iload_n (pc := 39) (j := 2) F dX11_far_39 rfl rfl ?_
      refine v_iadd (pc := 40) F dX11_far_40 ?_
      obtain ⟨v13, e14, hf⟩ := bnd_some hf
      refine v_iald (pc := 41) F dX11_far_41 km_26.1 km_26.2 e14 ?_
      obtain ⟨r15, e16, hf⟩ := bnd_some hf
      refine v_callSi (pc := 42) (As := [.int v13]) F cl_X11_394 dX11_far_42 (kX11_orNone e16) rfl rfl (Nat.le_of_ble_eq_true rfl) (by decide) (Nat.zero_le _) ?_
      exact v_iret (pc := 45) F hr dX11_far_45 (some_fst hf) (some_snd hf) (Nat.zero_le _)
    · have hf := ite_t hf c10
      refine V.sub (lv' := [(0, .ref (gA g 0))]) [0] rfl ?_
      exact tX11_far_21 F hr hf
def fX11_fault (h : ST) : Option (Int32 × ST) :=
  bnd (pw h 0 2 0) fun h1 =>
  some (h1 0 28, h1)
set_option maxRecDepth 100000 in
set_option maxHeartbeats 4000000 in
theorem kX11_fault {l : Launch} {g : GE} {B : Nat} {h : ST} {y : Int32 × ST} (hf : fX11_fault h = some y) : CT l yX11_fault cX11_fault 1 (some .int) 1 KM 43 g B [.ref (gA g 0)] h (some (.int y.1)) y.2 := by
  refine CT.of pn_X11 (Nat.le_of_ble_eq_true rfl) ?_
  intro p e s m below meth c hr F
  have F : Fx p s m _ meth c cX11_fault 1 "DustParishModel" 43 g B := F
  refine V_lv (lv' := [(0, .ref (gA g 0))]) rfl ?_
  unfold fX11_fault at hf
  refine v_aload_n (pc := 0) (j := 0) F dX11_fault_0 rfl rfl ?_
  refine v_iconst (pc := 1) (v := 0) F dX11_fault_1 ic_0 ?_
  obtain ⟨h1, e2, hf⟩ := bnd_some hf
  refine v_pfl (pc := 2) F fl_X11_157 pl_10_2 dX11_fault_2 km_0.1 km_0.2 fv_10_2 rfl rfl e2 ?_
  refine v_aload_n (pc := 5) (j := 0) F dX11_fault_5 rfl rfl ?_
  refine v_ifl (pc := 6) F fl_X11_83 dX11_fault_6 km_0.1 km_0.2 fv_10_28 ?_
  exact v_iret (pc := 9) F hr dX11_fault_9 (some_fst hf) (some_snd hf) (Nat.zero_le _)
def fX11_feed_76 (h : ST) (l1 : Int32) (l2 : Int32) (l3 : Int32) (l4 : Int32) (l5 : Int32) (l6 : Int32) (q0 : Int32) : Option ((ST × Int32) ⊕ ST) :=
  bnd (wr 700 h 18 (h 0 19) ((q0 >>> ((24 - (8 * (l6 - l6 / 4 * 4))) &&& 31)) &&& 255)) fun h9 =>
  bnd (pw h9 0 19 ((h9 0 19) + 1)) fun h11 =>
  some (.inl (h11, l6 + 1))
def fX11_feed_23 (l1 : Int32) (l2 : Int32) (l3 : Int32) (l4 : Int32) (l5 : Int32) (s1 : (ST × Int32)) : Option ((ST × Int32) ⊕ ST) :=
  if 20 ≤ s1.2 then
  some (.inr s1.1)
  else
  if 4 ≤ s1.2 then
    if 8 ≤ s1.2 then
      if 12 ≤ s1.2 then
        if 16 ≤ s1.2 then
          fX11_feed_76 s1.1 l1 l2 l3 l4 l5 s1.2 l5
          else
          fX11_feed_76 s1.1 l1 l2 l3 l4 l5 s1.2 l4
        else
        fX11_feed_76 s1.1 l1 l2 l3 l4 l5 s1.2 l3
      else
      fX11_feed_76 s1.1 l1 l2 l3 l4 l5 s1.2 l2
    else
    fX11_feed_76 s1.1 l1 l2 l3 l4 l5 s1.2 l1
def fX11_feed (h : ST) (a1 : Int32) (a2 : Int32) (a3 : Int32) (a4 : Int32) (a5 : Int32) : Option (Int32 × ST) :=
  bnd (pw h 0 2 0) fun h1 =>
  if ((h1 0 19) + 20) ≤ 700 then
  bnd (lp FU (fX11_feed_23 a1 a2 a3 a4 a5) (h1, 0)) fun x13 =>
    some (x13 0 19, x13)
  else
  some ((-1), h1)
set_option maxRecDepth 100000 in
set_option maxHeartbeats 4000000 in
theorem tX11_feed_76 {p : Program} {l : Launch} {e : Env} {s : State} {m : MethodId} {args : Array Value} {below : List Frame} {meth : Method} {c : Code} {g : GE} {B : Nat} {h : ST}  {l1 : Int32} {l2 : Int32} {l3 : Int32} {l4 : Int32} {l5 : Int32} {l6 : Int32} {q0 : Int32} (F : Fx p s m args meth c cX11_feed 8 "DustParishModel" 43 g B)
    {Q : State → Prop} {y : (ST × Int32) ⊕ ST} (hk : ∀ v : (ST × Int32), y = Sum.inl v → V p l e 1 0 s m args below meth c Q KM 43 g B 8 0 v.1 23 [(0, .ref (gA g 0)), (1, .int l1), (2, .int l2), (3, .int l3), (4, .int l4), (5, .int l5), (6, .int v.2)] []) (hx0 : ∀ v : ST, y = Sum.inr v → V p l e 1 0 s m args below meth c Q KM 43 g B 8 0 v 120 [(0, .ref (gA g 0))] []) (hf : fX11_feed_76 h l1 l2 l3 l4 l5 l6 q0 = some y) : V p l e 1 0 s m args below meth c Q KM 43 g B 8 0 h 76 [(0, .ref (gA g 0)), (1, .int l1), (2, .int l2), (3, .int l3), (4, .int l4), (5, .int l5), (6, .int l6)] [.int q0] := by
  unfold fX11_feed_76 at hf
  refine v_istore (pc := 76) (lv' := [(0, .ref (gA g 0)), (1, .int l1), (2, .int l2), (3, .int l3), (4, .int l4), (5, .int l5), (6, .int l6), (7, .int q0)]) F dX11_feed_76 (by decide) rfl ?_
  refine v_aload_n (pc := 78) (j := 0) F dX11_feed_78 rfl rfl ?_
  refine v_ifl (pc := 79) F fl_X11_80 dX11_feed_79 km_0.1 km_0.2 fv_10_18 ?_
  refine v_aload_n (pc := 82) (j := 0) F dX11_feed_82 rfl rfl ?_
  refine v_ifl (pc := 83) F fl_X11_166 dX11_feed_83 km_0.1 km_0.2 fv_10_19 ?_
  refine v_iload (pc := 86) (j := 7) F dX11_feed_86 rfl ?_
  refine v_bipush (pc := 88) (v := 24) F dX11_feed_88 bp_24 ?_
  refine v_bipush (pc := 90) (v := 8) F dX11_feed_90 bp_8 ?_
  refine v_iload (pc := 92) (j := 6) F dX11_feed_92 rfl ?_
  refine v_iconst (pc := 94) (v := 4) F dX11_feed_94 ic_4 ?_
  refine v_irem (pc := 95) F dX11_feed_95 (by decide) ?_
  refine v_imul (pc := 96) F dX11_feed_96 ?_
  refine v_isub (pc := 97) F dX11_feed_97 ?_
  refine v_ishr (pc := 98) F dX11_feed_98 ?_
  refine v_sipush (pc := 99) (v := 255) F dX11_feed_99 sp_255 ?_
  refine v_iand (pc := 102) F dX11_feed_102 ?_
  obtain ⟨h9, e10, hf⟩ := bnd_some hf
  refine v_iast (pc := 103) F dX11_feed_103 km_18.1 km_18.2 e10 ?_
  refine v_aload_n (pc := 104) (j := 0) F dX11_feed_104 rfl rfl ?_
  refine v_dup (pc := 105) F dX11_feed_105 rfl ?_
  refine v_ifl (pc := 106) F fl_X11_166 dX11_feed_106 km_0.1 km_0.2 fv_10_19 ?_
  refine v_iconst (pc := 109) (v := 1) F dX11_feed_109 ic_1 ?_
  refine v_iadd (pc := 110) F dX11_feed_110 ?_
  obtain ⟨h11, e12, hf⟩ := bnd_some hf
  refine v_pfl (pc := 111) F fl_X11_166 pl_10_19 dX11_feed_111 km_0.1 km_0.2 fv_10_19 rfl rfl e12 ?_
  refine v_iinc (pc := 114) (j := 6) (v := l6 + 1) (lv' := [(0, .ref (gA g 0)), (1, .int l1), (2, .int l2), (3, .int l3), (4, .int l4), (5, .int l5), (6, .int (l6 + 1)), (7, .int q0)]) F dX11_feed_114 rfl (congrArg (fun z => l6 + z) ic_1) (by decide) rfl ?_
  refine v_goto (pc := 117) (tgt := 23) F dX11_feed_117 (by decide) ?_
  refine V.sub (lv' := [(0, .ref (gA g 0)), (1, .int l1), (2, .int l2), (3, .int l3), (4, .int l4), (5, .int l5), (6, .int (l6 + 1))]) [0, 1, 2, 3, 4, 5, 6] rfl ?_
  exact hk (h11, l6 + 1) (Option.some.inj hf).symm
set_option maxRecDepth 100000 in
set_option maxHeartbeats 4000000 in
theorem tX11_feed_23 {p : Program} {l : Launch} {e : Env} {s : State} {m : MethodId} {args : Array Value} {below : List Frame} {meth : Method} {c : Code} {g : GE} {B : Nat}   {l1 : Int32} {l2 : Int32} {l3 : Int32} {l4 : Int32} {l5 : Int32} {Q : State → Prop} {x : ST} {nf : Nat} {s0 : (ST × Int32)} (F : Fx p s m args meth c cX11_feed 8 "DustParishModel" 43 g B) (hX0 : V p l e 1 0 s m args below meth c Q KM 43 g B 8 0 x 120 [(0, .ref (gA g 0))] []) (hl : lp nf (fX11_feed_23 l1 l2 l3 l4 l5) s0 = some x) : V p l e 1 0 s m args below meth c Q KM 43 g B 8 0 s0.1 23 [(0, .ref (gA g 0)), (1, .int l1), (2, .int l2), (3, .int l3), (4, .int l4), (5, .int l5), (6, .int s0.2)] [] := by
  refine lp_ind (P := fun s0 => V p l e 1 0 s m args below meth c Q KM 43 g B 8 0 s0.1 23 [(0, .ref (gA g 0)), (1, .int l1), (2, .int l2), (3, .int l3), (4, .int l4), (5, .int l5), (6, .int s0.2)] []) ?_ nf s0 hl
  intro s1 y hf hk hx
  have hx0 : ∀ v : ST, y = Sum.inr v → V p l e 1 0 s m args below meth c Q KM 43 g B 8 0 v 120 [(0, .ref (gA g 0))] [] := fun v e9 => by rw [hx v e9]; exact hX0
  unfold fX11_feed_23 at hf
  refine v_iload (pc := 23) (j := 6) F dX11_feed_23 rfl ?_
  refine v_bipush (pc := 25) (v := 20) F dX11_feed_25 bp_20 ?_
  refine v_icmp_ge (pc := 27) (tgt := 120) F dX11_feed_27 (by decide) (fun c4 => ?_) (fun c4 => ?_)
  · have hf := ite_t hf c4
    refine V.sub (lv' := [(0, .ref (gA g 0))]) [0] rfl ?_
    exact hx0 s1.1 (Option.some.inj hf).symm
  · have hf := ite_f hf c4
    refine v_iload (pc := 30) (j := 6) F dX11_feed_30 rfl ?_
    refine v_iconst (pc := 32) (v := 4) F dX11_feed_32 ic_4 ?_
    refine v_icmp_ge (pc := 33) (tgt := 40) F dX11_feed_33 (by decide) (fun c5 => ?_) (fun c5 => ?_)
    · have hf := ite_t hf c5
      refine v_iload (pc := 40) (j := 6) F dX11_feed_40 rfl ?_
      refine v_bipush (pc := 42) (v := 8) F dX11_feed_42 bp_8 ?_
      refine v_icmp_ge (pc := 44) (tgt := 51) F dX11_feed_44 (by decide) (fun c6 => ?_) (fun c6 => ?_)
      · have hf := ite_t hf c6
        refine v_iload (pc := 51) (j := 6) F dX11_feed_51 rfl ?_
        refine v_bipush (pc := 53) (v := 12) F dX11_feed_53 bp_12 ?_
        refine v_icmp_ge (pc := 55) (tgt := 62) F dX11_feed_55 (by decide) (fun c7 => ?_) (fun c7 => ?_)
        · have hf := ite_t hf c7
          refine v_iload (pc := 62) (j := 6) F dX11_feed_62 rfl ?_
          refine v_bipush (pc := 64) (v := 16) F dX11_feed_64 bp_16 ?_
          refine v_icmp_ge (pc := 66) (tgt := 74) F dX11_feed_66 (by decide) (fun c8 => ?_) (fun c8 => ?_)
          · have hf := ite_t hf c8
            refine v_iload (pc := 74) (j := 5) F dX11_feed_74 rfl ?_
            exact tX11_feed_76 F hk hx0 hf
          · have hf := ite_f hf c8
            refine v_iload (pc := 69) (j := 4) F dX11_feed_69 rfl ?_
            refine v_goto (pc := 71) (tgt := 76) F dX11_feed_71 (by decide) ?_
            exact tX11_feed_76 F hk hx0 hf
        · have hf := ite_f hf c7
          refine v_iload_n (pc := 58) (j := 3) F dX11_feed_58 rfl rfl ?_
          refine v_goto (pc := 59) (tgt := 76) F dX11_feed_59 (by decide) ?_
          exact tX11_feed_76 F hk hx0 hf
      · have hf := ite_f hf c6
        refine v_iload_n (pc := 47) (j := 2) F dX11_feed_47 rfl rfl ?_
        refine v_goto (pc := 48) (tgt := 76) F dX11_feed_48 (by decide) ?_
        exact tX11_feed_76 F hk hx0 hf
    · have hf := ite_f hf c5
      refine v_iload_n (pc := 36) (j := 1) F dX11_feed_36 rfl rfl ?_
      refine v_goto (pc := 37) (tgt := 76) F dX11_feed_37 (by decide) ?_
      exact tX11_feed_76 F hk hx0 hf
set_option maxRecDepth 100000 in
set_option maxHeartbeats 4000000 in
theorem kX11_feed {l : Launch} {g : GE} {B : Nat} {h : ST} {a1 : Int32} {a2 : Int32} {a3 : Int32} {a4 : Int32} {a5 : Int32} {y : Int32 × ST} (hf : fX11_feed h a1 a2 a3 a4 a5 = some y) : CT l yX11_feed cX11_feed 8 (some .int) 1 KM 43 g B [.ref (gA g 0), .int a1, .int a2, .int a3, .int a4, .int a5] h (some (.int y.1)) y.2 := by
  refine CT.of pn_X11 (Nat.le_of_ble_eq_true rfl) ?_
  intro p e s m below meth c hr F
  have F : Fx p s m _ meth c cX11_feed 8 "DustParishModel" 43 g B := F
  refine V_lv (lv' := [(0, .ref (gA g 0)), (1, .int a1), (2, .int a2), (3, .int a3), (4, .int a4), (5, .int a5)]) rfl ?_
  unfold fX11_feed at hf
  refine v_aload_n (pc := 0) (j := 0) F dX11_feed_0 rfl rfl ?_
  refine v_iconst (pc := 1) (v := 0) F dX11_feed_1 ic_0 ?_
  obtain ⟨h1, e2, hf⟩ := bnd_some hf
  refine v_pfl (pc := 2) F fl_X11_157 pl_10_2 dX11_feed_2 km_0.1 km_0.2 fv_10_2 rfl rfl e2 ?_
  refine v_aload_n (pc := 5) (j := 0) F dX11_feed_5 rfl rfl ?_
  refine v_ifl (pc := 6) F fl_X11_166 dX11_feed_6 km_0.1 km_0.2 fv_10_19 ?_
  refine v_bipush (pc := 9) (v := 20) F dX11_feed_9 bp_20 ?_
  refine v_iadd (pc := 11) F dX11_feed_11 ?_
  refine v_sipush (pc := 12) (v := 700) F dX11_feed_12 sp_700 ?_
  refine v_icmp_le (pc := 15) (tgt := 20) F dX11_feed_15 (by decide) (fun c3 => ?_) (fun c3 => ?_)
  · have hf := ite_t hf c3
    refine v_iconst (pc := 20) (v := 0) F dX11_feed_20 ic_0 ?_
    refine v_istore (pc := 21) (lv' := [(0, .ref (gA g 0)), (1, .int a1), (2, .int a2), (3, .int a3), (4, .int a4), (5, .int a5), (6, .int 0)]) F dX11_feed_21 (by decide) rfl ?_
    obtain ⟨x13, e14, hf⟩ := bnd_some hf
    refine tX11_feed_23 (s0 := (h1, 0)) F ?_ e14
    refine v_aload_n (pc := 120) (j := 0) F dX11_feed_120 rfl rfl ?_
    refine v_ifl (pc := 121) F fl_X11_166 dX11_feed_121 km_0.1 km_0.2 fv_10_19 ?_
    exact v_iret (pc := 124) F hr dX11_feed_124 (some_fst hf) (some_snd hf) (Nat.zero_le _)
  · have hf := ite_f hf c3
    refine v_iconst (pc := 18) (v := (-1)) F dX11_feed_18 ic_m1 ?_
    exact v_iret (pc := 19) F hr dX11_feed_19 (some_fst hf) (some_snd hf) (Nat.zero_le _)
def fX11_forget (h : ST) : Option (ST) :=
  bnd (pw h 0 2 0) fun h1 =>
  bnd (pw h1 0 37 0) fun h3 =>
  some h3
set_option maxRecDepth 100000 in
set_option maxHeartbeats 4000000 in
theorem kX11_forget {l : Launch} {g : GE} {B : Nat} {h : ST} {y : ST} (hf : fX11_forget h = some y) : CT l yX11_forget cX11_forget 1 none 1 KM 43 g B [.ref (gA g 0)] h none y := by
  refine CT.of pn_X11 (Nat.le_of_ble_eq_true rfl) ?_
  intro p e s m below meth c hr F
  have F : Fx p s m _ meth c cX11_forget 1 "DustParishModel" 43 g B := F
  refine V_lv (lv' := [(0, .ref (gA g 0))]) rfl ?_
  unfold fX11_forget at hf
  refine v_aload_n (pc := 0) (j := 0) F dX11_forget_0 rfl rfl ?_
  refine v_iconst (pc := 1) (v := 0) F dX11_forget_1 ic_0 ?_
  obtain ⟨h1, e2, hf⟩ := bnd_some hf
  refine v_pfl (pc := 2) F fl_X11_157 pl_10_2 dX11_forget_2 km_0.1 km_0.2 fv_10_2 rfl rfl e2 ?_
  refine v_aload_n (pc := 5) (j := 0) F dX11_forget_5 rfl rfl ?_
  refine v_iconst (pc := 6) (v := 0) F dX11_forget_6 ic_0 ?_
  obtain ⟨h3, e4, hf⟩ := bnd_some hf
  refine v_pfl (pc := 7) F fl_X11_344 pl_10_37 dX11_forget_7 km_0.1 km_0.2 fv_10_37 rfl rfl e4 ?_
  exact v_vret (pc := 10) F hr dX11_forget_10 (Option.some.inj hf) (Nat.zero_le _)
def fX11_from_21 (h : ST)  : Option (Int32 × ST) :=
  bnd (fX11_fail h 1) fun r6 =>
  some (r6.1, r6.2)
def fX11_from_74 (h : ST) (l1 : Int32) (l2 : Int32) (l3 : Int32) (l4 : Int32) (q1 : Int32) (q2 : Int32) : Option ((ST × Int32) ⊕ ST) :=
  bnd (wr 9 h 32 q1 q2) fun h16 =>
  some (.inl (h16, l4 + 1))
def fX11_from_48 (l1 : Int32) (l2 : Int32) (l3 : Int32) (s1 : (ST × Int32)) : Option ((ST × Int32) ⊕ ST) :=
  if 9 ≤ s1.2 then
  some (.inr s1.1)
  else
  if s1.2 = l1 then
    fX11_from_74 s1.1 l1 l2 l3 s1.2 s1.2 10000
    else
    fX11_from_74 s1.1 l1 l2 l3 s1.2 s1.2 0
def fX11_from_217 (h : ST) (l2 : Int32) (l3 : Int32) (l4 : Int32) (l5 : Int32) (l6 : Int32) (q1 : Int32) (q2 : Int32) (q3 : Int32) : Option ((ST × Int32) ⊕ ST) :=
  bnd (wr 9 h 32 q1 (q2 + q3)) fun h48 =>
  some (.inl (h48, l6 + 1))
def fX11_from_113 (l2 : Int32) (l3 : Int32) (l4 : Int32) (l5 : Int32) (s1 : (ST × Int32)) : Option ((ST × Int32) ⊕ ST) :=
  if l5 = 5 then
  some (.inr s1.1)
  else
  bnd (rd 10 (s1.1 11) l5) fun v24 =>
    if ((8 * l5) + v24) ≤ s1.2 then
    some (.inr s1.1)
    else
    bnd (rd 80 (s1.1 12) s1.2) fun v27 =>
      bnd (rd 9 (s1.1 32) v27) fun v29 =>
      bnd (rd 80 (s1.1 14) s1.2) fun v31 =>
      bnd (rd 80 (s1.1 12) s1.2) fun v33 =>
      bnd (rd 9 (s1.1 32) v33) fun v35 =>
      bnd (wr 9 s1.1 32 v33 (v35 - ((v29 * v31) / 10))) fun h37 =>
      bnd (rd 80 (h37 13) s1.2) fun v39 =>
      bnd (rd 9 (h37 32) v39) fun v41 =>
      bnd (rd 80 (h37 13) s1.2) fun v43 =>
      bnd (rd 18 (h37 4) v43) fun v45 =>
      if v45 = 1 then
      fX11_from_217 h37 l2 l3 l4 l5 s1.2 v39 v41 (((v29 * v31) / 10) / 2)
      else
      fX11_from_217 h37 l2 l3 l4 l5 s1.2 v39 v41 ((v29 * v31) / 10)
def fX11_from_225 (h : ST) (l2 : Int32) (l3 : Int32) (l4 : Int32) : Option ((ST × Int32) ⊕ ST) :=
  some (.inl (h, l4 + 1))
def fX11_from_87 (l2 : Int32) (l3 : Int32) (s1 : (ST × Int32)) : Option ((ST × Int32) ⊕ ST) :=
  if ((s1.1 0 33) + l3) ≤ s1.2 then
  some (.inr s1.1)
  else
  bnd (fX11_windOf s1.1 s1.2) fun r21 =>
    bnd (lp FU (fX11_from_113 l2 l3 s1.2 r21) (s1.1, 8 * r21)) fun x50 =>
    fX11_from_225 x50 l2 l3 s1.2
def fX11_from (h : ST) (a1 : Int32) (a2 : Int32) (a3 : Int32) : Option (Int32 × ST) :=
  bnd (pw h 0 2 0) fun h1 =>
  bnd (fX11_isRoom h1 a1) fun r3 =>
  if r3 = 0 then
  fX11_from_21 h1 
  else
  bnd (fX11_isRoom h1 a2) fun r8 =>
    if r8 = 0 then
    fX11_from_21 h1 
    else
    bnd (fX11_isIn h1 a3.toInt64 (0 : Int64) (9 : Int64)) fun r11 =>
      if r11 = 0 then
      bnd (fX11_fail h1 2) fun r56 =>
        some (r56.1, r56.2)
      else
      bnd (lp FU (fX11_from_48 a1 a2 a3) (h1, 0)) fun x18 =>
        bnd (lp FU (fX11_from_87 a2 a3) (x18, x18 0 33)) fun x52 =>
        bnd (rd 9 (x52 32) a2) fun v54 =>
        some (v54, x52)
set_option maxRecDepth 100000 in
set_option maxHeartbeats 4000000 in
theorem tX11_from_21 {p : Program} {l : Launch} {e : Env} {s : State} {m : MethodId} {args : Array Value} {below : List Frame} {meth : Method} {c : Code} {g : GE} {B : Nat} {h : ST}  (F : Fx p s m args meth c cX11_from 8 "DustParishModel" 43 g B)
    {y : Int32 × ST} (hr : meth.sig.returnType = (some .int)) (hf : fX11_from_21 h  = some y) : V p l e 3 0 s m args below meth c (MQ below (QO KM 43 g (some (.int y.1)) y.2) args s 0 (6 * 0) (WA 43 g)) KM 43 g B 8 0 h 21 [(0, .ref (gA g 0))] [] := by
  unfold fX11_from_21 at hf
  refine v_aload_n (pc := 21) (j := 0) F dX11_from_21 rfl rfl ?_
  refine v_iconst (pc := 22) (v := 1) F dX11_from_22 ic_1 ?_
  obtain ⟨r6, e7, hf⟩ := bnd_some hf
  refine v_callVi (pc := 23) (As := [.int 1]) F cl_X11_320 dX11_from_23 (kX11_fail e7) km_0.1 km_0.2 rc_10 rfl rfl (Nat.le_of_ble_eq_true rfl) (by decide) (Nat.zero_le _) ?_
  exact v_iret (pc := 26) F hr dX11_from_26 (some_fst hf) (some_snd hf) (Nat.zero_le _)
set_option maxRecDepth 100000 in
set_option maxHeartbeats 4000000 in
theorem tX11_from_74 {p : Program} {l : Launch} {e : Env} {s : State} {m : MethodId} {args : Array Value} {below : List Frame} {meth : Method} {c : Code} {g : GE} {B : Nat} {h : ST}  {l1 : Int32} {l2 : Int32} {l3 : Int32} {l4 : Int32} {q1 : Int32} {q2 : Int32} (F : Fx p s m args meth c cX11_from 8 "DustParishModel" 43 g B)
    {Q : State → Prop} {y : (ST × Int32) ⊕ ST} (hk : ∀ v : (ST × Int32), y = Sum.inl v → V p l e 3 0 s m args below meth c Q KM 43 g B 8 0 v.1 48 [(0, .ref (gA g 0)), (1, .int l1), (2, .int l2), (3, .int l3), (4, .int v.2)] []) (hx0 : ∀ v : ST, y = Sum.inr v → V p l e 3 0 s m args below meth c Q KM 43 g B 8 0 v 81 [(0, .ref (gA g 0)), (2, .int l2), (3, .int l3)] []) (hf : fX11_from_74 h l1 l2 l3 l4 q1 q2 = some y) : V p l e 3 0 s m args below meth c Q KM 43 g B 8 0 h 74 [(0, .ref (gA g 0)), (1, .int l1), (2, .int l2), (3, .int l3), (4, .int l4)] [.int q2, .int q1, .ref (gA g 32)] := by
  unfold fX11_from_74 at hf
  obtain ⟨h16, e17, hf⟩ := bnd_some hf
  refine v_iast (pc := 74) F dX11_from_74 km_32.1 km_32.2 e17 ?_
  refine v_iinc (pc := 75) (j := 4) (v := l4 + 1) (lv' := [(0, .ref (gA g 0)), (1, .int l1), (2, .int l2), (3, .int l3), (4, .int (l4 + 1))]) F dX11_from_75 rfl (congrArg (fun z => l4 + z) ic_1) (by decide) rfl ?_
  refine v_goto (pc := 78) (tgt := 48) F dX11_from_78 (by decide) ?_
  exact hk (h16, l4 + 1) (Option.some.inj hf).symm
set_option maxRecDepth 100000 in
set_option maxHeartbeats 4000000 in
theorem tX11_from_48 {p : Program} {l : Launch} {e : Env} {s : State} {m : MethodId} {args : Array Value} {below : List Frame} {meth : Method} {c : Code} {g : GE} {B : Nat}   {l1 : Int32} {l2 : Int32} {l3 : Int32} {Q : State → Prop} {x : ST} {nf : Nat} {s0 : (ST × Int32)} (F : Fx p s m args meth c cX11_from 8 "DustParishModel" 43 g B) (hX0 : V p l e 3 0 s m args below meth c Q KM 43 g B 8 0 x 81 [(0, .ref (gA g 0)), (2, .int l2), (3, .int l3)] []) (hl : lp nf (fX11_from_48 l1 l2 l3) s0 = some x) : V p l e 3 0 s m args below meth c Q KM 43 g B 8 0 s0.1 48 [(0, .ref (gA g 0)), (1, .int l1), (2, .int l2), (3, .int l3), (4, .int s0.2)] [] := by
  refine lp_ind (P := fun s0 => V p l e 3 0 s m args below meth c Q KM 43 g B 8 0 s0.1 48 [(0, .ref (gA g 0)), (1, .int l1), (2, .int l2), (3, .int l3), (4, .int s0.2)] []) ?_ nf s0 hl
  intro s1 y hf hk hx
  have hx0 : ∀ v : ST, y = Sum.inr v → V p l e 3 0 s m args below meth c Q KM 43 g B 8 0 v 81 [(0, .ref (gA g 0)), (2, .int l2), (3, .int l3)] [] := fun v e9 => by rw [hx v e9]; exact hX0
  unfold fX11_from_48 at hf
  refine v_iload (pc := 48) (j := 4) F dX11_from_48 rfl ?_
  refine v_bipush (pc := 50) (v := 9) F dX11_from_50 bp_9 ?_
  refine v_icmp_ge (pc := 52) (tgt := 81) F dX11_from_52 (by decide) (fun c14 => ?_) (fun c14 => ?_)
  · have hf := ite_t hf c14
    refine V.sub (lv' := [(0, .ref (gA g 0)), (2, .int l2), (3, .int l3)]) [0, 2, 3] rfl ?_
    exact hx0 s1.1 (Option.some.inj hf).symm
  · have hf := ite_f hf c14
    refine v_aload_n (pc := 55) (j := 0) F dX11_from_55 rfl rfl ?_
    refine v_ifl (pc := 56) F fl_X11_124 dX11_from_56 km_0.1 km_0.2 fv_10_48 ?_
    refine v_iload (pc := 59) (j := 4) F dX11_from_59 rfl ?_
    refine v_iload (pc := 61) (j := 4) F dX11_from_61 rfl ?_
    refine v_iload_n (pc := 63) (j := 1) F dX11_from_63 rfl rfl ?_
    refine v_icmp_ne (pc := 64) (tgt := 73) F dX11_from_64 (by decide) (fun c15 => ?_) (fun c15 => ?_)
    · have hf := ite_f hf c15
      refine v_iconst (pc := 73) (v := 0) F dX11_from_73 ic_0 ?_
      exact tX11_from_74 F hk hx0 hf
    · have hf := ite_t hf c15
      refine v_sipush (pc := 67) (v := 10000) F dX11_from_67 sp_10000 ?_
      refine v_goto (pc := 70) (tgt := 74) F dX11_from_70 (by decide) ?_
      exact tX11_from_74 F hk hx0 hf
set_option maxRecDepth 100000 in
set_option maxHeartbeats 4000000 in
theorem tX11_from_217 {p : Program} {l : Launch} {e : Env} {s : State} {m : MethodId} {args : Array Value} {below : List Frame} {meth : Method} {c : Code} {g : GE} {B : Nat} {h : ST}  {l2 : Int32} {l3 : Int32} {l4 : Int32} {l5 : Int32} {l6 : Int32} {q1 : Int32} {q2 : Int32} {q3 : Int32} (F : Fx p s m args meth c cX11_from 8 "DustParishModel" 43 g B)
    {Q : State → Prop} {y : (ST × Int32) ⊕ ST} (hk : ∀ v : (ST × Int32), y = Sum.inl v → V p l e 3 0 s m args below meth c Q KM 43 g B 8 0 v.1 113 [(0, .ref (gA g 0)), (2, .int l2), (3, .int l3), (4, .int l4), (5, .int l5), (6, .int v.2)] []) (hx0 : ∀ v : ST, y = Sum.inr v → V p l e 3 0 s m args below meth c Q KM 43 g B 8 0 v 225 [(0, .ref (gA g 0)), (2, .int l2), (3, .int l3), (4, .int l4)] []) (hf : fX11_from_217 h l2 l3 l4 l5 l6 q1 q2 q3 = some y) : V p l e 3 0 s m args below meth c Q KM 43 g B 8 0 h 217 [(0, .ref (gA g 0)), (2, .int l2), (3, .int l3), (4, .int l4), (5, .int l5), (6, .int l6)] [.int q3, .int q2, .int q1, .ref (gA g 32)] := by
  unfold fX11_from_217 at hf
  refine v_iadd (pc := 217) F dX11_from_217 ?_
  obtain ⟨h48, e49, hf⟩ := bnd_some hf
  refine v_iast (pc := 218) F dX11_from_218 km_32.1 km_32.2 e49 ?_
  refine v_iinc (pc := 219) (j := 5) (v := l6 + 1) (lv' := [(0, .ref (gA g 0)), (2, .int l2), (3, .int l3), (4, .int l4), (5, .int l5), (6, .int (l6 + 1))]) F dX11_from_219 rfl (congrArg (fun z => l6 + z) ic_1) (by decide) rfl ?_
  refine v_goto (pc := 222) (tgt := 113) F dX11_from_222 (by decide) ?_
  exact hk (h48, l6 + 1) (Option.some.inj hf).symm
set_option maxRecDepth 100000 in
set_option maxHeartbeats 4000000 in
theorem tX11_from_113 {p : Program} {l : Launch} {e : Env} {s : State} {m : MethodId} {args : Array Value} {below : List Frame} {meth : Method} {c : Code} {g : GE} {B : Nat}   {l2 : Int32} {l3 : Int32} {l4 : Int32} {l5 : Int32} {Q : State → Prop} {x : ST} {nf : Nat} {s0 : (ST × Int32)} (F : Fx p s m args meth c cX11_from 8 "DustParishModel" 43 g B) (hX0 : V p l e 3 0 s m args below meth c Q KM 43 g B 8 0 x 225 [(0, .ref (gA g 0)), (2, .int l2), (3, .int l3), (4, .int l4)] []) (hl : lp nf (fX11_from_113 l2 l3 l4 l5) s0 = some x) : V p l e 3 0 s m args below meth c Q KM 43 g B 8 0 s0.1 113 [(0, .ref (gA g 0)), (2, .int l2), (3, .int l3), (4, .int l4), (5, .int l5), (6, .int s0.2)] [] := by
  refine lp_ind (P := fun s0 => V p l e 3 0 s m args below meth c Q KM 43 g B 8 0 s0.1 113 [(0, .ref (gA g 0)), (2, .int l2), (3, .int l3), (4, .int l4), (5, .int l5), (6, .int s0.2)] []) ?_ nf s0 hl
  intro s1 y hf hk hx
  have hx0 : ∀ v : ST, y = Sum.inr v → V p l e 3 0 s m args below meth c Q KM 43 g B 8 0 v 225 [(0, .ref (gA g 0)), (2, .int l2), (3, .int l3), (4, .int l4)] [] := fun v e9 => by rw [hx v e9]; exact hX0
  unfold fX11_from_113 at hf
  refine v_iload (pc := 113) (j := 4) F dX11_from_113 rfl ?_
  refine v_iconst (pc := 115) (v := 5) F dX11_from_115 ic_5 ?_
  refine v_icmp_eq (pc := 116) (tgt := 225) F dX11_from_116 (by decide) (fun c23 => ?_) (fun c23 => ?_)
  · have hf := ite_t hf c23
    refine V.sub (lv' := [(0, .ref (gA g 0)), (2, .int l2), (3, .int l3), (4, .int l4)]) [0, 1, 2, 3] rfl ?_
    exact hx0 s1.1 (Option.some.inj hf).symm
  · have hf := ite_f hf c23
    refine v_iload (pc := 119) (j := 5) F dX11_from_119 rfl ?_
    refine v_bipush (pc := 121) (v := 8) F dX11_from_121 bp_8 ?_
    refine v_iload (pc := 123) (j := 4) F dX11_from_123 rfl ?_
    refine v_imul (pc := 125) F dX11_from_125 ?_
    refine v_aload_n (pc := 126) (j := 0) F dX11_from_126 rfl rfl ?_
    refine v_ifl (pc := 127) F fl_X11_59 dX11_from_127 km_0.1 km_0.2 fv_10_11 ?_
    refine v_iload (pc := 130) (j := 4) F dX11_from_130 rfl ?_
    obtain ⟨v24, e25, hf⟩ := bnd_some hf
    refine v_iald (pc := 132) F dX11_from_132 km_11.1 km_11.2 e25 ?_
    refine v_iadd (pc := 133) F dX11_from_133 ?_
    refine v_icmp_ge (pc := 134) (tgt := 225) F dX11_from_134 (by decide) (fun c26 => ?_) (fun c26 => ?_)
    · have hf := ite_t hf c26
      refine V.sub (lv' := [(0, .ref (gA g 0)), (2, .int l2), (3, .int l3), (4, .int l4)]) [0, 1, 2, 3] rfl ?_
      exact hx0 s1.1 (Option.some.inj hf).symm
    · have hf := ite_f hf c26
      refine v_aload_n (pc := 137) (j := 0) F dX11_from_137 rfl rfl ?_
      refine v_ifl (pc := 138) F fl_X11_124 dX11_from_138 km_0.1 km_0.2 fv_10_48 ?_
      refine v_aload_n (pc := 141) (j := 0) F dX11_from_141 rfl rfl ?_
      refine v_ifl (pc := 142) F fl_X11_62 dX11_from_142 km_0.1 km_0.2 fv_10_12 ?_
      refine v_iload (pc := 145) (j := 5) F dX11_from_145 rfl ?_
      obtain ⟨v27, e28, hf⟩ := bnd_some hf
      refine v_iald (pc := 147) F dX11_from_147 km_12.1 km_12.2 e28 ?_
      obtain ⟨v29, e30, hf⟩ := bnd_some hf
      refine v_iald (pc := 148) F dX11_from_148 km_32.1 km_32.2 e30 ?_
      refine v_aload_n (pc := 149) (j := 0) F dX11_from_149 rfl rfl ?_
      refine v_ifl (pc := 150) F fl_X11_68 dX11_from_150 km_0.1 km_0.2 fv_10_14 ?_
      refine v_iload (pc := 153) (j := 5) F dX11_from_153 rfl ?_
      obtain ⟨v31, e32, hf⟩ := bnd_some hf
      refine v_iald (pc := 155) F dX11_from_155 km_14.1 km_14.2 e32 ?_
      refine v_imul (pc := 156) F dX11_from_156 ?_
      refine v_bipush (pc := 157) (v := 10) F dX11_from_157 bp_10 ?_
      refine v_idiv (pc := 159) F dX11_from_159 (by decide) ?_
      refine v_istore (pc := 160) (lv' := [(0, .ref (gA g 0)), (2, .int l2), (3, .int l3), (4, .int l4), (5, .int l5), (6, .int s1.2), (7, .int ((v29 * v31) / 10))]) F dX11_from_160 (by decide) rfl ?_
      refine v_aload_n (pc := 162) (j := 0) F dX11_from_162 rfl rfl ?_
      refine v_ifl (pc := 163) F fl_X11_124 dX11_from_163 km_0.1 km_0.2 fv_10_48 ?_
      refine v_aload_n (pc := 166) (j := 0) F dX11_from_166 rfl rfl ?_
      refine v_ifl (pc := 167) F fl_X11_62 dX11_from_167 km_0.1 km_0.2 fv_10_12 ?_
      refine v_iload (pc := 170) (j := 5) F dX11_from_170 rfl ?_
      obtain ⟨v33, e34, hf⟩ := bnd_some hf
      refine v_iald (pc := 172) F dX11_from_172 km_12.1 km_12.2 e34 ?_
      refine v_dup2_11 (pc := 173) F dX11_from_173 rfl rfl ?_
      obtain ⟨v35, e36, hf⟩ := bnd_some hf
      refine v_iald (pc := 174) F dX11_from_174 km_32.1 km_32.2 e36 ?_
      refine v_iload (pc := 175) (j := 6) F dX11_from_175 rfl ?_
      refine v_isub (pc := 177) F dX11_from_177 ?_
      obtain ⟨h37, e38, hf⟩ := bnd_some hf
      refine v_iast (pc := 178) F dX11_from_178 km_32.1 km_32.2 e38 ?_
      refine v_aload_n (pc := 179) (j := 0) F dX11_from_179 rfl rfl ?_
      refine v_ifl (pc := 180) F fl_X11_124 dX11_from_180 km_0.1 km_0.2 fv_10_48 ?_
      refine v_aload_n (pc := 183) (j := 0) F dX11_from_183 rfl rfl ?_
      refine v_ifl (pc := 184) F fl_X11_65 dX11_from_184 km_0.1 km_0.2 fv_10_13 ?_
      refine v_iload (pc := 187) (j := 5) F dX11_from_187 rfl ?_
      obtain ⟨v39, e40, hf⟩ := bnd_some hf
      refine v_iald (pc := 189) F dX11_from_189 km_13.1 km_13.2 e40 ?_
      refine v_dup2_11 (pc := 190) F dX11_from_190 rfl rfl ?_
      obtain ⟨v41, e42, hf⟩ := bnd_some hf
      refine v_iald (pc := 191) F dX11_from_191 km_32.1 km_32.2 e42 ?_
      refine v_aload_n (pc := 192) (j := 0) F dX11_from_192 rfl rfl ?_
      refine v_ifl (pc := 193) F fl_X11_40 dX11_from_193 km_0.1 km_0.2 fv_10_4 ?_
      refine v_aload_n (pc := 196) (j := 0) F dX11_from_196 rfl rfl ?_
      refine v_ifl (pc := 197) F fl_X11_65 dX11_from_197 km_0.1 km_0.2 fv_10_13 ?_
      refine v_iload (pc := 200) (j := 5) F dX11_from_200 rfl ?_
      obtain ⟨v43, e44, hf⟩ := bnd_some hf
      refine v_iald (pc := 202) F dX11_from_202 km_13.1 km_13.2 e44 ?_
      obtain ⟨v45, e46, hf⟩ := bnd_some hf
      refine v_iald (pc := 203) F dX11_from_203 km_4.1 km_4.2 e46 ?_
      refine v_iconst (pc := 204) (v := 1) F dX11_from_204 ic_1 ?_
      refine v_icmp_ne (pc := 205) (tgt := 215) F dX11_from_205 (by decide) (fun c47 => ?_) (fun c47 => ?_)
      · have hf := ite_f hf c47
        refine v_iload (pc := 215) (j := 6) F dX11_from_215 rfl ?_
        refine V.sub (lv' := [(0, .ref (gA g 0)), (2, .int l2), (3, .int l3), (4, .int l4), (5, .int l5), (6, .int s1.2)]) [0, 1, 2, 3, 4, 5] rfl ?_
        exact tX11_from_217 F hk hx0 hf
      · have hf := ite_t hf c47
        refine v_iload (pc := 208) (j := 6) F dX11_from_208 rfl ?_
        refine v_iconst (pc := 210) (v := 2) F dX11_from_210 ic_2 ?_
        refine v_idiv (pc := 211) F dX11_from_211 (by decide) ?_
        refine v_goto (pc := 212) (tgt := 217) F dX11_from_212 (by decide) ?_
        refine V.sub (lv' := [(0, .ref (gA g 0)), (2, .int l2), (3, .int l3), (4, .int l4), (5, .int l5), (6, .int s1.2)]) [0, 1, 2, 3, 4, 5] rfl ?_
        exact tX11_from_217 F hk hx0 hf
set_option maxRecDepth 100000 in
set_option maxHeartbeats 4000000 in
theorem tX11_from_225 {p : Program} {l : Launch} {e : Env} {s : State} {m : MethodId} {args : Array Value} {below : List Frame} {meth : Method} {c : Code} {g : GE} {B : Nat} {h : ST}  {l2 : Int32} {l3 : Int32} {l4 : Int32} (F : Fx p s m args meth c cX11_from 8 "DustParishModel" 43 g B)
    {Q : State → Prop} {y : (ST × Int32) ⊕ ST} (hk : ∀ v : (ST × Int32), y = Sum.inl v → V p l e 3 0 s m args below meth c Q KM 43 g B 8 0 v.1 87 [(0, .ref (gA g 0)), (2, .int l2), (3, .int l3), (4, .int v.2)] []) (hx0 : ∀ v : ST, y = Sum.inr v → V p l e 3 0 s m args below meth c Q KM 43 g B 8 0 v 231 [(0, .ref (gA g 0)), (2, .int l2)] []) (hf : fX11_from_225 h l2 l3 l4 = some y) : V p l e 3 0 s m args below meth c Q KM 43 g B 8 0 h 225 [(0, .ref (gA g 0)), (2, .int l2), (3, .int l3), (4, .int l4)] [] := by
  unfold fX11_from_225 at hf
  refine v_iinc (pc := 225) (j := 3) (v := l4 + 1) (lv' := [(0, .ref (gA g 0)), (2, .int l2), (3, .int l3), (4, .int (l4 + 1))]) F dX11_from_225 rfl (congrArg (fun z => l4 + z) ic_1) (by decide) rfl ?_
  refine v_goto (pc := 228) (tgt := 87) F dX11_from_228 (by decide) ?_
  exact hk (h, l4 + 1) (Option.some.inj hf).symm
set_option maxRecDepth 100000 in
set_option maxHeartbeats 4000000 in
theorem tX11_from_87 {p : Program} {l : Launch} {e : Env} {s : State} {m : MethodId} {args : Array Value} {below : List Frame} {meth : Method} {c : Code} {g : GE} {B : Nat}   {l2 : Int32} {l3 : Int32} {Q : State → Prop} {x : ST} {nf : Nat} {s0 : (ST × Int32)} (F : Fx p s m args meth c cX11_from 8 "DustParishModel" 43 g B) (hX0 : V p l e 3 0 s m args below meth c Q KM 43 g B 8 0 x 231 [(0, .ref (gA g 0)), (2, .int l2)] []) (hl : lp nf (fX11_from_87 l2 l3) s0 = some x) : V p l e 3 0 s m args below meth c Q KM 43 g B 8 0 s0.1 87 [(0, .ref (gA g 0)), (2, .int l2), (3, .int l3), (4, .int s0.2)] [] := by
  refine lp_ind (P := fun s0 => V p l e 3 0 s m args below meth c Q KM 43 g B 8 0 s0.1 87 [(0, .ref (gA g 0)), (2, .int l2), (3, .int l3), (4, .int s0.2)] []) ?_ nf s0 hl
  intro s1 y hf hk hx
  have hx0 : ∀ v : ST, y = Sum.inr v → V p l e 3 0 s m args below meth c Q KM 43 g B 8 0 v 231 [(0, .ref (gA g 0)), (2, .int l2)] [] := fun v e9 => by rw [hx v e9]; exact hX0
  unfold fX11_from_87 at hf
  refine v_iload (pc := 87) (j := 3) F dX11_from_87 rfl ?_
  refine v_aload_n (pc := 89) (j := 0) F dX11_from_89 rfl rfl ?_
  refine v_ifl (pc := 90) F fl_X11_333 dX11_from_90 km_0.1 km_0.2 fv_10_33 ?_
  refine v_iload_n (pc := 93) (j := 2) F dX11_from_93 rfl rfl ?_
  refine v_iadd (pc := 94) F dX11_from_94 ?_
  refine v_icmp_ge (pc := 95) (tgt := 231) F dX11_from_95 (by decide) (fun c20 => ?_) (fun c20 => ?_)
  · have hf := ite_t hf c20
    refine V.sub (lv' := [(0, .ref (gA g 0)), (2, .int l2)]) [0, 1] rfl ?_
    exact hx0 s1.1 (Option.some.inj hf).symm
  · have hf := ite_f hf c20
    refine v_aload_n (pc := 98) (j := 0) F dX11_from_98 rfl rfl ?_
    refine v_iload (pc := 99) (j := 3) F dX11_from_99 rfl ?_
    obtain ⟨r21, e22, hf⟩ := bnd_some hf
    refine v_callVi (pc := 101) (As := [.int s1.2]) F cl_X11_372 dX11_from_101 (kX11_windOf e22) km_0.1 km_0.2 rc_10 rfl rfl (Nat.le_of_ble_eq_true rfl) (by decide) (Nat.zero_le _) ?_
    refine v_istore (pc := 104) (lv' := [(0, .ref (gA g 0)), (2, .int l2), (3, .int l3), (4, .int s1.2), (5, .int r21)]) F dX11_from_104 (by decide) rfl ?_
    refine v_bipush (pc := 106) (v := 8) F dX11_from_106 bp_8 ?_
    refine v_iload (pc := 108) (j := 4) F dX11_from_108 rfl ?_
    refine v_imul (pc := 110) F dX11_from_110 ?_
    refine v_istore (pc := 111) (lv' := [(0, .ref (gA g 0)), (2, .int l2), (3, .int l3), (4, .int s1.2), (5, .int r21), (6, .int (8 * r21))]) F dX11_from_111 (by decide) rfl ?_
    obtain ⟨x50, e51, hf⟩ := bnd_some hf
    refine tX11_from_113 (s0 := (s1.1, 8 * r21)) F ?_ e51
    exact tX11_from_225 F hk hx0 hf
set_option maxRecDepth 100000 in
set_option maxHeartbeats 4000000 in
theorem kX11_from {l : Launch} {g : GE} {B : Nat} {h : ST} {a1 : Int32} {a2 : Int32} {a3 : Int32} {y : Int32 × ST} (hf : fX11_from h a1 a2 a3 = some y) : CT l yX11_from cX11_from 8 (some .int) 3 KM 43 g B [.ref (gA g 0), .int a1, .int a2, .int a3] h (some (.int y.1)) y.2 := by
  refine CT.of pn_X11 (Nat.le_of_ble_eq_true rfl) ?_
  intro p e s m below meth c hr F
  have F : Fx p s m _ meth c cX11_from 8 "DustParishModel" 43 g B := F
  refine V_lv (lv' := [(0, .ref (gA g 0)), (1, .int a1), (2, .int a2), (3, .int a3)]) rfl ?_
  unfold fX11_from at hf
  refine v_aload_n (pc := 0) (j := 0) F dX11_from_0 rfl rfl ?_
  refine v_iconst (pc := 1) (v := 0) F dX11_from_1 ic_0 ?_
  obtain ⟨h1, e2, hf⟩ := bnd_some hf
  refine v_pfl (pc := 2) F fl_X11_157 pl_10_2 dX11_from_2 km_0.1 km_0.2 fv_10_2 rfl rfl e2 ?_
  refine v_aload_n (pc := 5) (j := 0) F dX11_from_5 rfl rfl ?_
  refine v_iload_n (pc := 6) (j := 1) F dX11_from_6 rfl rfl ?_
  obtain ⟨r3, e4, hf⟩ := bnd_some hf
  refine v_callVi (pc := 7) (As := [.int a1]) F cl_X11_387 dX11_from_7 (kX11_isRoom e4) km_0.1 km_0.2 rc_10 rfl rfl (Nat.le_of_ble_eq_true rfl) (by decide) (Nat.zero_le _) ?_
  refine v_if_eq (pc := 10) (tgt := 21) F dX11_from_10 (by decide) (fun c5 => ?_) (fun c5 => ?_)
  · have hf := ite_t hf c5
    refine V.sub (lv' := [(0, .ref (gA g 0))]) [0] rfl ?_
    exact tX11_from_21 F hr hf
  · have hf := ite_f hf c5
    refine v_aload_n (pc := 13) (j := 0) F dX11_from_13 rfl rfl ?_
    refine v_iload_n (pc := 14) (j := 2) F dX11_from_14 rfl rfl ?_
    obtain ⟨r8, e9, hf⟩ := bnd_some hf
    refine v_callVi (pc := 15) (As := [.int a2]) F cl_X11_387 dX11_from_15 (kX11_isRoom e9) km_0.1 km_0.2 rc_10 rfl rfl (Nat.le_of_ble_eq_true rfl) (by decide) (Nat.zero_le _) ?_
    refine v_if_ne (pc := 18) (tgt := 27) F dX11_from_18 (by decide) (fun c10 => ?_) (fun c10 => ?_)
    · have hf := ite_f hf c10
      refine v_iload_n (pc := 27) (j := 3) F dX11_from_27 rfl rfl ?_
      refine v_i2l (pc := 28) F dX11_from_28 rfl ?_
      refine v_lconst (pc := 29) (v := 0) F dX11_from_29 rfl ?_
      refine v_ldc2 (pc := 30) F tw_1821 dX11_from_30 ?_
      obtain ⟨r11, e12, hf⟩ := bnd_some hf
      refine v_callSi (pc := 33) (As := [.long a3.toInt64, .long (0 : Int64), .long (9 : Int64)]) F cl_X11_160 dX11_from_33 (kX11_isIn e12) rfl rfl (Nat.le_of_ble_eq_true rfl) (by decide) (Nat.zero_le _) ?_
      refine v_if_ne (pc := 36) (tgt := 45) F dX11_from_36 (by decide) (fun c13 => ?_) (fun c13 => ?_)
      · have hf := ite_f hf c13
        refine v_iconst (pc := 45) (v := 0) F dX11_from_45 ic_0 ?_
        refine v_istore (pc := 46) (lv' := [(0, .ref (gA g 0)), (1, .int a1), (2, .int a2), (3, .int a3), (4, .int 0)]) F dX11_from_46 (by decide) rfl ?_
        obtain ⟨x18, e19, hf⟩ := bnd_some hf
        refine tX11_from_48 (s0 := (h1, 0)) F ?_ e19
        refine v_aload_n (pc := 81) (j := 0) F dX11_from_81 rfl rfl ?_
        refine v_ifl (pc := 82) F fl_X11_333 dX11_from_82 km_0.1 km_0.2 fv_10_33 ?_
        refine v_istore (pc := 85) (lv' := [(0, .ref (gA g 0)), (2, .int a2), (3, .int a3), (4, .int (x18 0 33))]) F dX11_from_85 (by decide) rfl ?_
        obtain ⟨x52, e53, hf⟩ := bnd_some hf
        refine tX11_from_87 (s0 := (x18, x18 0 33)) F ?_ e53
        refine v_aload_n (pc := 231) (j := 0) F dX11_from_231 rfl rfl ?_
        refine v_ifl (pc := 232) F fl_X11_124 dX11_from_232 km_0.1 km_0.2 fv_10_48 ?_
        refine v_iload_n (pc := 235) (j := 1) F dX11_from_235 rfl rfl ?_
        obtain ⟨v54, e55, hf⟩ := bnd_some hf
        refine v_iald (pc := 236) F dX11_from_236 km_32.1 km_32.2 e55 ?_
        exact v_iret (pc := 237) F hr dX11_from_237 (some_fst hf) (some_snd hf) (Nat.zero_le _)
      · have hf := ite_t hf c13
        refine v_aload_n (pc := 39) (j := 0) F dX11_from_39 rfl rfl ?_
        refine v_iconst (pc := 40) (v := 2) F dX11_from_40 ic_2 ?_
        obtain ⟨r56, e57, hf⟩ := bnd_some hf
        refine v_callVi (pc := 41) (As := [.int 2]) F cl_X11_320 dX11_from_41 (kX11_fail e57) km_0.1 km_0.2 rc_10 rfl rfl (Nat.le_of_ble_eq_true rfl) (by decide) (Nat.zero_le _) ?_
        exact v_iret (pc := 44) F hr dX11_from_44 (some_fst hf) (some_snd hf) (Nat.zero_le _)
    · have hf := ite_t hf c10
      refine V.sub (lv' := [(0, .ref (gA g 0))]) [0] rfl ?_
      exact tX11_from_21 F hr hf
