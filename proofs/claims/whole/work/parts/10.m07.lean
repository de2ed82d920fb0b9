def fX11_room_149 (h : ST) (l1 : Int32) (l4 : Int32) (q0 : Int32) (q1 : Int32) : Option ((Int32 × Int32) ⊕ Int32) :=
  some (.inl (q0 + q1, l4 + 1))
def fX11_room_144 (h : ST) (l1 : Int32) (l4 : Int32) (q0 : Int32) : Option ((Int32 × Int32) ⊕ Int32) :=
  fX11_room_149 h l1 l4 q0 1
def fX11_room_110 (h : ST) (l1 : Int32) (s1 : (Int32 × Int32)) : Option ((Int32 × Int32) ⊕ Int32) :=
  bnd (rd 14 (h 3) 1) fun v25 =>
  if v25 ≤ s1.2 then
  some (.inr s1.1)
  else
  bnd (rd 28 (h 8) s1.2) fun v28 =>
    if v28 = l1 then
    fX11_room_144 h l1 s1.2 s1.1
    else
    bnd (rd 28 (h 9) s1.2) fun v31 =>
      if v31 = l1 then
      fX11_room_144 h l1 s1.2 s1.1
      else
      fX11_room_149 h l1 s1.2 s1.1 0
def fX11_room (h : ST) (a1 : Int32) (a2 : Int32) : Option (Int32 × ST) :=
  bnd (pw h 0 2 0) fun h1 =>
  bnd (fX11_isRoom h1 a1) fun r3 =>
  if r3 = 0 then
  bnd (fX11_fail h1 1) fun r38 =>
    some (r38.1, r38.2)
  else
  if a2 = 0 then
    bnd (rd 18 (h1 4) a1) fun v7 =>
      some (v7, h1)
    else
    if a2 = 1 then
    bnd (rd 18 (h1 5) a1) fun v10 =>
      some (v10, h1)
    else
    if a2 = 2 then
    bnd (rd 9 (h1 19) a1) fun v13 =>
      some (v13, h1)
    else
    if a2 = 3 then
    bnd (rd 18 (h1 7) a1) fun v16 =>
      some (v16, h1)
    else
    if a2 = 4 then
    bnd (rd 9 (h1 20) a1) fun v19 =>
      some (v19, h1)
    else
    if a2 = 5 then
    bnd (fX11_tithe h1 a1) fun r22 =>
      some (r22.1, r22.2)
    else
    if a2 = 6 then
    bnd (lp FU (fX11_room_110 h1 a1) (0, 0)) fun x34 =>
      some (x34, h1)
    else
    bnd (fX11_fail h1 1) fun r36 =>
    some (r36.1, r36.2)
set_option maxRecDepth 100000 in
set_option maxHeartbeats 4000000 in
theorem tX11_room_149 {p : Program} {l : Launch} {e : Env} {s : State} {m : MethodId} {args : Array Value} {below : List Frame} {meth : Method} {c : Code} {g : GE} {B : Nat} {h : ST}  {l1 : Int32} {l4 : Int32} {q0 : Int32} {q1 : Int32} (F : Fx p s m args meth c cX11_room 5 "DustParishModel" 43 g B)
    {Q : State → Prop} {y : (Int32 × Int32) ⊕ Int32} (hk : ∀ v : (Int32 × Int32), y = Sum.inl v → V p l e 4 0 s m args below meth c Q KM 43 g B 5 0 h 110 [(0, .ref (gA g 0)), (1, .int l1), (3, .int v.1), (4, .int v.2)] []) (hx0 : ∀ v : Int32, y = Sum.inr v → V p l e 4 0 s m args below meth c Q KM 43 g B 5 0 h 157 [(3, .int v)] []) (hf : fX11_room_149 h l1 l4 q0 q1 = some y) : V p l e 4 0 s m args below meth c Q KM 43 g B 5 0 h 149 [(0, .ref (gA g 0)), (1, .int l1), (4, .int l4)] [.int q1, .int q0] := by
  unfold fX11_room_149 at hf
  refine v_iadd (pc := 149) F dX11_room_149 ?_
  refine v_istore_n (pc := 150) (lv' := [(0, .ref (gA g 0)), (1, .int l1), (3, .int (q0 + q1)), (4, .int l4)]) F dX11_room_150 rfl (by decide) rfl ?_
  refine v_iinc (pc := 151) (j := 3) (v := l4 + 1) (lv' := [(0, .ref (gA g 0)), (1, .int l1), (3, .int (q0 + q1)), (4, .int (l4 + 1))]) F dX11_room_151 rfl (congrArg (fun z => l4 + z) ic_1) (by decide) rfl ?_
  refine v_goto (pc := 154) (tgt := 110) F dX11_room_154 (by decide) ?_
  exact hk (q0 + q1, l4 + 1) (Option.some.inj hf).symm
set_option maxRecDepth 100000 in
set_option maxHeartbeats 4000000 in
theorem tX11_room_144 {p : Program} {l : Launch} {e : Env} {s : State} {m : MethodId} {args : Array Value} {below : List Frame} {meth : Method} {c : Code} {g : GE} {B : Nat} {h : ST}  {l1 : Int32} {l4 : Int32} {q0 : Int32} (F : Fx p s m args meth c cX11_room 5 "DustParishModel" 43 g B)
    {Q : State → Prop} {y : (Int32 × Int32) ⊕ Int32} (hk : ∀ v : (Int32 × Int32), y = Sum.inl v → V p l e 4 0 s m args below meth c Q KM 43 g B 5 0 h 110 [(0, .ref (gA g 0)), (1, .int l1), (3, .int v.1), (4, .int v.2)] []) (hx0 : ∀ v : Int32, y = Sum.inr v → V p l e 4 0 s m args below meth c Q KM 43 g B 5 0 h 157 [(3, .int v)] []) (hf : fX11_room_144 h l1 l4 q0 = some y) : V p l e 4 0 s m args below meth c Q KM 43 g B 5 0 h 144 [(0, .ref (gA g 0)), (1, .int l1), (4, .int l4)] [.int q0] := by
  unfold fX11_room_144 at hf
  refine v_iconst (pc := 144) (v := 1) F dX11_room_144 ic_1 ?_
  refine v_goto (pc := 145) (tgt := 149) F dX11_room_145 (by decide) ?_
  exact tX11_room_149 F hk hx0 hf
set_option maxRecDepth 100000 in
set_option maxHeartbeats 4000000 in
theorem tX11_room_110 {p : Program} {l : Launch} {e : Env} {s : State} {m : MethodId} {args : Array Value} {below : List Frame} {meth : Method} {c : Code} {g : GE} {B : Nat}  {h : ST}  {l1 : Int32} {Q : State → Prop} {x : Int32} {nf : Nat} {s0 : (Int32 × Int32)} (F : Fx p s m args meth c cX11_room 5 "DustParishModel" 43 g B) (hX0 : V p l e 4 0 s m args below meth c Q KM 43 g B 5 0 h 157 [(3, .int x)] []) (hl : lp nf (fX11_room_110 h l1) s0 = some x) : V p l e 4 0 s m args below meth c Q KM 43 g B 5 0 h 110 [(0, .ref (gA g 0)), (1, .int l1), (3, .int s0.1), (4, .int s0.2)] [] := by
  refine lp_ind (P := fun s0 => V p l e 4 0 s m args below meth c Q KM 43 g B 5 0 h 110 [(0, .ref (gA g 0)), (1, .int l1), (3, .int s0.1), (4, .int s0.2)] []) ?_ nf s0 hl
  intro s1 y hf hk hx
  have hx0 : ∀ v : Int32, y = Sum.inr v → V p l e 4 0 s m args below meth c Q KM 43 g B 5 0 h 157 [(3, .int v)] [] := fun v e9 => by rw [hx v e9]; exact hX0
  unfold fX11_room_110 at hf
  refine v_iload (pc := 110) (j := 3) F dX11_room_110 rfl ?_
  refine v_aload_n (pc := 112) (j := 0) F dX11_room_112 rfl rfl ?_
  refine v_ifl (pc := 113) F fl_X11_36 dX11_room_113 km_0.1 km_0.2 fv_10_3 ?_
  refine v_iconst (pc := 116) (v := 1) F dX11_room_116 ic_1 ?_
  obtain ⟨v25, e26, hf⟩ := bnd_some hf
  refine v_iald (pc := 117) F dX11_room_117 km_3.1 km_3.2 e26 ?_
  refine v_icmp_ge (pc := 118) (tgt := 157) F dX11_room_118 (by decide) (fun c27 => ?_) (fun c27 => ?_)
  · have hf := ite_t hf c27
    refine V.sub (lv' := [(3, .int s1.1)]) [2] rfl ?_
    exact hx0 s1.1 (Option.some.inj hf).symm
  · have hf := ite_f hf c27
    refine v_iload_n (pc := 121) (j := 2) F dX11_room_121 rfl rfl ?_
    refine v_aload_n (pc := 122) (j := 0) F dX11_room_122 rfl rfl ?_
    refine v_ifl (pc := 123) F fl_X11_50 dX11_room_123 km_0.1 km_0.2 fv_10_8 ?_
    refine v_iload (pc := 126) (j := 3) F dX11_room_126 rfl ?_
    obtain ⟨v28, e29, hf⟩ := bnd_some hf
    refine v_iald (pc := 128) F dX11_room_128 km_8.1 km_8.2 e29 ?_
    refine v_iload_n (pc := 129) (j := 1) F dX11_room_129 rfl rfl ?_
    refine v_icmp_eq (pc := 130) (tgt := 144) F dX11_room_130 (by decide) (fun c30 => ?_) (fun c30 => ?_)
    · have hf := ite_t hf c30
      refine V.sub (lv' := [(0, .ref (gA g 0)), (1, .int l1), (4, .int s1.2)]) [0, 1, 3] rfl ?_
      exact tX11_room_144 F hk hx0 hf
    · have hf := ite_f hf c30
      refine v_aload_n (pc := 133) (j := 0) F dX11_room_133 rfl rfl ?_
      refine v_ifl (pc := 134) F fl_X11_53 dX11_room_134 km_0.1 km_0.2 fv_10_9 ?_
      refine v_iload (pc := 137) (j := 3) F dX11_room_137 rfl ?_
      obtain ⟨v31, e32, hf⟩ := bnd_some hf
      refine v_iald (pc := 139) F dX11_room_139 km_9.1 km_9.2 e32 ?_
      refine v_iload_n (pc := 140) (j := 1) F dX11_room_140 rfl rfl ?_
      refine v_icmp_ne (pc := 141) (tgt := 148) F dX11_room_141 (by decide) (fun c33 => ?_) (fun c33 => ?_)
      · have hf := ite_f hf c33
        refine v_iconst (pc := 148) (v := 0) F dX11_room_148 ic_0 ?_
        refine V.sub (lv' := [(0, .ref (gA g 0)), (1, .int l1), (4, .int s1.2)]) [0, 1, 3] rfl ?_
        exact tX11_room_149 F hk hx0 hf
      · have hf := ite_t hf c33
        refine V.sub (lv' := [(0, .ref (gA g 0)), (1, .int l1), (4, .int s1.2)]) [0, 1, 3] rfl ?_
        exact tX11_room_144 F hk hx0 hf
set_option maxRecDepth 100000 in
set_option maxHeartbeats 4000000 in
theorem kX11_room {l : Launch} {g : GE} {B : Nat} {h : ST} {a1 : Int32} {a2 : Int32} {y : Int32 × ST} (hf : fX11_room h a1 a2 = some y) : CT l yX11_room cX11_room 5 (some .int) 4 KM 43 g B [.ref (gA g 0), .int a1, .int a2] h (some (.int y.1)) y.2 := by
  refine CT.of pn_X11 (Nat.le_of_ble_eq_true rfl) ?_
  intro p e s m below meth c hr F
  have F : Fx p s m _ meth c cX11_room 5 "DustParishModel" 43 g B := F
  refine V_lv (lv' := [(0, .ref (gA g 0)), (1, .int a1), (2, .int a2)]) rfl ?_
  unfold fX11_room at hf
  refine v_aload_n (pc := 0) (j := 0) F dX11_room_0 rfl rfl ?_
  refine v_iconst (pc := 1) (v := 0) F dX11_room_1 ic_0 ?_
  obtain ⟨h1, e2, hf⟩ := bnd_some hf
  refine v_pfl (pc := 2) F fl_X11_157 pl_10_2 dX11_room_2 km_0.1 km_0.2 fv_10_2 rfl rfl e2 ?_
  refine v_aload_n (pc := 5) (j := 0) F dX11_room_5 rfl rfl ?_
  refine v_iload_n (pc := 6) (j := 1) F dX11_room_6 rfl rfl ?_
  obtain ⟨r3, e4, hf⟩ := bnd_some hf
  refine v_callVi (pc := 7) (As := [.int a1]) F cl_X11_387 dX11_room_7 (kX11_isRoom e4) km_0.1 km_0.2 rc_10 rfl rfl (Nat.le_of_ble_eq_true rfl) (by decide) (Nat.zero_le _) ?_
  refine v_if_ne (pc := 10) (tgt := 19) F dX11_room_10 (by decide) (fun c5 => ?_) (fun c5 => ?_)
  · have hf := ite_f hf c5
    refine v_iload_n (pc := 19) (j := 2) F dX11_room_19 rfl rfl ?_
    by_cases c6 : a2 = 0
    · have hf := ite_t hf c6
      refine v_tabIn (pc := 20) (off := 44) (tgt := 64) F dX11_room_20 (by rw [c6]; decide) (by rw [c6]; decide) (by rw [c6]; rfl) (by decide) ?_
      refine v_aload_n (pc := 64) (j := 0) F dX11_room_64 rfl rfl ?_
      refine v_ifl (pc := 65) F fl_X11_40 dX11_room_65 km_0.1 km_0.2 fv_10_4 ?_
      refine v_iload_n (pc := 68) (j := 1) F dX11_room_68 rfl rfl ?_
      obtain ⟨v7, e8, hf⟩ := bnd_some hf
      refine v_iald (pc := 69) F dX11_room_69 km_4.1 km_4.2 e8 ?_
      exact v_iret (pc := 70) F hr dX11_room_70 (some_fst hf) (some_snd hf) (Nat.zero_le _)
    have hf := ite_f hf c6
    by_cases c9 : a2 = 1
    · have hf := ite_t hf c9
      refine v_tabIn (pc := 20) (off := 51) (tgt := 71) F dX11_room_20 (by rw [c9]; decide) (by rw [c9]; decide) (by rw [c9]; rfl) (by decide) ?_
      refine v_aload_n (pc := 71) (j := 0) F dX11_room_71 rfl rfl ?_
      refine v_ifl (pc := 72) F fl_X11_42 dX11_room_72 km_0.1 km_0.2 fv_10_5 ?_
      refine v_iload_n (pc := 75) (j := 1) F dX11_room_75 rfl rfl ?_
      obtain ⟨v10, e11, hf⟩ := bnd_some hf
      refine v_iald (pc := 76) F dX11_room_76 km_5.1 km_5.2 e11 ?_
      exact v_iret (pc := 77) F hr dX11_room_77 (some_fst hf) (some_snd hf) (Nat.zero_le _)
    have hf := ite_f hf c9
    by_cases c12 : a2 = 2
    · have hf := ite_t hf c12
      refine v_tabIn (pc := 20) (off := 58) (tgt := 78) F dX11_room_20 (by rw [c12]; decide) (by rw [c12]; decide) (by rw [c12]; rfl) (by decide) ?_
      refine v_aload_n (pc := 78) (j := 0) F dX11_room_78 rfl rfl ?_
      refine v_ifl (pc := 79) F fl_X11_87 dX11_room_79 km_0.1 km_0.2 fv_10_29 ?_
      refine v_iload_n (pc := 82) (j := 1) F dX11_room_82 rfl rfl ?_
      obtain ⟨v13, e14, hf⟩ := bnd_some hf
      refine v_iald (pc := 83) F dX11_room_83 km_19.1 km_19.2 e14 ?_
      exact v_iret (pc := 84) F hr dX11_room_84 (some_fst hf) (some_snd hf) (Nat.zero_le _)
    have hf := ite_f hf c12
    by_cases c15 : a2 = 3
    · have hf := ite_t hf c15
      refine v_tabIn (pc := 20) (off := 65) (tgt := 85) F dX11_room_20 (by rw [c15]; decide) (by rw [c15]; decide) (by rw [c15]; rfl) (by decide) ?_
      refine v_aload_n (pc := 85) (j := 0) F dX11_room_85 rfl rfl ?_
      refine v_ifl (pc := 86) F fl_X11_47 dX11_room_86 km_0.1 km_0.2 fv_10_7 ?_
      refine v_iload_n (pc := 89) (j := 1) F dX11_room_89 rfl rfl ?_
      obtain ⟨v16, e17, hf⟩ := bnd_some hf
      refine v_iald (pc := 90) F dX11_room_90 km_7.1 km_7.2 e17 ?_
      exact v_iret (pc := 91) F hr dX11_room_91 (some_fst hf) (some_snd hf) (Nat.zero_le _)
    have hf := ite_f hf c15
    by_cases c18 : a2 = 4
    · have hf := ite_t hf c18
      refine v_tabIn (pc := 20) (off := 72) (tgt := 92) F dX11_room_20 (by rw [c18]; decide) (by rw [c18]; decide) (by rw [c18]; rfl) (by decide) ?_
      refine v_aload_n (pc := 92) (j := 0) F dX11_room_92 rfl rfl ?_
      refine v_ifl (pc := 93) F fl_X11_89 dX11_room_93 km_0.1 km_0.2 fv_10_30 ?_
      refine v_iload_n (pc := 96) (j := 1) F dX11_room_96 rfl rfl ?_
      obtain ⟨v19, e20, hf⟩ := bnd_some hf
      refine v_iald (pc := 97) F dX11_room_97 km_20.1 km_20.2 e20 ?_
      exact v_iret (pc := 98) F hr dX11_room_98 (some_fst hf) (some_snd hf) (Nat.zero_le _)
    have hf := ite_f hf c18
    by_cases c21 : a2 = 5
    · have hf := ite_t hf c21
      refine v_tabIn (pc := 20) (off := 79) (tgt := 99) F dX11_room_20 (by rw [c21]; decide) (by rw [c21]; decide) (by rw [c21]; rfl) (by decide) ?_
      refine v_aload_n (pc := 99) (j := 0) F dX11_room_99 rfl rfl ?_
      refine v_iload_n (pc := 100) (j := 1) F dX11_room_100 rfl rfl ?_
      obtain ⟨r22, e23, hf⟩ := bnd_some hf
      refine v_callVi (pc := 101) (As := [.int a1]) F cl_X11_362 dX11_room_101 (kX11_tithe e23) km_0.1 km_0.2 rc_10 rfl rfl (Nat.le_of_ble_eq_true rfl) (by decide) (Nat.zero_le _) ?_
      exact v_iret (pc := 104) F hr dX11_room_104 (some_fst hf) (some_snd hf) (Nat.zero_le _)
    have hf := ite_f hf c21
    by_cases c24 : a2 = 6
    · have hf := ite_t hf c24
      refine v_tabIn (pc := 20) (off := 85) (tgt := 105) F dX11_room_20 (by rw [c24]; decide) (by rw [c24]; decide) (by rw [c24]; rfl) (by decide) ?_
      refine v_iconst (pc := 105) (v := 0) F dX11_room_105 ic_0 ?_
      refine v_istore_n (pc := 106) (lv' := [(0, .ref (gA g 0)), (1, .int a1), (2, .int a2), (3, .int 0)]) F dX11_room_106 rfl (by decide) rfl ?_
      refine v_iconst (pc := 107) (v := 0) F dX11_room_107 ic_0 ?_
      refine v_istore (pc := 108) (lv' := [(0, .ref (gA g 0)), (1, .int a1), (2, .int a2), (3, .int 0), (4, .int 0)]) F dX11_room_108 (by decide) rfl ?_
      obtain ⟨x34, e35, hf⟩ := bnd_some hf
      refine V.sub (lv' := [(0, .ref (gA g 0)), (1, .int a1), (3, .int 0), (4, .int 0)]) [0, 1, 3, 4] rfl ?_
      refine tX11_room_110 (s0 := (0, 0)) F ?_ e35
      refine v_iload_n (pc := 157) (j := 0) F dX11_room_157 rfl rfl ?_
      exact v_iret (pc := 158) F hr dX11_room_158 (some_fst hf) (some_snd hf) (Nat.zero_le _)
    have hf := ite_f hf c24
    have n_c6 : ¬ (a2).toInt = 0 := lv_neT c6 rfl
    have n_c9 : ¬ (a2).toInt = 1 := lv_neT c9 rfl
    have n_c12 : ¬ (a2).toInt = 2 := lv_neT c12 rfl
    have n_c15 : ¬ (a2).toInt = 3 := lv_neT c15 rfl
    have n_c18 : ¬ (a2).toInt = 4 := lv_neT c18 rfl
    have n_c21 : ¬ (a2).toInt = 5 := lv_neT c21 rfl
    have n_c24 : ¬ (a2).toInt = 6 := lv_neT c24 rfl
    refine v_tabOut (pc := 20) (tgt := 159) F dX11_room_20 (by omega) (by decide) ?_
    refine v_aload_n (pc := 159) (j := 0) F dX11_room_159 rfl rfl ?_
    refine v_iconst (pc := 160) (v := 1) F dX11_room_160 ic_1 ?_
    obtain ⟨r36, e37, hf⟩ := bnd_some hf
    refine v_callVi (pc := 161) (As := [.int 1]) F cl_X11_320 dX11_room_161 (kX11_fail e37) km_0.1 km_0.2 rc_10 rfl rfl (Nat.le_of_ble_eq_true rfl) (by decide) (Nat.zero_le _) ?_
    exact v_iret (pc := 164) F hr dX11_room_164 (some_fst hf) (some_snd hf) (Nat.zero_le _)
  · have hf := ite_t hf c5
    refine v_aload_n (pc := 13) (j := 0) F dX11_room_13 rfl rfl ?_
    refine v_iconst (pc := 14) (v := 1) F dX11_room_14 ic_1 ?_
    obtain ⟨r38, e39, hf⟩ := bnd_some hf
    refine v_callVi (pc := 15) (As := [.int 1]) F cl_X11_320 dX11_room_15 (kX11_fail e39) km_0.1 km_0.2 rc_10 rfl rfl (Nat.le_of_ble_eq_true rfl) (by decide) (Nat.zero_le _) ?_
    exact v_iret (pc := 18) F hr dX11_room_18 (some_fst hf) (some_snd hf) (Nat.zero_le _)
def fX11_round_51 (l1 : Int32) (l2 : Int32) (s1 : (ST × Int32)) : Option ((ST × Int32) ⊕ ST) :=
  if 4608 ≤ s1.2 then
  some (.inr s1.1)
  else
  bnd (wr 4608 s1.1 30 s1.2 1000000) fun h14 =>
    some (.inl (h14, s1.2 + 1))
def fX11_round_243 (h : ST) (l2 : Int32) (l3 : Int32) (l4 : Int32) (l5 : Int32) (l6 : Int32) (l7 : Int32) : Option ((ST × Int32) ⊕ ST) :=
  some (.inl (h, l7 + 1))
def fX11_round_167 (l2 : Int32) (l3 : Int32) (l4 : Int32) (l5 : Int32) (l6 : Int32) (s1 : (ST × Int32)) : Option ((ST × Int32) ⊕ ST) :=
  bnd (rd 14 (s1.1 3) 0) fun v29 =>
  if v29 ≤ s1.2 then
  some (.inr s1.1)
  else
  bnd (fX11_isOf s1.1 (l2 &&& (l4 ^^^ (-1))) s1.2) fun r32 =>
    if r32 = 0 then
    fX11_round_243 s1.1 l2 l3 l4 l5 l6 s1.2
    else
    bnd (rd 4608 (s1.1 30) ((9 * (l4 ||| ((1 : Int32) <<< (s1.2 &&& 31)))) + s1.2)) fun v35 =>
      bnd (rd 81 (s1.1 26) ((9 * l5) + s1.2)) fun v37 =>
      bnd (wr 4608 s1.1 30 ((9 * (l4 ||| ((1 : Int32) <<< (s1.2 &&& 31)))) + s1.2) (if (l6 + v37) < v35 then (l6 + v37) else v35)) fun h39 =>
      fX11_round_243 h39 l2 l3 l4 l5 l6 s1.2
def fX11_round_249 (h : ST) (l2 : Int32) (l3 : Int32) (l4 : Int32) (l5 : Int32) : Option ((ST × Int32 × Int32) ⊕ (ST × Int32)) :=
  some (.inl (h, l3, l5 + 1))
def fX11_round_164 (h : ST) (l2 : Int32) (l3 : Int32) (l4 : Int32) (l5 : Int32) (l6 : Int32) : Option ((ST × Int32 × Int32) ⊕ (ST × Int32)) :=
  bnd (lp FU (fX11_round_167 l2 l3 l4 l5 l6) (h, 0)) fun x41 =>
  fX11_round_249 x41 l2 l3 l4 l5
def fX11_round_105 (l2 : Int32) (l4 : Int32) (s1 : (ST × Int32 × Int32)) : Option ((ST × Int32 × Int32) ⊕ (ST × Int32)) :=
  bnd (rd 14 (s1.1 3) 0) fun v21 =>
  if v21 ≤ s1.2.2 then
  some (.inr (s1.1, s1.2.1))
  else
  if (l4 &&& (l2 ^^^ (-1))) = 0 then
    bnd (rd 4608 (s1.1 30) ((9 * l4) + s1.2.2)) fun v25 =>
      if v25 < 1000000 then
      if l4 = l2 then
        fX11_round_164 s1.1 l2 (if v25 < s1.2.1 then v25 else s1.2.1) l4 s1.2.2 v25
        else
        fX11_round_164 s1.1 l2 s1.2.1 l4 s1.2.2 v25
      else
      fX11_round_249 s1.1 l2 s1.2.1 l4 s1.2.2
    else
    some (.inr (s1.1, s1.2.1))
def fX11_round_255 (h : ST) (l2 : Int32) (l3 : Int32) (l4 : Int32) : Option ((ST × Int32 × Int32) ⊕ (ST × Int32)) :=
  some (.inl (h, l3, l4 + 1))
def fX11_round_96 (l2 : Int32) (s1 : (ST × Int32 × Int32)) : Option ((ST × Int32 × Int32) ⊕ (ST × Int32)) :=
  if l2 < s1.2.2 then
  some (.inr (s1.1, s1.2.1))
  else
  bnd (lp FU (fX11_round_105 l2 s1.2.2) (s1.1, s1.2.1, 0)) fun x43 =>
    fX11_round_255 x43.1 l2 x43.2 s1.2.2
def fX11_round (h : ST) (a1 : Int32) (a2 : Int32) : Option (Int32 × ST) :=
  bnd (pw h 0 2 0) fun h1 =>
  bnd (fX11_isRoom h1 a1) fun r3 =>
  if r3 = 0 then
  bnd (fX11_fail h1 1) fun r51 =>
    some (r51.1, r51.2)
  else
  bnd (rd 14 (h1 3) 0) fun v6 =>
    bnd (fX11_isIn h1 a2.toInt64 (0 : Int64) ((((1 : Int32) <<< (v6 &&& 31)) - 1).toInt64)) fun r8 =>
    if r8 = 0 then
    bnd (fX11_fail h1 2) fun r49 =>
      some (r49.1, r49.2)
    else
    bnd (fX11_tellWays h1) fun r11 =>
      bnd (lp FU (fX11_round_51 a1 a2) (r11, 0)) fun x16 =>
      bnd (wr 4608 x16 30 ((9 * (a2 &&& ((1 : Int32) <<< (a1 &&& 31)))) + a1) 0) fun h18 =>
      bnd (lp FU (fX11_round_96 a2) (h18, 1000000, 0)) fun x45 =>
      bnd (fX11_orNone x45.1 x45.2) fun r47 =>
      some (r47, x45.1)
set_option maxRecDepth 100000 in
set_option maxHeartbeats 4000000 in
theorem tX11_round_51 {p : Program} {l : Launch} {e : Env} {s : State} {m : MethodId} {args : Array Value} {below : List Frame} {meth : Method} {c : Code} {g : GE} {B : Nat}   {l1 : Int32} {l2 : Int32} {Q : State → Prop} {x : ST} {nf : Nat} {s0 : (ST × Int32)} (F : Fx p s m args meth c cX11_round 9 "DustParishModel" 43 g B) (hX0 : V p l e 3 0 s m args below meth c Q KM 43 g B 9 0 x 73 [(0, .ref (gA g 0)), (1, .int l1), (2, .int l2)] []) (hl : lp nf (fX11_round_51 l1 l2) s0 = some x) : V p l e 3 0 s m args below meth c Q KM 43 g B 9 0 s0.1 51 [(0, .ref (gA g 0)), (1, .int l1), (2, .int l2), (3, .int s0.2)] [] := by
  refine lp_ind (P := fun s0 => V p l e 3 0 s m args below meth c Q KM 43 g B 9 0 s0.1 51 [(0, .ref (gA g 0)), (1, .int l1), (2, .int l2), (3, .int s0.2)] []) ?_ nf s0 hl
  intro s1 y hf hk hx
  have hx0 : ∀ v : ST, y = Sum.inr v → V p l e 3 0 s m args below meth c Q KM 43 g B 9 0 v 73 [(0, .ref (gA g 0)), (1, .int l1), (2, .int l2)] [] := fun v e9 => by rw [hx v e9]; exact hX0
  unfold fX11_round_51 at hf
  refine v_iload_n (pc := 51) (j := 3) F dX11_round_51 rfl rfl ?_
  refine v_sipush (pc := 52) (v := 4608) F dX11_round_52 sp_4608 ?_
  refine v_icmp_ge (pc := 55) (tgt := 73) F dX11_round_55 (by decide) (fun c13 => ?_) (fun c13 => ?_)
  · have hf := ite_t hf c13
    refine V.sub (lv' := [(0, .ref (gA g 0)), (1, .int l1), (2, .int l2)]) [0, 1, 2] rfl ?_
    exact hx0 s1.1 (Option.some.inj hf).symm
  · have hf := ite_f hf c13
    refine v_aload_n (pc := 58) (j := 0) F dX11_round_58 rfl rfl ?_
    refine v_ifl (pc := 59) F fl_X11_118 dX11_round_59 km_0.1 km_0.2 fv_10_46 ?_
    refine v_iload_n (pc := 62) (j := 3) F dX11_round_62 rfl rfl ?_
    refine v_ldcw (pc := 63) F tw_1656 dX11_round_63 ?_
    obtain ⟨h14, e15, hf⟩ := bnd_some hf
    refine v_iast (pc := 66) F dX11_round_66 km_30.1 km_30.2 e15 ?_
    refine v_iinc (pc := 67) (j := 3) (v := s1.2 + 1) (lv' := [(0, .ref (gA g 0)), (1, .int l1), (2, .int l2), (3, .int (s1.2 + 1))]) F dX11_round_67 rfl (congrArg (fun z => s1.2 + z) ic_1) (by decide) rfl ?_
    refine v_goto (pc := 70) (tgt := 51) F dX11_round_70 (by decide) ?_
    exact hk (h14, s1.2 + 1) (Option.some.inj hf).symm
set_option maxRecDepth 100000 in
set_option maxHeartbeats 4000000 in
theorem tX11_round_243 {p : Program} {l : Launch} {e : Env} {s : State} {m : MethodId} {args : Array Value} {below : List Frame} {meth : Method} {c : Code} {g : GE} {B : Nat} {h : ST}  {l2 : Int32} {l3 : Int32} {l4 : Int32} {l5 : Int32} {l6 : Int32} {l7 : Int32} (F : Fx p s m args meth c cX11_round 9 "DustParishModel" 43 g B)
    {Q : State → Prop} {y : (ST × Int32) ⊕ ST} (hk : ∀ v : (ST × Int32), y = Sum.inl v → V p l e 3 0 s m args below meth c Q KM 43 g B 9 0 v.1 167 [(0, .ref (gA g 0)), (2, .int l2), (3, .int l3), (4, .int l4), (5, .int l5), (6, .int l6), (7, .int v.2)] []) (hx0 : ∀ v : ST, y = Sum.inr v → V p l e 3 0 s m args below meth c Q KM 43 g B 9 0 v 249 [(0, .ref (gA g 0)), (2, .int l2), (3, .int l3), (4, .int l4), (5, .int l5)] []) (hf : fX11_round_243 h l2 l3 l4 l5 l6 l7 = some y) : V p l e 3 0 s m args below meth c Q KM 43 g B 9 0 h 243 [(0, .ref (gA g 0)), (2, .int l2), (3, .int l3), (4, .int l4), (5, .int l5), (6, .int l6), (7, .int l7)] [] := by
  unfold fX11_round_243 at hf
  refine v_iinc (pc := 243) (j := 6) (v := l7 + 1) (lv' := [(0, .ref (gA g 0)), (2, .int l2), (3, .int l3), (4, .int l4), (5, .int l5), (6, .int l6), (7, .int (l7 + 1))]) F dX11_round_243 rfl (congrArg (fun z => l7 + z) ic_1) (by decide) rfl ?_
  refine v_goto (pc := 246) (tgt := 167) F dX11_round_246 (by decide) ?_
  exact hk (h, l7 + 1) (Option.some.inj hf).symm
set_option maxRecDepth 100000 in
set_option maxHeartbeats 4000000 in
theorem tX11_round_167 {p : Program} {l : Launch} {e : Env} {s : State} {m : MethodId} {args : Array Value} {below : List Frame} {meth : Method} {c : Code} {g : GE} {B : Nat}   {l2 : Int32} {l3 : Int32} {l4 : Int32} {l5 : Int32} {l6 : Int32} {Q : State → Prop} {x : ST} {nf : Nat} {s0 : (ST × Int32)} (F : Fx p s m args meth c cX11_round 9 "DustParishModel" 43 g B) (hX0 : V p l e 3 0 s m args below meth c Q KM 43 g B 9 0 x 249 [(0, .ref (gA g 0)), (2, .int l2), (3, .int l3), (4, .int l4), (5, .int l5)] []) (hl : lp nf (fX11_round_167 l2 l3 l4 l5 l6) s0 = some x) : V p l e 3 0 s m args below meth c Q KM 43 g B 9 0 s0.1 167 [(0, .ref (gA g 0)), (2, .int l2), (3, .int l3), (4, .int l4), (5, .int l5), (6, .int l6), (7, .int s0.2)] [] := by
  refine lp_ind (P := fun s0 => V p l e 3 0 s m args below meth c Q KM 43 g B 9 0 s0.1 167 [(0, .ref (gA g 0)), (2, .int l2), (3, .int l3), (4, .int l4), (5, .int l5), (6, .int l6), (7, .int s0.2)] []) ?_ nf s0 hl
  intro s1 y hf hk hx
  have hx0 : ∀ v : ST, y = Sum.inr v → V p l e 3 0 s m args below meth c Q KM 43 g B 9 0 v 249 [(0, .ref (gA g 0)), (2, .int l2), (3, .int l3), (4, .int l4), (5, .int l5)] [] := fun v e9 => by rw [hx v e9]; exact hX0
  unfold fX11_round_167 at hf
  refine v_iload (pc := 167) (j := 6) F dX11_round_167 rfl ?_
  refine v_aload_n (pc := 169) (j := 0) F dX11_round_169 rfl rfl ?_
  refine v_ifl (pc := 170) F fl_X11_36 dX11_round_170 km_0.1 km_0.2 fv_10_3 ?_
  refine v_iconst (pc := 173) (v := 0) F dX11_round_173 ic_0 ?_
  obtain ⟨v29, e30, hf⟩ := bnd_some hf
  refine v_iald (pc := 174) F dX11_round_174 km_3.1 km_3.2 e30 ?_
  refine v_icmp_ge (pc := 175) (tgt := 249) F dX11_round_175 (by decide) (fun c31 => ?_) (fun c31 => ?_)
  · have hf := ite_t hf c31
    refine V.sub (lv' := [(0, .ref (gA g 0)), (2, .int l2), (3, .int l3), (4, .int l4), (5, .int l5)]) [0, 1, 2, 3, 4] rfl ?_
    exact hx0 s1.1 (Option.some.inj hf).symm
  · have hf := ite_f hf c31
    refine v_iload_n (pc := 178) (j := 1) F dX11_round_178 rfl rfl ?_
    refine v_iload (pc := 179) (j := 3) F dX11_round_179 rfl ?_
    refine v_iconst (pc := 181) (v := (-1)) F dX11_round_181 ic_m1 ?_
    refine v_ixor (pc := 182) F dX11_round_182 ?_
    refine v_iand (pc := 183) F dX11_round_183 ?_
    refine v_iload (pc := 184) (j := 6) F dX11_round_184 rfl ?_
    obtain ⟨r32, e33, hf⟩ := bnd_some hf
    refine v_callSi (pc := 186) (As := [.int (l2 &&& (l4 ^^^ (-1))), .int s1.2]) F cl_X11_445 dX11_round_186 (kX11_isOf e33) rfl rfl (Nat.le_of_ble_eq_true rfl) (by decide) (Nat.zero_le _) ?_
    refine v_if_ne (pc := 189) (tgt := 195) F dX11_round_189 (by decide) (fun c34 => ?_) (fun c34 => ?_)
    · have hf := ite_f hf c34
      refine v_bipush (pc := 195) (v := 9) F dX11_round_195 bp_9 ?_
      refine v_iload (pc := 197) (j := 3) F dX11_round_197 rfl ?_
      refine v_iconst (pc := 199) (v := 1) F dX11_round_199 ic_1 ?_
      refine v_iload (pc := 200) (j := 6) F dX11_round_200 rfl ?_
      refine v_ishl (pc := 202) F dX11_round_202 ?_
      refine v_ior (pc := 203) F dX11_round_203 ?_
      refine v_imul (pc := 204) F dX11_round_204 ?_
      refine v_iload (pc := 205) (j := 6) F dX11_round_205 rfl ?_
      refine v_iadd (pc := 207) F dX11_round_207 ?_
      refine v_istore (pc := 208) (lv' := [(0, .ref (gA g 0)), (2, .int l2), (3, .int l3), (4, .int l4), (5, .int l5), (6, .int l6), (7, .int s1.2), (8, .int ((9 * (l4 ||| ((1 : Int32) <<< (s1.2 &&& 31)))) + s1.2))]) F dX11_round_208 (by decide) rfl ?_
      refine v_aload_n (pc := 210) (j := 0) F dX11_round_210 rfl rfl ?_
      refine v_ifl (pc := 211) F fl_X11_118 dX11_round_211 km_0.1 km_0.2 fv_10_46 ?_
      refine v_iload (pc := 214) (j := 7) F dX11_round_214 rfl ?_
      refine v_aload_n (pc := 216) (j := 0) F dX11_round_216 rfl rfl ?_
      refine v_ifl (pc := 217) F fl_X11_118 dX11_round_217 km_0.1 km_0.2 fv_10_46 ?_
      refine v_iload (pc := 220) (j := 7) F dX11_round_220 rfl ?_
      obtain ⟨v35, e36, hf⟩ := bnd_some hf
      refine v_iald (pc := 222) F dX11_round_222 km_30.1 km_30.2 e36 ?_
      refine v_iload (pc := 223) (j := 5) F dX11_round_223 rfl ?_
      refine v_aload_n (pc := 225) (j := 0) F dX11_round_225 rfl rfl ?_
      refine v_ifl (pc := 226) F fl_X11_106 dX11_round_226 km_0.1 km_0.2 fv_10_41 ?_
      refine v_bipush (pc := 229) (v := 9) F dX11_round_229 bp_9 ?_
      refine v_iload (pc := 231) (j := 4) F dX11_round_231 rfl ?_
      refine v_imul (pc := 233) F dX11_round_233 ?_
      refine v_iload (pc := 234) (j := 6) F dX11_round_234 rfl ?_
      refine v_iadd (pc := 236) F dX11_round_236 ?_
      obtain ⟨v37, e38, hf⟩ := bnd_some hf
      refine v_iald (pc := 237) F dX11_round_237 km_26.1 km_26.2 e38 ?_
      refine v_iadd (pc := 238) F dX11_round_238 ?_
      refine v_mmin (pc := 239) F tw_1490 mminW dX11_round_239 (by decide) (Nat.le_of_ble_eq_true rfl) (Nat.zero_le _) ?_
      obtain ⟨h39, e40, hf⟩ := bnd_some hf
      refine v_iast (pc := 242) F dX11_round_242 km_30.1 km_30.2 e40 ?_
      refine V.sub (lv' := [(0, .ref (gA g 0)), (2, .int l2), (3, .int l3), (4, .int l4), (5, .int l5), (6, .int l6), (7, .int s1.2)]) [0, 1, 2, 3, 4, 5, 6] rfl ?_
      exact tX11_round_243 F hk hx0 hf
    · have hf := ite_t hf c34
      refine v_goto (pc := 192) (tgt := 243) F dX11_round_192 (by decide) ?_
      exact tX11_round_243 F hk hx0 hf
set_option maxRecDepth 100000 in
set_option maxHeartbeats 4000000 in
theorem tX11_round_249 {p : Program} {l : Launch} {e : Env} {s : State} {m : MethodId} {args : Array Value} {below : List Frame} {meth : Method} {c : Code} {g : GE} {B : Nat} {h : ST}  {l2 : Int32} {l3 : Int32} {l4 : Int32} {l5 : Int32} (F : Fx p s m args meth c cX11_round 9 "DustParishModel" 43 g B)
    {Q : State → Prop} {y : (ST × Int32 × Int32) ⊕ (ST × Int32)} (hk : ∀ v : (ST × Int32 × Int32), y = Sum.inl v → V p l e 3 0 s m args below meth c Q KM 43 g B 9 0 v.1 105 [(0, .ref (gA g 0)), (2, .int l2), (3, .int v.2.1), (4, .int l4), (5, .int v.2.2)] []) (hx0 : ∀ v : (ST × Int32), y = Sum.inr v → V p l e 3 0 s m args below meth c Q KM 43 g B 9 0 v.1 255 [(0, .ref (gA g 0)), (2, .int l2), (3, .int v.2), (4, .int l4)] []) (hf : fX11_round_249 h l2 l3 l4 l5 = some y) : V p l e 3 0 s m args below meth c Q KM 43 g B 9 0 h 249 [(0, .ref (gA g 0)), (2, .int l2), (3, .int l3), (4, .int l4), (5, .int l5)] [] := by
  unfold fX11_round_249 at hf
  refine v_iinc (pc := 249) (j := 4) (v := l5 + 1) (lv' := [(0, .ref (gA g 0)), (2, .int l2), (3, .int l3), (4, .int l4), (5, .int (l5 + 1))]) F dX11_round_249 rfl (congrArg (fun z => l5 + z) ic_1) (by decide) rfl ?_
  refine v_goto (pc := 252) (tgt := 105) F dX11_round_252 (by decide) ?_
  exact hk (h, l3, l5 + 1) (Option.some.inj hf).symm
set_option maxRecDepth 100000 in
set_option maxHeartbeats 4000000 in
theorem tX11_round_164 {p : Program} {l : Launch} {e : Env} {s : State} {m : MethodId} {args : Array Value} {below : List Frame} {meth : Method} {c : Code} {g : GE} {B : Nat} {h : ST}  {l2 : Int32} {l3 : Int32} {l4 : Int32} {l5 : Int32} {l6 : Int32} (F : Fx p s m args meth c cX11_round 9 "DustParishModel" 43 g B)
    {Q : State → Prop} {y : (ST × Int32 × Int32) ⊕ (ST × Int32)} (hk : ∀ v : (ST × Int32 × Int32), y = Sum.inl v → V p l e 3 0 s m args below meth c Q KM 43 g B 9 0 v.1 105 [(0, .ref (gA g 0)), (2, .int l2), (3, .int v.2.1), (4, .int l4), (5, .int v.2.2)] []) (hx0 : ∀ v : (ST × Int32), y = Sum.inr v → V p l e 3 0 s m args below meth c Q KM 43 g B 9 0 v.1 255 [(0, .ref (gA g 0)), (2, .int l2), (3, .int v.2), (4, .int l4)] []) (hf : fX11_round_164 h l2 l3 l4 l5 l6 = some y) : V p l e 3 0 s m args below meth c Q KM 43 g B 9 0 h 164 [(0, .ref (gA g 0)), (2, .int l2), (3, .int l3), (4, .int l4), (5, .int l5), (6, .int l6)] [] := by
  unfold fX11_round_164 at hf
  refine v_iconst (pc := 164) (v := 0) F dX11_round_164 ic_0 ?_
  refine v_istore (pc := 165) (lv' := [(0, .ref (gA g 0)), (2, .int l2), (3, .int l3), (4, .int l4), (5, .int l5), (6, .int l6), (7, .int 0)]) F dX11_round_165 (by decide) rfl ?_
  obtain ⟨x41, e42, hf⟩ := bnd_some hf
  refine tX11_round_167 (s0 := (h, 0)) F ?_ e42
  exact tX11_round_249 F hk hx0 hf
set_option maxRecDepth 100000 in
set_option maxHeartbeats 4000000 in
theorem tX11_round_105 {p : Program} {l : Launch} {e : Env} {s : State} {m : MethodId} {args : Array Value} {below : List Frame} {meth : Method} {c : Code} {g : GE} {B : Nat}   {l2 : Int32} {l4 : Int32} {Q : State → Prop} {x : (ST × Int32)} {nf : Nat} {s0 : (ST × Int32 × Int32)} (F : Fx p s m args meth c cX11_round 9 "DustParishModel" 43 g B) (hX0 : V p l e 3 0 s m args below meth c Q KM 43 g B 9 0 x.1 255 [(0, .ref (gA g 0)), (2, .int l2), (3, .int x.2), (4, .int l4)] []) (hl : lp nf (fX11_round_105 l2 l4) s0 = some x) : V p l e 3 0 s m args below meth c Q KM 43 g B 9 0 s0.1 105 [(0, .ref (gA g 0)), (2, .int l2), (3, .int s0.2.1), (4, .int l4), (5, .int s0.2.2)] [] := by
  refine lp_ind (P := fun s0 => V p l e 3 0 s m args below meth c Q KM 43 g B 9 0 s0.1 105 [(0, .ref (gA g 0)), (2, .int l2), (3, .int s0.2.1), (4, .int l4), (5, .int s0.2.2)] []) ?_ nf s0 hl
  intro s1 y hf hk hx
  have hx0 : ∀ v : (ST × Int32), y = Sum.inr v → V p l e 3 0 s m args below meth c Q KM 43 g B 9 0 v.1 255 [(0, .ref (gA g 0)), (2, .int l2), (3, .int v.2), (4, .int l4)] [] := fun v e9 => by rw [hx v e9]; exact hX0
  unfold fX11_round_105 at hf
  refine v_iload (pc := 105) (j := 4) F dX11_round_105 rfl ?_
  refine v_aload_n (pc := 107) (j := 0) F dX11_round_107 rfl rfl ?_
  refine v_ifl (pc := 108) F fl_X11_36 dX11_round_108 km_0.1 km_0.2 fv_10_3 ?_
  refine v_iconst (pc := 111) (v := 0) F dX11_round_111 ic_0 ?_
  obtain ⟨v21, e22, hf⟩ := bnd_some hf
  refine v_iald (pc := 112) F dX11_round_112 km_3.1 km_3.2 e22 ?_
  refine v_icmp_ge (pc := 113) (tgt := 255) F dX11_round_113 (by decide) (fun c23 => ?_) (fun c23 => ?_)
  · have hf := ite_t hf c23
    refine V.sub (lv' := [(0, .ref (gA g 0)), (2, .int l2), (3, .int s1.2.1), (4, .int l4)]) [0, 1, 2, 3] rfl ?_
    exact hx0 (s1.1, s1.2.1) (Option.some.inj hf).symm
  · have hf := ite_f hf c23
    refine v_iload (pc := 116) (j := 3) F dX11_round_116 rfl ?_
    refine v_iload_n (pc := 118) (j := 1) F dX11_round_118 rfl rfl ?_
    refine v_iconst (pc := 119) (v := (-1)) F dX11_round_119 ic_m1 ?_
    refine v_ixor (pc := 120) F dX11_round_120 ?_
    refine v_iand (pc := 121) F dX11_round_121 ?_
    refine v_if_ne (pc := 122) (tgt := 255) F dX11_round_122 (by decide) (fun c24 => ?_) (fun c24 => ?_)
    · have hf := ite_f hf c24
      refine V.sub (lv' := [(0, .ref (gA g 0)), (2, .int l2), (3, .int s1.2.1), (4, .int l4)]) [0, 1, 2, 3] rfl ?_
      exact hx0 (s1.1, s1.2.1) (Option.some.inj hf).symm
    · have hf := ite_t hf c24
      refine v_aload_n (pc := 125) (j := 0) F dX11_round_125 rfl rfl ?_
      refine v_ifl (pc := 126) F fl_X11_118 dX11_round_126 km_0.1 km_0.2 fv_10_46 ?_
      refine v_bipush (pc := 129) (v := 9) F dX11_round_129 bp_9 ?_
      refine v_iload (pc := 131) (j := 3) F dX11_round_131 rfl ?_
      refine v_imul (pc := 133) F dX11_round_133 ?_
      refine v_iload (pc := 134) (j := 4) F dX11_round_134 rfl ?_
      refine v_iadd (pc := 136) F dX11_round_136 ?_
      obtain ⟨v25, e26, hf⟩ := bnd_some hf
      refine v_iald (pc := 137) F dX11_round_137 km_30.1 km_30.2 e26 ?_
      refine v_istore (pc := 138) (lv' := [(0, .ref (gA g 0)), (2, .int l2), (3, .int s1.2.1), (4, .int l4), (5, .int s1.2.2), (6, .int v25)]) F dX11_round_138 (by decide) rfl ?_
      refine v_iload (pc := 140) (j := 5) F dX11_round_140 rfl ?_
      refine v_ldcw (pc := 142) F tw_1656 dX11_round_142 ?_
      refine v_icmp_lt (pc := 145) (tgt := 151) F dX11_round_145 (by decide) (fun c27 => ?_) (fun c27 => ?_)
      · have hf := ite_t hf c27
        refine v_iload (pc := 151) (j := 3) F dX11_round_151 rfl ?_
        refine v_iload_n (pc := 153) (j := 1) F dX11_round_153 rfl rfl ?_
        refine v_icmp_ne (pc := 154) (tgt := 164) F dX11_round_154 (by decide) (fun c28 => ?_) (fun c28 => ?_)
        · have hf := ite_f hf c28
          exact tX11_round_164 F hk hx0 hf
        · have hf := ite_t hf c28
          refine v_iload_n (pc := 157) (j := 2) F dX11_round_157 rfl rfl ?_
          refine v_iload (pc := 158) (j := 5) F dX11_round_158 rfl ?_
          refine v_mmin (pc := 160) F tw_1490 mminW dX11_round_160 (by decide) (Nat.le_of_ble_eq_true rfl) (Nat.zero_le _) ?_
          refine v_istore_n (pc := 163) (lv' := [(0, .ref (gA g 0)), (2, .int l2), (3, .int (if v25 < s1.2.1 then v25 else s1.2.1)), (4, .int l4), (5, .int s1.2.2), (6, .int v25)]) F dX11_round_163 rfl (by decide) rfl ?_
          exact tX11_round_164 F hk hx0 hf
      · have hf := ite_f hf c27
        refine v_goto (pc := 148) (tgt := 249) F dX11_round_148 (by decide) ?_
        refine V.sub (lv' := [(0, .ref (gA g 0)), (2, .int l2), (3, .int s1.2.1), (4, .int l4), (5, .int s1.2.2)]) [0, 1, 2, 3, 4] rfl ?_
        exact tX11_round_249 F hk hx0 hf
set_option maxRecDepth 100000 in
set_option maxHeartbeats 4000000 in
theorem tX11_round_255 {p : Program} {l : Launch} {e : Env} {s : State} {m : MethodId} {args : Array Value} {below : List Frame} {meth : Method} {c : Code} {g : GE} {B : Nat} {h : ST}  {l2 : Int32} {l3 : Int32} {l4 : Int32} (F : Fx p s m args meth c cX11_round 9 "DustParishModel" 43 g B)
    {Q : State → Prop} {y : (ST × Int32 × Int32) ⊕ (ST × Int32)} (hk : ∀ v : (ST × Int32 × Int32), y = Sum.inl v → V p l e 3 0 s m args below meth c Q KM 43 g B 9 0 v.1 96 [(0, .ref (gA g 0)), (2, .int l2), (3, .int v.2.1), (4, .int v.2.2)] []) (hx0 : ∀ v : (ST × Int32), y = Sum.inr v → V p l e 3 0 s m args below meth c Q KM 43 g B 9 0 v.1 261 [(3, .int v.2)] []) (hf : fX11_round_255 h l2 l3 l4 = some y) : V p l e 3 0 s m args below meth c Q KM 43 g B 9 0 h 255 [(0, .ref (gA g 0)), (2, .int l2), (3, .int l3), (4, .int l4)] [] := by
  unfold fX11_round_255 at hf
  refine v_iinc (pc := 255) (j := 3) (v := l4 + 1) (lv' := [(0, .ref (gA g 0)), (2, .int l2), (3, .int l3), (4, .int (l4 + 1))]) F dX11_round_255 rfl (congrArg (fun z => l4 + z) ic_1) (by decide) rfl ?_
  refine v_goto (pc := 258) (tgt := 96) F dX11_round_258 (by decide) ?_
  exact hk (h, l3, l4 + 1) (Option.some.inj hf).symm
set_option maxRecDepth 100000 in
set_option maxHeartbeats 4000000 in
theorem tX11_round_96 {p : Program} {l : Launch} {e : Env} {s : State} {m : MethodId} {args : Array Value} {below : List Frame} {meth : Method} {c : Code} {g : GE} {B : Nat}   {l2 : Int32} {Q : State → Prop} {x : (ST × Int32)} {nf : Nat} {s0 : (ST × Int32 × Int32)} (F : Fx p s m args meth c cX11_round 9 "DustParishModel" 43 g B) (hX0 : V p l e 3 0 s m args below meth c Q KM 43 g B 9 0 x.1 261 [(3, .int x.2)] []) (hl : lp nf (fX11_round_96 l2) s0 = some x) : V p l e 3 0 s m args below meth c Q KM 43 g B 9 0 s0.1 96 [(0, .ref (gA g 0)), (2, .int l2), (3, .int s0.2.1), (4, .int s0.2.2)] [] := by
  refine lp_ind (P := fun s0 => V p l e 3 0 s m args below meth c Q KM 43 g B 9 0 s0.1 96 [(0, .ref (gA g 0)), (2, .int l2), (3, .int s0.2.1), (4, .int s0.2.2)] []) ?_ nf s0 hl
  intro s1 y hf hk hx
  have hx0 : ∀ v : (ST × Int32), y = Sum.inr v → V p l e 3 0 s m args below meth c Q KM 43 g B 9 0 v.1 261 [(3, .int v.2)] [] := fun v e9 => by rw [hx v e9]; exact hX0
  unfold fX11_round_96 at hf
  refine v_iload (pc := 96) (j := 3) F dX11_round_96 rfl ?_
  refine v_iload_n (pc := 98) (j := 1) F dX11_round_98 rfl rfl ?_
  refine v_icmp_gt (pc := 99) (tgt := 261) F dX11_round_99 (by decide) (fun c20 => ?_) (fun c20 => ?_)
  · have hf := ite_t hf c20
    refine V.sub (lv' := [(3, .int s1.2.1)]) [2] rfl ?_
    exact hx0 (s1.1, s1.2.1) (Option.some.inj hf).symm
  · have hf := ite_f hf c20
    refine v_iconst (pc := 102) (v := 0) F dX11_round_102 ic_0 ?_
    refine v_istore (pc := 103) (lv' := [(0, .ref (gA g 0)), (2, .int l2), (3, .int s1.2.1), (4, .int s1.2.2), (5, .int 0)]) F dX11_round_103 (by decide) rfl ?_
    obtain ⟨x43, e44, hf⟩ := bnd_some hf
    refine tX11_round_105 (s0 := (s1.1, s1.2.1, 0)) F ?_ e44
    exact tX11_round_255 F hk hx0 hf
set_option maxRecDepth 100000 in
set_option maxHeartbeats 4000000 in
theorem kX11_round {l : Launch} {g : GE} {B : Nat} {h : ST} {a1 : Int32} {a2 : Int32} {y : Int32 × ST} (hf : fX11_round h a1 a2 = some y) : CT l yX11_round cX11_round 9 (some .int) 3 KM 43 g B [.ref (gA g 0), .int a1, .int a2] h (some (.int y.1)) y.2 := by
  refine CT.of pn_X11 (Nat.le_of_ble_eq_true rfl) ?_
  intro p e s m below meth c hr F
  have F : Fx p s m _ meth c cX11_round 9 "DustParishModel" 43 g B := F
  refine V_lv (lv' := [(0, .ref (gA g 0)), (1, .int a1), (2, .int a2)]) rfl ?_
  unfold fX11_round at hf
  refine v_aload_n (pc := 0) (j := 0) F dX11_round_0 rfl rfl ?_
  refine v_iconst (pc := 1) (v := 0) F dX11_round_1 ic_0 ?_
  obtain ⟨h1, e2, hf⟩ := bnd_some hf
  refine v_pfl (pc := 2) F fl_X11_157 pl_10_2 dX11_round_2 km_0.1 km_0.2 fv_10_2 rfl rfl e2 ?_
  refine v_aload_n (pc := 5) (j := 0) F dX11_round_5 rfl rfl ?_
  refine v_iload_n (pc := 6) (j := 1) F dX11_round_6 rfl rfl ?_
  obtain ⟨r3, e4, hf⟩ := bnd_some hf
  refine v_callVi (pc := 7) (As := [.int a1]) F cl_X11_387 dX11_round_7 (kX11_isRoom e4) km_0.1 km_0.2 rc_10 rfl rfl (Nat.le_of_ble_eq_true rfl) (by decide) (Nat.zero_le _) ?_
  refine v_if_ne (pc := 10) (tgt := 19) F dX11_round_10 (by decide) (fun c5 => ?_) (fun c5 => ?_)
  · have hf := ite_f hf c5
    refine v_iload_n (pc := 19) (j := 2) F dX11_round_19 rfl rfl ?_
    refine v_i2l (pc := 20) F dX11_round_20 rfl ?_
    refine v_lconst (pc := 21) (v := 0) F dX11_round_21 rfl ?_
    refine v_iconst (pc := 22) (v := 1) F dX11_round_22 ic_1 ?_
    refine v_aload_n (pc := 23) (j := 0) F dX11_round_23 rfl rfl ?_
    refine v_ifl (pc := 24) F fl_X11_36 dX11_round_24 km_0.1 km_0.2 fv_10_3 ?_
    refine v_iconst (pc := 27) (v := 0) F dX11_round_27 ic_0 ?_
    obtain ⟨v6, e7, hf⟩ := bnd_some hf
    refine v_iald (pc := 28) F dX11_round_28 km_3.1 km_3.2 e7 ?_
    refine v_ishl (pc := 29) F dX11_round_29 ?_
    refine v_iconst (pc := 30) (v := 1) F dX11_round_30 ic_1 ?_
    refine v_isub (pc := 31) F dX11_round_31 ?_
    refine v_i2l (pc := 32) F dX11_round_32 rfl ?_
    obtain ⟨r8, e9, hf⟩ := bnd_some hf
    refine v_callSi (pc := 33) (As := [.long a2.toInt64, .long (0 : Int64), .long ((((1 : Int32) <<< (v6 &&& 31)) - 1).toInt64)]) F cl_X11_160 dX11_round_33 (kX11_isIn e9) rfl rfl (Nat.le_of_ble_eq_true rfl) (by decide) (Nat.zero_le _) ?_
    refine v_if_ne (pc := 36) (tgt := 45) F dX11_round_36 (by decide) (fun c10 => ?_) (fun c10 => ?_)
    · have hf := ite_f hf c10
      refine v_aload_n (pc := 45) (j := 0) F dX11_round_45 rfl rfl ?_
      obtain ⟨r11, e12, hf⟩ := bnd_some hf
      refine v_callVv (pc := 46) (As := []) F cl_X11_391 dX11_round_46 (kX11_tellWays e12) km_0.1 km_0.2 rc_10 rfl rfl (Nat.le_of_ble_eq_true rfl) (by decide) (Nat.zero_le _) ?_
      refine v_iconst (pc := 49) (v := 0) F dX11_round_49 ic_0 ?_
      refine v_istore_n (pc := 50) (lv' := [(0, .ref (gA g 0)), (1, .int a1), (2, .int a2), (3, .int 0)]) F dX11_round_50 rfl (by decide) rfl ?_
      obtain ⟨x16, e17, hf⟩ := bnd_some hf
      refine tX11_round_51 (s0 := (r11, 0)) F ?_ e17
      refine v_aload_n (pc := 73) (j := 0) F dX11_round_73 rfl rfl ?_
      refine v_ifl (pc := 74) F fl_X11_118 dX11_round_74 km_0.1 km_0.2 fv_10_46 ?_
      refine v_bipush (pc := 77) (v := 9) F dX11_round_77 bp_9 ?_
      refine v_iload_n (pc := 79) (j := 2) F dX11_round_79 rfl rfl ?_
      refine v_iconst (pc := 80) (v := 1) F dX11_round_80 ic_1 ?_
      refine v_iload_n (pc := 81) (j := 1) F dX11_round_81 rfl rfl ?_
      refine v_ishl (pc := 82) F dX11_round_82 ?_
      refine v_iand (pc := 83) F dX11_round_83 ?_
      refine v_imul (pc := 84) F dX11_round_84 ?_
      refine v_iload_n (pc := 85) (j := 1) F dX11_round_85 rfl rfl ?_
      refine v_iadd (pc := 86) F dX11_round_86 ?_
      refine v_iconst (pc := 87) (v := 0) F dX11_round_87 ic_0 ?_
      obtain ⟨h18, e19, hf⟩ := bnd_some hf
      refine v_iast (pc := 88) F dX11_round_88 km_30.1 km_30.2 e19 ?_
      refine v_ldcw (pc := 89) F tw_1656 dX11_round_89 ?_
      refine v_istore_n (pc := 92) (lv' := [(0, .ref (gA g 0)), (1, .int a1), (2, .int a2), (3, .int 1000000)]) F dX11_round_92 rfl (by decide) rfl ?_
      refine v_iconst (pc := 93) (v := 0) F dX11_round_93 ic_0 ?_
      refine v_istore (pc := 94) (lv' := [(0, .ref (gA g 0)), (1, .int a1), (2, .int a2), (3, .int 1000000), (4, .int 0)]) F dX11_round_94 (by decide) rfl ?_
      obtain ⟨x45, e46, hf⟩ := bnd_some hf
      refine V.sub (lv' := [(0, .ref (gA g 0)), (2, .int a2), (3, .int 1000000), (4, .int 0)]) [0, 2, 3, 4] rfl ?_
      refine tX11_round_96 (s0 := (h18, 1000000, 0)) F ?_ e46
      refine v_iload_n (pc := 261) (j := 0) F dX11_round_261 rfl rfl ?_
      obtain ⟨r47, e48, hf⟩ := bnd_some hf
      refine v_callSi (pc := 262) (As := [.int x45.2]) F cl_X11_394 dX11_round_262 (kX11_orNone e48) rfl rfl (Nat.le_of_ble_eq_true rfl) (by decide) (Nat.zero_le _) ?_
      exact v_iret (pc := 265) F hr dX11_round_265 (some_fst hf) (some_snd hf) (Nat.zero_le _)
    · have hf := ite_t hf c10
      refine v_aload_n (pc := 39) (j := 0) F dX11_round_39 rfl rfl ?_
      refine v_iconst (pc := 40) (v := 2) F dX11_round_40 ic_2 ?_
      obtain ⟨r49, e50, hf⟩ := bnd_some hf
      refine v_callVi (pc := 41) (As := [.int 2]) F cl_X11_320 dX11_round_41 (kX11_fail e50) km_0.1 km_0.2 rc_10 rfl rfl (Nat.le_of_ble_eq_true rfl) (by decide) (Nat.zero_le _) ?_
      exact v_iret (pc := 44) F hr dX11_round_44 (some_fst hf) (some_snd hf) (Nat.zero_le _)
  · have hf := ite_t hf c5
    refine v_aload_n (pc := 13) (j := 0) F dX11_round_13 rfl rfl ?_
    refine v_iconst (pc := 14) (v := 1) F dX11_round_14 ic_1 ?_
    obtain ⟨r51, e52, hf⟩ := bnd_some hf
    refine v_callVi (pc := 15) (As := [.int 1]) F cl_X11_320 dX11_round_15 (kX11_fail e52) km_0.1 km_0.2 rc_10 rfl rfl (Nat.le_of_ble_eq_true rfl) (by decide) (Nat.zero_le _) ?_
    exact v_iret (pc := 18) F hr dX11_round_18 (some_fst hf) (some_snd hf) (Nat.zero_le _)
def fX11_see_52 (h : ST)  : Option (Int32 × ST) :=
  bnd (fX11_refuse h 2) fun r7 =>
  some (r7.1, r7.2)
def fX11_see (h : ST) (a1 : Int32) (a2 : Int32) (a3 : Int32) : Option (Int32 × ST) :=
  bnd (pw h 0 2 0) fun h1 =>
  bnd (fX11_isRoom h1 a1) fun r3 =>
  if r3 = 0 then
  bnd (fX11_fail h1 1) fun r23 =>
    some (r23.1, r23.2)
  else
  if (h1 0 37) = 8 then
    fX11_see_52 h1 
    else
    bnd (fX11_isIn h1 a2.toInt64 (0 : Int64) (30 : Int64)) fun r9 =>
      if r9 = 0 then
      fX11_see_52 h1 
      else
      bnd (fX11_isIn h1 a3.toInt64 (0 : Int64) (9999 : Int64)) fun r12 =>
        if r12 = 0 then
        fX11_see_52 h1 
        else
        bnd (wr 8 h1 33 (h1 0 37) a1) fun h15 =>
          bnd (wr 8 h15 34 (h15 0 37) a2) fun h17 =>
          bnd (wr 8 h17 35 (h17 0 37) a3) fun h19 =>
          bnd (pw h19 0 37 ((h19 0 37) + 1)) fun h21 =>
          some (h21 0 37, h21)
set_option maxRecDepth 100000 in
set_option maxHeartbeats 4000000 in
theorem tX11_see_52 {p : Program} {l : Launch} {e : Env} {s : State} {m : MethodId} {args : Array Value} {below : List Frame} {meth : Method} {c : Code} {g : GE} {B : Nat} {h : ST}  (F : Fx p s m args meth c cX11_see 4 "DustParishModel" 43 g B)
    {y : Int32 × ST} (hr : meth.sig.returnType = (some .int)) (hf : fX11_see_52 h  = some y) : V p l e 3 0 s m args below meth c (MQ below (QO KM 43 g (some (.int y.1)) y.2) args s 0 (6 * 0) (WA 43 g)) KM 43 g B 4 0 h 52 [(0, .ref (gA g 0))] [] := by
  unfold fX11_see_52 at hf
  refine v_aload_n (pc := 52) (j := 0) F dX11_see_52 rfl rfl ?_
  refine v_iconst (pc := 53) (v := 2) F dX11_see_53 ic_2 ?_
  obtain ⟨r7, e8, hf⟩ := bnd_some hf
  refine v_callVi (pc := 54) (As := [.int 2]) F cl_X11_409 dX11_see_54 (kX11_refuse e8) km_0.1 km_0.2 rc_10 rfl rfl (Nat.le_of_ble_eq_true rfl) (by decide) (Nat.zero_le _) ?_
  exact v_iret (pc := 57) F hr dX11_see_57 (some_fst hf) (some_snd hf) (Nat.zero_le _)
set_option maxRecDepth 100000 in
set_option maxHeartbeats 4000000 in
theorem kX11_see {l : Launch} {g : GE} {B : Nat} {h : ST} {a1 : Int32} {a2 : Int32} {a3 : Int32} {y : Int32 × ST} (hf : fX11_see h a1 a2 a3 = some y) : CT l yX11_see cX11_see 4 (some .int) 3 KM 43 g B [.ref (gA g 0), .int a1, .int a2, .int a3] h (some (.int y.1)) y.2 := by
  refine CT.of pn_X11 (Nat.le_of_ble_eq_true rfl) ?_
  intro p e s m below meth c hr F
  have F : Fx p s m _ meth c cX11_see 4 "DustParishModel" 43 g B := F
  refine V_lv (lv' := [(0, .ref (gA g 0)), (1, .int a1), (2, .int a2), (3, .int a3)]) rfl ?_
  unfold fX11_see at hf
  refine v_aload_n (pc := 0) (j := 0) F dX11_see_0 rfl rfl ?_
  refine v_iconst (pc := 1) (v := 0) F dX11_see_1 ic_0 ?_
  obtain ⟨h1, e2, hf⟩ := bnd_some hf
  refine v_pfl (pc := 2) F fl_X11_157 pl_10_2 dX11_see_2 km_0.1 km_0.2 fv_10_2 rfl rfl e2 ?_
  refine v_aload_n (pc := 5) (j := 0) F dX11_see_5 rfl rfl ?_
  refine v_iload_n (pc := 6) (j := 1) F dX11_see_6 rfl rfl ?_
  obtain ⟨r3, e4, hf⟩ := bnd_some hf
  refine v_callVi (pc := 7) (As := [.int a1]) F cl_X11_387 dX11_see_7 (kX11_isRoom e4) km_0.1 km_0.2 rc_10 rfl rfl (Nat.le_of_ble_eq_true rfl) (by decide) (Nat.zero_le _) ?_
  refine v_if_ne (pc := 10) (tgt := 19) F dX11_see_10 (by decide) (fun c5 => ?_) (fun c5 => ?_)
  · have hf := ite_f hf c5
    refine v_aload_n (pc := 19) (j := 0) F dX11_see_19 rfl rfl ?_
    refine v_ifl (pc := 20) F fl_X11_344 dX11_see_20 km_0.1 km_0.2 fv_10_37 ?_
    refine v_bipush (pc := 23) (v := 8) F dX11_see_23 bp_8 ?_
    refine v_icmp_eq (pc := 25) (tgt := 52) F dX11_see_25 (by decide) (fun c6 => ?_) (fun c6 => ?_)
    · have hf := ite_t hf c6
      refine V.sub (lv' := [(0, .ref (gA g 0))]) [0] rfl ?_
      exact tX11_see_52 F hr hf
    · have hf := ite_f hf c6
      refine v_iload_n (pc := 28) (j := 2) F dX11_see_28 rfl rfl ?_
      refine v_i2l (pc := 29) F dX11_see_29 rfl ?_
      refine v_lconst (pc := 30) (v := 0) F dX11_see_30 rfl ?_
      refine v_ldc2 (pc := 31) F tw_1683 dX11_see_31 ?_
      obtain ⟨r9, e10, hf⟩ := bnd_some hf
      refine v_callSi (pc := 34) (As := [.long a2.toInt64, .long (0 : Int64), .long (30 : Int64)]) F cl_X11_160 dX11_see_34 (kX11_isIn e10) rfl rfl (Nat.le_of_ble_eq_true rfl) (by decide) (Nat.zero_le _) ?_
      refine v_if_eq (pc := 37) (tgt := 52) F dX11_see_37 (by decide) (fun c11 => ?_) (fun c11 => ?_)
      · have hf := ite_t hf c11
        refine V.sub (lv' := [(0, .ref (gA g 0))]) [0] rfl ?_
        exact tX11_see_52 F hr hf
      · have hf := ite_f hf c11
        refine v_iload_n (pc := 40) (j := 3) F dX11_see_40 rfl rfl ?_
        refine v_i2l (pc := 41) F dX11_see_41 rfl ?_
        refine v_lconst (pc := 42) (v := 0) F dX11_see_42 rfl ?_
        refine v_ldc2 (pc := 43) F tw_1674 dX11_see_43 ?_
        obtain ⟨r12, e13, hf⟩ := bnd_some hf
        refine v_callSi (pc := 46) (As := [.long a3.toInt64, .long (0 : Int64), .long (9999 : Int64)]) F cl_X11_160 dX11_see_46 (kX11_isIn e13) rfl rfl (Nat.le_of_ble_eq_true rfl) (by decide) (Nat.zero_le _) ?_
        refine v_if_ne (pc := 49) (tgt := 58) F dX11_see_49 (by decide) (fun c14 => ?_) (fun c14 => ?_)
        · have hf := ite_f hf c14
          refine v_aload_n (pc := 58) (j := 0) F dX11_see_58 rfl rfl ?_
          refine v_ifl (pc := 59) F fl_X11_127 dX11_see_59 km_0.1 km_0.2 fv_10_49 ?_
          refine v_aload_n (pc := 62) (j := 0) F dX11_see_62 rfl rfl ?_
          refine v_ifl (pc := 63) F fl_X11_344 dX11_see_63 km_0.1 km_0.2 fv_10_37 ?_
          refine v_iload_n (pc := 66) (j := 1) F dX11_see_66 rfl rfl ?_
          obtain ⟨h15, e16, hf⟩ := bnd_some hf
          refine v_iast (pc := 67) F dX11_see_67 km_33.1 km_33.2 e16 ?_
          refine v_aload_n (pc := 68) (j := 0) F dX11_see_68 rfl rfl ?_
          refine v_ifl (pc := 69) F fl_X11_130 dX11_see_69 km_0.1 km_0.2 fv_10_50 ?_
          refine v_aload_n (pc := 72) (j := 0) F dX11_see_72 rfl rfl ?_
          refine v_ifl (pc := 73) F fl_X11_344 dX11_see_73 km_0.1 km_0.2 fv_10_37 ?_
          refine v_iload_n (pc := 76) (j := 2) F dX11_see_76 rfl rfl ?_
          obtain ⟨h17, e18, hf⟩ := bnd_some hf
          refine v_iast (pc := 77) F dX11_see_77 km_34.1 km_34.2 e18 ?_
          refine v_aload_n (pc := 78) (j := 0) F dX11_see_78 rfl rfl ?_
          refine v_ifl (pc := 79) F fl_X11_133 dX11_see_79 km_0.1 km_0.2 fv_10_51 ?_
          refine v_aload_n (pc := 82) (j := 0) F dX11_see_82 rfl rfl ?_
          refine v_ifl (pc := 83) F fl_X11_344 dX11_see_83 km_0.1 km_0.2 fv_10_37 ?_
          refine v_iload_n (pc := 86) (j := 3) F dX11_see_86 rfl rfl ?_
          obtain ⟨h19, e20, hf⟩ := bnd_some hf
          refine v_iast (pc := 87) F dX11_see_87 km_35.1 km_35.2 e20 ?_
          refine v_aload_n (pc := 88) (j := 0) F dX11_see_88 rfl rfl ?_
          refine v_dup (pc := 89) F dX11_see_89 rfl ?_
          refine v_ifl (pc := 90) F fl_X11_344 dX11_see_90 km_0.1 km_0.2 fv_10_37 ?_
          refine v_iconst (pc := 93) (v := 1) F dX11_see_93 ic_1 ?_
          refine v_iadd (pc := 94) F dX11_see_94 ?_
          obtain ⟨h21, e22, hf⟩ := bnd_some hf
          refine v_pfl (pc := 95) F fl_X11_344 pl_10_37 dX11_see_95 km_0.1 km_0.2 fv_10_37 rfl rfl e22 ?_
          refine v_aload_n (pc := 98) (j := 0) F dX11_see_98 rfl rfl ?_
          refine v_ifl (pc := 99) F fl_X11_344 dX11_see_99 km_0.1 km_0.2 fv_10_37 ?_
          exact v_iret (pc := 102) F hr dX11_see_102 (some_fst hf) (some_snd hf) (Nat.zero_le _)
        · have hf := ite_t hf c14
          refine V.sub (lv' := [(0, .ref (gA g 0))]) [0] rfl ?_
          exact tX11_see_52 F hr hf
  · have hf := ite_t hf c5
    refine v_aload_n (pc := 13) (j := 0) F dX11_see_13 rfl rfl ?_
    refine v_iconst (pc := 14) (v := 1) F dX11_see_14 ic_1 ?_
    obtain ⟨r23, e24, hf⟩ := bnd_some hf
    refine v_callVi (pc := 15) (As := [.int 1]) F cl_X11_320 dX11_see_15 (kX11_fail e24) km_0.1 km_0.2 rc_10 rfl rfl (Nat.le_of_ble_eq_true rfl) (by decide) (Nat.zero_le _) ?_
    exact v_iret (pc := 18) F hr dX11_see_18 (some_fst hf) (some_snd hf) (Nat.zero_le _)
def fX11_shake_21 (h : ST)  : Option (Int32 × ST) :=
  bnd (fX11_fail h 1) fun r6 =>
  some (r6.1, r6.2)
def fX11_shake (h : ST) (a1 : Int32) (a2 : Int32) : Option (Int32 × ST) :=
  bnd (pw h 0 2 0) fun h1 =>
  bnd (fX11_isRoom h1 a1) fun r3 =>
  if r3 = 0 then
  fX11_shake_21 h1 
  else
  bnd (fX11_isRoom h1 a2) fun r8 =>
    if r8 = 0 then
    fX11_shake_21 h1 
    else
    bnd (fX11_hasDoor h1 a1 a2) fun r11 =>
      if r11 = 0 then
      bnd (fX11_refuse h1 1) fun r20 =>
        some (r20.1, r20.2)
      else
      bnd (fX11_keep h1) fun r14 =>
        bnd (rd 9 (r14 19) a1) fun v16 =>
        bnd (fX11_bring r14 a1 a2 (v16 / 2)) fun r18 =>
        some (v16 / 2, r18)
set_option maxRecDepth 100000 in
set_option maxHeartbeats 4000000 in
theorem tX11_shake_21 {p : Program} {l : Launch} {e : Env} {s : State} {m : MethodId} {args : Array Value} {below : List Frame} {meth : Method} {c : Code} {g : GE} {B : Nat} {h : ST}  (F : Fx p s m args meth c cX11_shake 4 "DustParishModel" 43 g B)
    {y : Int32 × ST} (hr : meth.sig.returnType = (some .int)) (hf : fX11_shake_21 h  = some y) : V p l e 3 0 s m args below meth c (MQ below (QO KM 43 g (some (.int y.1)) y.2) args s 0 (6 * 0) (WA 43 g)) KM 43 g B 4 0 h 21 [(0, .ref (gA g 0))] [] := by
  unfold fX11_shake_21 at hf
  refine v_aload_n (pc := 21) (j := 0) F dX11_shake_21 rfl rfl ?_
  refine v_iconst (pc := 22) (v := 1) F dX11_shake_22 ic_1 ?_
  obtain ⟨r6, e7, hf⟩ := bnd_some hf
  refine v_callVi (pc := 23) (As := [.int 1]) F cl_X11_320 dX11_shake_23 (kX11_fail e7) km_0.1 km_0.2 rc_10 rfl rfl (Nat.le_of_ble_eq_true rfl) (by decide) (Nat.zero_le _) ?_
  exact v_iret (pc := 26) F hr dX11_shake_26 (some_fst hf) (some_snd hf) (Nat.zero_le _)
set_option maxRecDepth 100000 in
set_option maxHeartbeats 4000000 in
theorem kX11_shake {l : Launch} {g : GE} {B : Nat} {h : ST} {a1 : Int32} {a2 : Int32} {y : Int32 × ST} (hf : fX11_shake h a1 a2 = some y) : CT l yX11_shake cX11_shake 4 (some .int) 3 KM 43 g B [.ref (gA g 0), .int a1, .int a2] h (some (.int y.1)) y.2 := by
  refine CT.of pn_X11 (Nat.le_of_ble_eq_true rfl) ?_
  intro p e s m below meth c hr F
  have F : Fx p s m _ meth c cX11_shake 4 "DustParishModel" 43 g B := F
  refine V_lv (lv' := [(0, .ref (gA g 0)), (1, .int a1), (2, .int a2)]) rfl ?_
  unfold fX11_shake at hf
  refine v_aload_n (pc := 0) (j := 0) F dX11_shake_0 rfl rfl ?_
  refine v_iconst (pc := 1) (v := 0) F dX11_shake_1 ic_0 ?_
  obtain ⟨h1, e2, hf⟩ := bnd_some hf
  refine v_pfl (pc := 2) F fl_X11_157 pl_10_2 dX11_shake_2 km_0.1 km_0.2 fv_10_2 rfl rfl e2 ?_
  refine v_aload_n (pc := 5) (j := 0) F dX11_shake_5 rfl rfl ?_
  refine v_iload_n (pc := 6) (j := 1) F dX11_shake_6 rfl rfl ?_
  obtain ⟨r3, e4, hf⟩ := bnd_some hf
  refine v_callVi (pc := 7) (As := [.int a1]) F cl_X11_387 dX11_shake_7 (kX11_isRoom e4) km_0.1 km_0.2 rc_10 rfl rfl (Nat.le_of_ble_eq_true rfl) (by decide) (Nat.zero_le _) ?_
  refine v_if_eq (pc := 10) (tgt := 21) F dX11_shake_10 (by decide) (fun c5 => ?_) (fun c5 => ?_)
  · have hf := ite_t hf c5
    refine V.sub (lv' := [(0, .ref (gA g 0))]) [0] rfl ?_
    exact tX11_shake_21 F hr hf
  · have hf := ite_f hf c5
    refine v_aload_n (pc := 13) (j := 0) F dX11_shake_13 rfl rfl ?_
    refine v_iload_n (pc := 14) (j := 2) F dX11_shake_14 rfl rfl ?_
    obtain ⟨r8, e9, hf⟩ := bnd_some hf
    refine v_callVi (pc := 15) (As := [.int a2]) F cl_X11_387 dX11_shake_15 (kX11_isRoom e9) km_0.1 km_0.2 rc_10 rfl rfl (Nat.le_of_ble_eq_true rfl) (by decide) (Nat.zero_le _) ?_
    refine v_if_ne (pc := 18) (tgt := 27) F dX11_shake_18 (by decide) (fun c10 => ?_) (fun c10 => ?_)
    · have hf := ite_f hf c10
      refine v_aload_n (pc := 27) (j := 0) F dX11_shake_27 rfl rfl ?_
      refine v_iload_n (pc := 28) (j := 1) F dX11_shake_28 rfl rfl ?_
      refine v_iload_n (pc := 29) (j := 2) F dX11_shake_29 rfl rfl ?_
      obtain ⟨r11, e12, hf⟩ := bnd_some hf
      refine v_callVi (pc := 30) (As := [.int a1, .int a2]) F cl_X11_418 dX11_shake_30 (kX11_hasDoor e12) km_0.1 km_0.2 rc_10 rfl rfl (Nat.le_of_ble_eq_true rfl) (by decide) (Nat.zero_le _) ?_
      refine v_if_ne (pc := 33) (tgt := 42) F dX11_shake_33 (by decide) (fun c13 => ?_) (fun c13 => ?_)
      · have hf := ite_f hf c13
        refine v_aload_n (pc := 42) (j := 0) F dX11_shake_42 rfl rfl ?_
        obtain ⟨r14, e15, hf⟩ := bnd_some hf
        refine v_callVv (pc := 43) (As := []) F cl_X11_412 dX11_shake_43 (kX11_keep e15) km_0.1 km_0.2 rc_10 rfl rfl (Nat.le_of_ble_eq_true rfl) (by decide) (Nat.zero_le _) ?_
        refine v_aload_n (pc := 46) (j := 0) F dX11_shake_46 rfl rfl ?_
        refine v_ifl (pc := 47) F fl_X11_87 dX11_shake_47 km_0.1 km_0.2 fv_10_29 ?_
        refine v_iload_n (pc := 50) (j := 1) F dX11_shake_50 rfl rfl ?_
        obtain ⟨v16, e17, hf⟩ := bnd_some hf
        refine v_iald (pc := 51) F dX11_shake_51 km_19.1 km_19.2 e17 ?_
        refine v_iconst (pc := 52) (v := 2) F dX11_shake_52 ic_2 ?_
        refine v_idiv (pc := 53) F dX11_shake_53 (by decide) ?_
        refine v_istore_n (pc := 54) (lv' := [(0, .ref (gA g 0)), (1, .int a1), (2, .int a2), (3, .int (v16 / 2))]) F dX11_shake_54 rfl (by decide) rfl ?_
        refine v_aload_n (pc := 55) (j := 0) F dX11_shake_55 rfl rfl ?_
        refine v_iload_n (pc := 56) (j := 1) F dX11_shake_56 rfl rfl ?_
        refine v_iload_n (pc := 57) (j := 2) F dX11_shake_57 rfl rfl ?_
        refine v_iload_n (pc := 58) (j := 3) F dX11_shake_58 rfl rfl ?_
        obtain ⟨r18, e19, hf⟩ := bnd_some hf
        refine v_callVv (pc := 59) (As := [.int a1, .int a2, .int (v16 / 2)]) F cl_X11_423 dX11_shake_59 (kX11_bring e19) km_0.1 km_0.2 rc_10 rfl rfl (Nat.le_of_ble_eq_true rfl) (by decide) (Nat.zero_le _) ?_
        refine v_iload_n (pc := 62) (j := 3) F dX11_shake_62 rfl rfl ?_
        exact v_iret (pc := 63) F hr dX11_shake_63 (some_fst hf) (some_snd hf) (Nat.zero_le _)
      · have hf := ite_t hf c13
        refine v_aload_n (pc := 36) (j := 0) F dX11_shake_36 rfl rfl ?_
        refine v_iconst (pc := 37) (v := 1) F dX11_shake_37 ic_1 ?_
        obtain ⟨r20, e21, hf⟩ := bnd_some hf
        refine v_callVi (pc := 38) (As := [.int 1]) F cl_X11_409 dX11_shake_38 (kX11_refuse e21) km_0.1 km_0.2 rc_10 rfl rfl (Nat.le_of_ble_eq_true rfl) (by decide) (Nat.zero_le _) ?_
        exact v_iret (pc := 41) F hr dX11_shake_41 (some_fst hf) (some_snd hf) (Nat.zero_le _)
    · have hf := ite_t hf c10
      refine V.sub (lv' := [(0, .ref (gA g 0))]) [0] rfl ?_
      exact tX11_shake_21 F hr hf
def fX11_shakeFirst_2 (h : ST) (l1 : Int32) (s1 : Int32) : Option (Int32 ⊕ (Int32 ⊕ Unit)) :=
  bnd (rd 14 (h 3) 1) fun v1 =>
  if v1 ≤ s1 then
  some (.inr (.inr ()))
  else
  bnd (rd 28 (h 8) s1) fun v4 =>
    if v4 = l1 then
    some (.inr (.inl s1))
    else
    bnd (rd 28 (h 9) s1) fun v7 =>
      if v7 = l1 then
      some (.inr (.inl s1))
      else
      some (.inl (s1 + 1))
def fX11_shakeFirst_62 (h : ST) (l1 : Int32) (q1 : Int32) (q2 : Int32) : Option (ST) :=
  bnd (rd 9 (h 19) l1) fun v17 =>
  bnd (fX11_bring h q1 q2 (v17 / 2)) fun r19 =>
  some r19
def fX11_shakeFirst_35 (h : ST) (l1 : Int32) (l2 : Int32) : Option (ST) :=
  bnd (rd 28 (h 8) l2) fun v12 =>
  if v12 = l1 then
  bnd (rd 28 (h 9) l2) fun v21 =>
    fX11_shakeFirst_62 h l1 l1 v21
  else
  bnd (rd 28 (h 8) l2) fun v15 =>
    fX11_shakeFirst_62 h l1 l1 v15
def fX11_shakeFirst (h : ST) (a1 : Int32) : Option (ST) :=
  bnd (lp FU (fX11_shakeFirst_2 h a1) 0) fun x10 =>
  sm x10 (fun v => fX11_shakeFirst_35 h a1 v) (fun v => some h)
set_option maxRecDepth 100000 in
set_option maxHeartbeats 4000000 in
theorem tX11_shakeFirst_2 {p : Program} {l : Launch} {e : Env} {s : State} {m : MethodId} {args : Array Value} {below : List Frame} {meth : Method} {c : Code} {g : GE} {B : Nat}  {h : ST}  {l1 : Int32} {Q : State → Prop} {x : (Int32 ⊕ Unit)} {nf : Nat} {s0 : Int32} (F : Fx p s m args meth c cX11_shakeFirst 3 "DustParishModel" 43 g B) (hX0 : ∀ v : Int32, x = (.inl v) → V p l e 3 0 s m args below meth c Q KM 43 g B 3 0 h 35 [(0, .ref (gA g 0)), (1, .int l1), (2, .int v)] []) (hX1 : ∀ v : Unit, x = (.inr v) → V p l e 3 0 s m args below meth c Q KM 43 g B 3 0 h 80 [] []) (hl : lp nf (fX11_shakeFirst_2 h l1) s0 = some x) : V p l e 3 0 s m args below meth c Q KM 43 g B 3 0 h 2 [(0, .ref (gA g 0)), (1, .int l1), (2, .int s0)] [] := by
  refine lp_ind (P := fun s0 => V p l e 3 0 s m args below meth c Q KM 43 g B 3 0 h 2 [(0, .ref (gA g 0)), (1, .int l1), (2, .int s0)] []) ?_ nf s0 hl
  intro s1 y hf hk hx
  have hx0 : ∀ v : Int32, y = Sum.inr (.inl v) → V p l e 3 0 s m args below meth c Q KM 43 g B 3 0 h 35 [(0, .ref (gA g 0)), (1, .int l1), (2, .int v)] [] := fun v e9 => hX0 v (hx _ e9).symm
  have hx1 : ∀ v : Unit, y = Sum.inr (.inr v) → V p l e 3 0 s m args below meth c Q KM 43 g B 3 0 h 80 [] [] := fun v e9 => hX1 v (hx _ e9).symm
  unfold fX11_shakeFirst_2 at hf
  refine v_iload_n (pc := 2) (j := 2) F dX11_shakeFirst_2 rfl rfl ?_
  refine v_aload_n (pc := 3) (j := 0) F dX11_shakeFirst_3 rfl rfl ?_
  refine v_ifl (pc := 4) F fl_X11_36 dX11_shakeFirst_4 km_0.1 km_0.2 fv_10_3 ?_
  refine v_iconst (pc := 7) (v := 1) F dX11_shakeFirst_7 ic_1 ?_
  obtain ⟨v1, e2, hf⟩ := bnd_some hf
  refine v_iald (pc := 8) F dX11_shakeFirst_8 km_3.1 km_3.2 e2 ?_
  refine v_icmp_ge (pc := 9) (tgt := 80) F dX11_shakeFirst_9 (by decide) (fun c3 => ?_) (fun c3 => ?_)
  · have hf := ite_t hf c3
    refine V.sub (lv' := []) [] rfl ?_
    exact hx1 () (Option.some.inj hf).symm
  · have hf := ite_f hf c3
    refine v_aload_n (pc := 12) (j := 0) F dX11_shakeFirst_12 rfl rfl ?_
    refine v_ifl (pc := 13) F fl_X11_50 dX11_shakeFirst_13 km_0.1 km_0.2 fv_10_8 ?_
    refine v_iload_n (pc := 16) (j := 2) F dX11_shakeFirst_16 rfl rfl ?_
    obtain ⟨v4, e5, hf⟩ := bnd_some hf
    refine v_iald (pc := 17) F dX11_shakeFirst_17 km_8.1 km_8.2 e5 ?_
    refine v_iload_n (pc := 18) (j := 1) F dX11_shakeFirst_18 rfl rfl ?_
    refine v_icmp_eq (pc := 19) (tgt := 35) F dX11_shakeFirst_19 (by decide) (fun c6 => ?_) (fun c6 => ?_)
    · have hf := ite_t hf c6
      exact hx0 s1 (Option.some.inj hf).symm
    · have hf := ite_f hf c6
      refine v_aload_n (pc := 22) (j := 0) F dX11_shakeFirst_22 rfl rfl ?_
      refine v_ifl (pc := 23) F fl_X11_53 dX11_shakeFirst_23 km_0.1 km_0.2 fv_10_9 ?_
      refine v_iload_n (pc := 26) (j := 2) F dX11_shakeFirst_26 rfl rfl ?_
      obtain ⟨v7, e8, hf⟩ := bnd_some hf
      refine v_iald (pc := 27) F dX11_shakeFirst_27 km_9.1 km_9.2 e8 ?_
      refine v_iload_n (pc := 28) (j := 1) F dX11_shakeFirst_28 rfl rfl ?_
      refine v_icmp_eq (pc := 29) (tgt := 35) F dX11_shakeFirst_29 (by decide) (fun c9 => ?_) (fun c9 => ?_)
      · have hf := ite_t hf c9
        exact hx0 s1 (Option.some.inj hf).symm
      · have hf := ite_f hf c9
        refine v_goto (pc := 32) (tgt := 74) F dX11_shakeFirst_32 (by decide) ?_
        refine v_iinc (pc := 74) (j := 2) (v := s1 + 1) (lv' := [(0, .ref (gA g 0)), (1, .int l1), (2, .int (s1 + 1))]) F dX11_shakeFirst_74 rfl (congrArg (fun z => s1 + z) ic_1) (by decide) rfl ?_
        refine v_goto (pc := 77) (tgt := 2) F dX11_shakeFirst_77 (by decide) ?_
        exact hk (s1 + 1) (Option.some.inj hf).symm
set_option maxRecDepth 100000 in
set_option maxHeartbeats 4000000 in
theorem tX11_shakeFirst_62 {p : Program} {l : Launch} {e : Env} {s : State} {m : MethodId} {args : Array Value} {below : List Frame} {meth : Method} {c : Code} {g : GE} {B : Nat} {h : ST}  {l1 : Int32} {q1 : Int32} {q2 : Int32} (F : Fx p s m args meth c cX11_shakeFirst 3 "DustParishModel" 43 g B)
    {y : ST} (hr : meth.sig.returnType = none) (hf : fX11_shakeFirst_62 h l1 q1 q2 = some y) : V p l e 3 0 s m args below meth c (MQ below (QO KM 43 g none y) args s 0 (6 * 0) (WA 43 g)) KM 43 g B 3 0 h 62 [(0, .ref (gA g 0)), (1, .int l1)] [.int q2, .int q1, .ref (gA g 0)] := by
  unfold fX11_shakeFirst_62 at hf
  refine v_aload_n (pc := 62) (j := 0) F dX11_shakeFirst_62 rfl rfl ?_
  refine v_ifl (pc := 63) F fl_X11_87 dX11_shakeFirst_63 km_0.1 km_0.2 fv_10_29 ?_
  refine v_iload_n (pc := 66) (j := 1) F dX11_shakeFirst_66 rfl rfl ?_
  obtain ⟨v17, e18, hf⟩ := bnd_some hf
  refine v_iald (pc := 67) F dX11_shakeFirst_67 km_19.1 km_19.2 e18 ?_
  refine v_iconst (pc := 68) (v := 2) F dX11_shakeFirst_68 ic_2 ?_
  refine v_idiv (pc := 69) F dX11_shakeFirst_69 (by decide) ?_
  obtain ⟨r19, e20, hf⟩ := bnd_some hf
  refine v_callVv (pc := 70) (As := [.int q1, .int q2, .int (v17 / 2)]) F cl_X11_423 dX11_shakeFirst_70 (kX11_bring e20) km_0.1 km_0.2 rc_10 rfl rfl (Nat.le_of_ble_eq_true rfl) (by decide) (Nat.zero_le _) ?_
  exact v_vret (pc := 73) F hr dX11_shakeFirst_73 (Option.some.inj hf) (Nat.zero_le _)
set_option maxRecDepth 100000 in
set_option maxHeartbeats 4000000 in
theorem tX11_shakeFirst_35 {p : Program} {l : Launch} {e : Env} {s : State} {m : MethodId} {args : Array Value} {below : List Frame} {meth : Method} {c : Code} {g : GE} {B : Nat} {h : ST}  {l1 : Int32} {l2 : Int32} (F : Fx p s m args meth c cX11_shakeFirst 3 "DustParishModel" 43 g B)
    {y : ST} (hr : meth.sig.returnType = none) (hf : fX11_shakeFirst_35 h l1 l2 = some y) : V p l e 3 0 s m args below meth c (MQ below (QO KM 43 g none y) args s 0 (6 * 0) (WA 43 g)) KM 43 g B 3 0 h 35 [(0, .ref (gA g 0)), (1, .int l1), (2, .int l2)] [] := by
  unfold fX11_shakeFirst_35 at hf
  refine v_aload_n (pc := 35) (j := 0) F dX11_shakeFirst_35 rfl rfl ?_
  refine v_iload_n (pc := 36) (j := 1) F dX11_shakeFirst_36 rfl rfl ?_
  refine v_aload_n (pc := 37) (j := 0) F dX11_shakeFirst_37 rfl rfl ?_
  refine v_ifl (pc := 38) F fl_X11_50 dX11_shakeFirst_38 km_0.1 km_0.2 fv_10_8 ?_
  refine v_iload_n (pc := 41) (j := 2) F dX11_shakeFirst_41 rfl rfl ?_
  obtain ⟨v12, e13, hf⟩ := bnd_some hf
  refine v_iald (pc := 42) F dX11_shakeFirst_42 km_8.1 km_8.2 e13 ?_
  refine v_iload_n (pc := 43) (j := 1) F dX11_shakeFirst_43 rfl rfl ?_
  refine v_icmp_ne (pc := 44) (tgt := 56) F dX11_shakeFirst_44 (by decide) (fun c14 => ?_) (fun c14 => ?_)
  · have hf := ite_f hf c14
    refine v_aload_n (pc := 56) (j := 0) F dX11_shakeFirst_56 rfl rfl ?_
    refine v_ifl (pc := 57) F fl_X11_50 dX11_shakeFirst_57 km_0.1 km_0.2 fv_10_8 ?_
    refine v_iload_n (pc := 60) (j := 2) F dX11_shakeFirst_60 rfl rfl ?_
    obtain ⟨v15, e16, hf⟩ := bnd_some hf
    refine v_iald (pc := 61) F dX11_shakeFirst_61 km_8.1 km_8.2 e16 ?_
    refine V.sub (lv' := [(0, .ref (gA g 0)), (1, .int l1)]) [0, 1] rfl ?_
    exact tX11_shakeFirst_62 F hr hf
  · have hf := ite_t hf c14
    refine v_aload_n (pc := 47) (j := 0) F dX11_shakeFirst_47 rfl rfl ?_
    refine v_ifl (pc := 48) F fl_X11_53 dX11_shakeFirst_48 km_0.1 km_0.2 fv_10_9 ?_
    refine v_iload_n (pc := 51) (j := 2) F dX11_shakeFirst_51 rfl rfl ?_
    obtain ⟨v21, e22, hf⟩ := bnd_some hf
    refine v_iald (pc := 52) F dX11_shakeFirst_52 km_9.1 km_9.2 e22 ?_
    refine v_goto (pc := 53) (tgt := 62) F dX11_shakeFirst_53 (by decide) ?_
    refine V.sub (lv' := [(0, .ref (gA g 0)), (1, .int l1)]) [0, 1] rfl ?_
    exact tX11_shakeFirst_62 F hr hf
set_option maxRecDepth 100000 in
set_option maxHeartbeats 4000000 in
theorem kX11_shakeFirst {l : Launch} {g : GE} {B : Nat} {h : ST} {a1 : Int32} {y : ST} (hf : fX11_shakeFirst h a1 = some y) : CT l yX11_shakeFirst cX11_shakeFirst 3 none 3 KM 43 g B [.ref (gA g 0), .int a1] h none y := by
  refine CT.of pn_X11 (Nat.le_of_ble_eq_true rfl) ?_
  intro p e s m below meth c hr F
  have F : Fx p s m _ meth c cX11_shakeFirst 3 "DustParishModel" 43 g B := F
  refine V_lv (lv' := [(0, .ref (gA g 0)), (1, .int a1)]) rfl ?_
  unfold fX11_shakeFirst at hf
  refine v_iconst (pc := 0) (v := 0) F dX11_shakeFirst_0 ic_0 ?_
  refine v_istore_n (pc := 1) (lv' := [(0, .ref (gA g 0)), (1, .int a1), (2, .int 0)]) F dX11_shakeFirst_1 rfl (by decide) rfl ?_
  obtain ⟨x10, e11, hf⟩ := bnd_some hf
  refine tX11_shakeFirst_2 (s0 := 0) F (fun v e9 => ?_) (fun v e9 => ?_) e11
  · subst e9
    have hf := sm_l hf
    exact tX11_shakeFirst_35 F hr hf
  · subst e9
    have hf := sm_r hf
    exact v_vret (pc := 80) F hr dX11_shakeFirst_80 (Option.some.inj hf) (Nat.zero_le _)
def fX11_sharesFrom_6 (R : ST → Int32 → Int32 → Int32 → Option (Int32 × ST)) (h : ST) (l1 : Int32) (l2 : Int32) (l3 : Int32) (s1 : (Int32 × Int32)) : Option ((Int32 × Int32) ⊕ Int32) :=
  if l2 ≤ s1.2 then
  some (.inr s1.1)
  else
  bnd (rd 4 (h 31) s1.2) fun v2 =>
    some (.inl ((if s1.1 < v2 then v2 else s1.1), s1.2 + 1))
def fX11_sharesFrom_59 (R : ST → Int32 → Int32 → Int32 → Option (Int32 × ST)) (l1 : Int32) (l2 : Int32) (s1 : (ST × Int32 × Int32)) : Option ((ST × Int32 × Int32) ⊕ (ST × Int32)) :=
  if l2 ≤ s1.2.2 then
  some (.inr (s1.1, s1.2.1))
  else
  bnd (rd 4 (s1.1 31) s1.2.2) fun v11 =>
    bnd (rd 9 (s1.1 19) l1) fun v13 =>
    bnd (wr 4 s1.1 31 s1.2.2 (v11 + v13)) fun h15 =>
    bnd (R h15 (l1 + 1) l2 s1.2.1) fun r17 =>
    bnd (rd 4 (r17.2 31) s1.2.2) fun v19 =>
    bnd (rd 9 (r17.2 19) l1) fun v21 =>
    bnd (wr 4 r17.2 31 s1.2.2 (v19 - v21)) fun h23 =>
    some (.inl (h23, r17.1, s1.2.2 + 1))
def fX11_sharesFrom_b (R : ST → Int32 → Int32 → Int32 → Option (Int32 × ST)) (h : ST) (a1 : Int32) (a2 : Int32) (a3 : Int32) : Option (Int32 × ST) :=
  bnd (lp FU (fX11_sharesFrom_6 R h a1 a2 a3) (0, 0)) fun x4 =>
  if x4 < a3 then
  bnd (rd 14 (h 3) 0) fun v7 =>
    if a1 = v7 then
    some (x4, h)
    else
    bnd (lp FU (fX11_sharesFrom_59 R a1 a2) (h, a3, 0)) fun x25 =>
      some (x25.2, x25.1)
  else
  some (a3, h)
set_option maxRecDepth 100000 in
set_option maxHeartbeats 4000000 in
theorem tX11_sharesFrom_6 {p : Program} {l : Launch} {e : Env} {s : State} {m : MethodId} {args : Array Value} {below : List Frame} {meth : Method} {c : Code} {g : GE} {B : Nat} {dd : Nat} {R : ST → Int32 → Int32 → Int32 → Option (Int32 × ST)} (hR : ∀ {h : ST} {a1 a2 a3 : Int32} {y : Int32 × ST}, R h a1 a2 a3 = some y → CT l yX11_sharesFrom cX11_sharesFrom 7 (some .int) (2 + 1 * dd) KM 43 g B [.ref (gA g 0), .int a1, .int a2, .int a3] h (some (.int y.1)) y.2)  {h : ST}  {l1 : Int32} {l2 : Int32} {l3 : Int32} {Q : State → Prop} {x : Int32} {nf : Nat} {s0 : (Int32 × Int32)} (F : Fx p s m args meth c cX11_sharesFrom 7 "DustParishModel" 43 g B) (hX0 : V p l e (2 + 1 * dd + 1) 0 s m args below meth c Q KM 43 g B 7 0 h 32 [(0, .ref (gA g 0)), (1, .int l1), (2, .int l2), (3, .int l3), (4, .int x)] []) (hl : lp nf (fX11_sharesFrom_6 R h l1 l2 l3) s0 = some x) : V p l e (2 + 1 * dd + 1) 0 s m args below meth c Q KM 43 g B 7 0 h 6 [(0, .ref (gA g 0)), (1, .int l1), (2, .int l2), (3, .int l3), (4, .int s0.1), (5, .int s0.2)] [] := by
  refine lp_ind (P := fun s0 => V p l e (2 + 1 * dd + 1) 0 s m args below meth c Q KM 43 g B 7 0 h 6 [(0, .ref (gA g 0)), (1, .int l1), (2, .int l2), (3, .int l3), (4, .int s0.1), (5, .int s0.2)] []) ?_ nf s0 hl
  intro s1 y hf hk hx
  have hx0 : ∀ v : Int32, y = Sum.inr v → V p l e (2 + 1 * dd + 1) 0 s m args below meth c Q KM 43 g B 7 0 h 32 [(0, .ref (gA g 0)), (1, .int l1), (2, .int l2), (3, .int l3), (4, .int v)] [] := fun v e9 => by rw [hx v e9]; exact hX0
  unfold fX11_sharesFrom_6 at hf
  refine v_iload (pc := 6) (j := 5) F dX11_sharesFrom_6 rfl ?_
  refine v_iload_n (pc := 8) (j := 2) F dX11_sharesFrom_8 rfl rfl ?_
  refine v_icmp_ge (pc := 9) (tgt := 32) F dX11_sharesFrom_9 (by decide) (fun c1 => ?_) (fun c1 => ?_)
  · have hf := ite_t hf c1
    refine V.sub (lv' := [(0, .ref (gA g 0)), (1, .int l1), (2, .int l2), (3, .int l3), (4, .int s1.1)]) [0, 1, 2, 3, 4] rfl ?_
    exact hx0 s1.1 (Option.some.inj hf).symm
  · have hf := ite_f hf c1
    refine v_iload (pc := 12) (j := 4) F dX11_sharesFrom_12 rfl ?_
    refine v_aload_n (pc := 14) (j := 0) F dX11_sharesFrom_14 rfl rfl ?_
    refine v_ifl (pc := 15) F fl_X11_121 dX11_sharesFrom_15 km_0.1 km_0.2 fv_10_47 ?_
    refine v_iload (pc := 18) (j := 5) F dX11_sharesFrom_18 rfl ?_
    obtain ⟨v2, e3, hf⟩ := bnd_some hf
    refine v_iald (pc := 20) F dX11_sharesFrom_20 km_31.1 km_31.2 e3 ?_
    refine v_mmax (pc := 21) F tw_1602 mmaxW dX11_sharesFrom_21 (by omega) (Nat.le_of_ble_eq_true rfl) (Nat.zero_le _) ?_
    refine v_istore (pc := 24) (lv' := [(0, .ref (gA g 0)), (1, .int l1), (2, .int l2), (3, .int l3), (4, .int (if s1.1 < v2 then v2 else s1.1)), (5, .int s1.2)]) F dX11_sharesFrom_24 (by decide) rfl ?_
    refine v_iinc (pc := 26) (j := 5) (v := s1.2 + 1) (lv' := [(0, .ref (gA g 0)), (1, .int l1), (2, .int l2), (3, .int l3), (4, .int (if s1.1 < v2 then v2 else s1.1)), (5, .int (s1.2 + 1))]) F dX11_sharesFrom_26 rfl (congrArg (fun z => s1.2 + z) ic_1) (by decide) rfl ?_
    refine v_goto (pc := 29) (tgt := 6) F dX11_sharesFrom_29 (by decide) ?_
    exact hk ((if s1.1 < v2 then v2 else s1.1), s1.2 + 1) (Option.some.inj hf).symm
set_option maxRecDepth 100000 in
set_option maxHeartbeats 4000000 in
theorem tX11_sharesFrom_59 {p : Program} {l : Launch} {e : Env} {s : State} {m : MethodId} {args : Array Value} {below : List Frame} {meth : Method} {c : Code} {g : GE} {B : Nat} {dd : Nat} {R : ST → Int32 → Int32 → Int32 → Option (Int32 × ST)} (hR : ∀ {h : ST} {a1 a2 a3 : Int32} {y : Int32 × ST}, R h a1 a2 a3 = some y → CT l yX11_sharesFrom cX11_sharesFrom 7 (some .int) (2 + 1 * dd) KM 43 g B [.ref (gA g 0), .int a1, .int a2, .int a3] h (some (.int y.1)) y.2)   {l1 : Int32} {l2 : Int32} {Q : State → Prop} {x : (ST × Int32)} {nf : Nat} {s0 : (ST × Int32 × Int32)} (F : Fx p s m args meth c cX11_sharesFrom 7 "DustParishModel" 43 g B) (hX0 : V p l e (2 + 1 * dd + 1) 0 s m args below meth c Q KM 43 g B 7 0 x.1 115 [(5, .int x.2)] []) (hl : lp nf (fX11_sharesFrom_59 R l1 l2) s0 = some x) : V p l e (2 + 1 * dd + 1) 0 s m args below meth c Q KM 43 g B 7 0 s0.1 59 [(0, .ref (gA g 0)), (1, .int l1), (2, .int l2), (5, .int s0.2.1), (6, .int s0.2.2)] [] := by
  refine lp_ind (P := fun s0 => V p l e (2 + 1 * dd + 1) 0 s m args below meth c Q KM 43 g B 7 0 s0.1 59 [(0, .ref (gA g 0)), (1, .int l1), (2, .int l2), (5, .int s0.2.1), (6, .int s0.2.2)] []) ?_ nf s0 hl
  intro s1 y hf hk hx
  have hx0 : ∀ v : (ST × Int32), y = Sum.inr v → V p l e (2 + 1 * dd + 1) 0 s m args below meth c Q KM 43 g B 7 0 v.1 115 [(5, .int v.2)] [] := fun v e9 => by rw [hx v e9]; exact hX0
  unfold fX11_sharesFrom_59 at hf
  refine v_iload (pc := 59) (j := 4) F dX11_sharesFrom_59 rfl ?_
  refine v_iload_n (pc := 61) (j := 2) F dX11_sharesFrom_61 rfl rfl ?_
  refine v_icmp_ge (pc := 62) (tgt := 115) F dX11_sharesFrom_62 (by decide) (fun c10 => ?_) (fun c10 => ?_)
  · have hf := ite_t hf c10
    refine V.sub (lv' := [(5, .int s1.2.1)]) [3] rfl ?_
    exact hx0 (s1.1, s1.2.1) (Option.some.inj hf).symm
  · have hf := ite_f hf c10
    refine v_aload_n (pc := 65) (j := 0) F dX11_sharesFrom_65 rfl rfl ?_
    refine v_ifl (pc := 66) F fl_X11_121 dX11_sharesFrom_66 km_0.1 km_0.2 fv_10_47 ?_
    refine v_iload (pc := 69) (j := 4) F dX11_sharesFrom_69 rfl ?_
    refine v_dup2_11 (pc := 71) F dX11_sharesFrom_71 rfl rfl ?_
    obtain ⟨v11, e12, hf⟩ := bnd_some hf
    refine v_iald (pc := 72) F dX11_sharesFrom_72 km_31.1 km_31.2 e12 ?_
    refine v_aload_n (pc := 73) (j := 0) F dX11_sharesFrom_73 rfl rfl ?_
    refine v_ifl (pc := 74) F fl_X11_87 dX11_sharesFrom_74 km_0.1 km_0.2 fv_10_29 ?_
    refine v_iload_n (pc := 77) (j := 1) F dX11_sharesFrom_77 rfl rfl ?_
    obtain ⟨v13, e14, hf⟩ := bnd_some hf
    refine v_iald (pc := 78) F dX11_sharesFrom_78 km_19.1 km_19.2 e14 ?_
    refine v_iadd (pc := 79) F dX11_sharesFrom_79 ?_
    obtain ⟨h15, e16, hf⟩ := bnd_some hf
    refine v_iast (pc := 80) F dX11_sharesFrom_80 km_31.1 km_31.2 e16 ?_
    refine v_aload_n (pc := 81) (j := 0) F dX11_sharesFrom_81 rfl rfl ?_
    refine v_iload_n (pc := 82) (j := 1) F dX11_sharesFrom_82 rfl rfl ?_
    refine v_iconst (pc := 83) (v := 1) F dX11_sharesFrom_83 ic_1 ?_
    refine v_iadd (pc := 84) F dX11_sharesFrom_84 ?_
    refine v_iload_n (pc := 85) (j := 2) F dX11_sharesFrom_85 rfl rfl ?_
    refine v_iload (pc := 86) (j := 3) F dX11_sharesFrom_86 rfl ?_
    obtain ⟨r17, e18, hf⟩ := bnd_some hf
    refine v_callVi (pc := 88) (As := [.int (l1 + 1), .int l2, .int s1.2.1]) F cl_X11_451 dX11_sharesFrom_88 (hR e18) km_0.1 km_0.2 rc_10 rfl rfl (Nat.le_of_ble_eq_true rfl) (by omega) (Nat.zero_le _) ?_
    refine v_istore (pc := 91) (lv' := [(0, .ref (gA g 0)), (1, .int l1), (2, .int l2), (5, .int r17.1), (6, .int s1.2.2)]) F dX11_sharesFrom_91 (by decide) rfl ?_
    refine v_aload_n (pc := 93) (j := 0) F dX11_sharesFrom_93 rfl rfl ?_
    refine v_ifl (pc := 94) F fl_X11_121 dX11_sharesFrom_94 km_0.1 km_0.2 fv_10_47 ?_
    refine v_iload (pc := 97) (j := 4) F dX11_sharesFrom_97 rfl ?_
    refine v_dup2_11 (pc := 99) F dX11_sharesFrom_99 rfl rfl ?_
    obtain ⟨v19, e20, hf⟩ := bnd_some hf
    refine v_iald (pc := 100) F dX11_sharesFrom_100 km_31.1 km_31.2 e20 ?_
    refine v_aload_n (pc := 101) (j := 0) F dX11_sharesFrom_101 rfl rfl ?_
    refine v_ifl (pc := 102) F fl_X11_87 dX11_sharesFrom_102 km_0.1 km_0.2 fv_10_29 ?_
    refine v_iload_n (pc := 105) (j := 1) F dX11_sharesFrom_105 rfl rfl ?_
    obtain ⟨v21, e22, hf⟩ := bnd_some hf
    refine v_iald (pc := 106) F dX11_sharesFrom_106 km_19.1 km_19.2 e22 ?_
    refine v_isub (pc := 107) F dX11_sharesFrom_107 ?_
    obtain ⟨h23, e24, hf⟩ := bnd_some hf
    refine v_iast (pc := 108) F dX11_sharesFrom_108 km_31.1 km_31.2 e24 ?_
    refine v_iinc (pc := 109) (j := 4) (v := s1.2.2 + 1) (lv' := [(0, .ref (gA g 0)), (1, .int l1), (2, .int l2), (5, .int r17.1), (6, .int (s1.2.2 + 1))]) F dX11_sharesFrom_109 rfl (congrArg (fun z => s1.2.2 + z) ic_1) (by decide) rfl ?_
    refine v_goto (pc := 112) (tgt := 59) F dX11_sharesFrom_112 (by decide) ?_
    exact hk (h23, r17.1, s1.2.2 + 1) (Option.some.inj hf).symm
set_option maxRecDepth 100000 in
set_option maxHeartbeats 4000000 in
theorem kX11_sharesFrom_b {l : Launch} {g : GE} {B : Nat} {dd : Nat} {R : ST → Int32 → Int32 → Int32 → Option (Int32 × ST)} (hR : ∀ {h : ST} {a1 a2 a3 : Int32} {y : Int32 × ST}, R h a1 a2 a3 = some y → CT l yX11_sharesFrom cX11_sharesFrom 7 (some .int) (2 + 1 * dd) KM 43 g B [.ref (gA g 0), .int a1, .int a2, .int a3] h (some (.int y.1)) y.2) {h : ST} {a1 : Int32} {a2 : Int32} {a3 : Int32} {y : Int32 × ST} (hf : fX11_sharesFrom_b R h a1 a2 a3 = some y) : CT l yX11_sharesFrom cX11_sharesFrom 7 (some .int) (2 + 1 * dd + 1) KM 43 g B [.ref (gA g 0), .int a1, .int a2, .int a3] h (some (.int y.1)) y.2 := by
  refine CT.of pn_X11 (Nat.le_of_ble_eq_true rfl) ?_
  intro p e s m below meth c hr F
  have F : Fx p s m _ meth c cX11_sharesFrom 7 "DustParishModel" 43 g B := F
  refine V_lv (lv' := [(0, .ref (gA g 0)), (1, .int a1), (2, .int a2), (3, .int a3)]) rfl ?_
  unfold fX11_sharesFrom_b at hf
  refine v_iconst (pc := 0) (v := 0) F dX11_sharesFrom_0 ic_0 ?_
  refine v_istore (pc := 1) (lv' := [(0, .ref (gA g 0)), (1, .int a1), (2, .int a2), (3, .int a3), (4, .int 0)]) F dX11_sharesFrom_1 (by decide) rfl ?_
  refine v_iconst (pc := 3) (v := 0) F dX11_sharesFrom_3 ic_0 ?_
  refine v_istore (pc := 4) (lv' := [(0, .ref (gA g 0)), (1, .int a1), (2, .int a2), (3, .int a3), (4, .int 0), (5, .int 0)]) F dX11_sharesFrom_4 (by decide) rfl ?_
  obtain ⟨x4, e5, hf⟩ := bnd_some hf
  refine tX11_sharesFrom_6 (s0 := (0, 0)) hR F ?_ e5
  refine v_iload (pc := 32) (j := 4) F dX11_sharesFrom_32 rfl ?_
  refine v_iload_n (pc := 34) (j := 3) F dX11_sharesFrom_34 rfl rfl ?_
  refine v_icmp_lt (pc := 35) (tgt := 40) F dX11_sharesFrom_35 (by decide) (fun c6 => ?_) (fun c6 => ?_)
  · have hf := ite_t hf c6
    refine v_iload_n (pc := 40) (j := 1) F dX11_sharesFrom_40 rfl rfl ?_
    refine v_aload_n (pc := 41) (j := 0) F dX11_sharesFrom_41 rfl rfl ?_
    refine v_ifl (pc := 42) F fl_X11_36 dX11_sharesFrom_42 km_0.1 km_0.2 fv_10_3 ?_
    refine v_iconst (pc := 45) (v := 0) F dX11_sharesFrom_45 ic_0 ?_
    obtain ⟨v7, e8, hf⟩ := bnd_some hf
    refine v_iald (pc := 46) F dX11_sharesFrom_46 km_3.1 km_3.2 e8 ?_
    refine v_icmp_ne (pc := 47) (tgt := 53) F dX11_sharesFrom_47 (by decide) (fun c9 => ?_) (fun c9 => ?_)
    · have hf := ite_f hf c9
      refine v_iload_n (pc := 53) (j := 3) F dX11_sharesFrom_53 rfl rfl ?_
      refine v_istore (pc := 54) (lv' := [(0, .ref (gA g 0)), (1, .int a1), (2, .int a2), (3, .int a3), (4, .int x4), (5, .int a3)]) F dX11_sharesFrom_54 (by decide) rfl ?_
      refine v_iconst (pc := 56) (v := 0) F dX11_sharesFrom_56 ic_0 ?_
      refine v_istore (pc := 57) (lv' := [(0, .ref (gA g 0)), (1, .int a1), (2, .int a2), (3, .int a3), (4, .int x4), (5, .int a3), (6, .int 0)]) F dX11_sharesFrom_57 (by decide) rfl ?_
      obtain ⟨x25, e26, hf⟩ := bnd_some hf
      refine V.sub (lv' := [(0, .ref (gA g 0)), (1, .int a1), (2, .int a2), (5, .int a3), (6, .int 0)]) [0, 1, 2, 5, 6] rfl ?_
      refine tX11_sharesFrom_59 (s0 := (h, a3, 0)) hR F ?_ e26
      refine v_iload (pc := 115) (j := 0) F dX11_sharesFrom_115 rfl ?_
      exact v_iret (pc := 117) F hr dX11_sharesFrom_117 (some_fst hf) (some_snd hf) (Nat.zero_le _)
    · have hf := ite_t hf c9
      refine v_iload (pc := 50) (j := 4) F dX11_sharesFrom_50 rfl ?_
      exact v_iret (pc := 52) F hr dX11_sharesFrom_52 (some_fst hf) (some_snd hf) (Nat.zero_le _)
  · have hf := ite_f hf c6
    refine v_iload_n (pc := 38) (j := 3) F dX11_sharesFrom_38 rfl rfl ?_
    exact v_iret (pc := 39) F hr dX11_sharesFrom_39 (some_fst hf) (some_snd hf) (Nat.zero_le _)
def fX11_sharesFrom : Nat → ST → Int32 → Int32 → Int32 → Option (Int32 × ST)
  | 0, _, _, _, _ => none
  | dd + 1, h, a1, a2, a3 => fX11_sharesFrom_b (fX11_sharesFrom dd) h a1 a2 a3
theorem kX11_sharesFrom {l : Launch} {g : GE} {B : Nat} : ∀ {dd : Nat} {h : ST} {a1 a2 a3 : Int32} {y : Int32 × ST}, fX11_sharesFrom dd h a1 a2 a3 = some y → CT l yX11_sharesFrom cX11_sharesFrom 7 (some .int) (2 + 1 * dd) KM 43 g B [.ref (gA g 0), .int a1, .int a2, .int a3] h (some (.int y.1)) y.2
  | 0, _, _, _, _, _, hf => by cases hf
  | dd + 1, _, _, _, _, _, hf => by
    have e : 2 + 1 * (dd + 1) = 2 + 1 * dd + 1 := by omega
    rw [e]
    exact kX11_sharesFrom_b (fun hf => kX11_sharesFrom hf) hf
def fX11_shares_25 (l1 : Int32) (s1 : (ST × Int32)) : Option ((ST × Int32) ⊕ ST) :=
  if 4 ≤ s1.2 then
  some (.inr s1.1)
  else
  bnd (wr 4 s1.1 31 s1.2 0) fun h7 =>
    some (.inl (h7, s1.2 + 1))
def fX11_shares (h : ST) (a1 : Int32) : Option (Int32 × ST) :=
  bnd (pw h 0 2 0) fun h1 =>
  bnd (fX11_isIn h1 a1.toInt64 (1 : Int64) (4 : Int64)) fun r3 =>
  if r3 = 0 then
  bnd (fX11_fail h1 1) fun r13 =>
    some (r13.1, r13.2)
  else
  bnd (lp FU (fX11_shares_25 a1) (h1, 0)) fun x9 =>
    bnd (fX11_sharesFrom 12 x9 0 a1 1000000) fun r11 =>
    some (r11.1, r11.2)
set_option maxRecDepth 100000 in
set_option maxHeartbeats 4000000 in
theorem tX11_shares_25 {p : Program} {l : Launch} {e : Env} {s : State} {m : MethodId} {args : Array Value} {below : List Frame} {meth : Method} {c : Code} {g : GE} {B : Nat}   {l1 : Int32} {Q : State → Prop} {x : ST} {nf : Nat} {s0 : (ST × Int32)} (F : Fx p s m args meth c cX11_shares 3 "DustParishModel" 43 g B) (hX0 : V p l e 15 0 s m args below meth c Q KM 43 g B 3 0 x 43 [(0, .ref (gA g 0)), (1, .int l1)] []) (hl : lp nf (fX11_shares_25 l1) s0 = some x) : V p l e 15 0 s m args below meth c Q KM 43 g B 3 0 s0.1 25 [(0, .ref (gA g 0)), (1, .int l1), (2, .int s0.2)] [] := by
  refine lp_ind (P := fun s0 => V p l e 15 0 s m args below meth c Q KM 43 g B 3 0 s0.1 25 [(0, .ref (gA g 0)), (1, .int l1), (2, .int s0.2)] []) ?_ nf s0 hl
  intro s1 y hf hk hx
  have hx0 : ∀ v : ST, y = Sum.inr v → V p l e 15 0 s m args below meth c Q KM 43 g B 3 0 v 43 [(0, .ref (gA g 0)), (1, .int l1)] [] := fun v e9 => by rw [hx v e9]; exact hX0
  unfold fX11_shares_25 at hf
  refine v_iload_n (pc := 25) (j := 2) F dX11_shares_25 rfl rfl ?_
  refine v_iconst (pc := 26) (v := 4) F dX11_shares_26 ic_4 ?_
  refine v_icmp_ge (pc := 27) (tgt := 43) F dX11_shares_27 (by decide) (fun c6 => ?_) (fun c6 => ?_)
  · have hf := ite_t hf c6
    refine V.sub (lv' := [(0, .ref (gA g 0)), (1, .int l1)]) [0, 1] rfl ?_
    exact hx0 s1.1 (Option.some.inj hf).symm
  · have hf := ite_f hf c6
    refine v_aload_n (pc := 30) (j := 0) F dX11_shares_30 rfl rfl ?_
    refine v_ifl (pc := 31) F fl_X11_121 dX11_shares_31 km_0.1 km_0.2 fv_10_47 ?_
    refine v_iload_n (pc := 34) (j := 2) F dX11_shares_34 rfl rfl ?_
    refine v_iconst (pc := 35) (v := 0) F dX11_shares_35 ic_0 ?_
    obtain ⟨h7, e8, hf⟩ := bnd_some hf
    refine v_iast (pc := 36) F dX11_shares_36 km_31.1 km_31.2 e8 ?_
    refine v_iinc (pc := 37) (j := 2) (v := s1.2 + 1) (lv' := [(0, .ref (gA g 0)), (1, .int l1), (2, .int (s1.2 + 1))]) F dX11_shares_37 rfl (congrArg (fun z => s1.2 + z) ic_1) (by decide) rfl ?_
    refine v_goto (pc := 40) (tgt := 25) F dX11_shares_40 (by decide) ?_
    exact hk (h7, s1.2 + 1) (Option.some.inj hf).symm
set_option maxRecDepth 100000 in
set_option maxHeartbeats 4000000 in
theorem kX11_shares {l : Launch} {g : GE} {B : Nat} {h : ST} {a1 : Int32} {y : Int32 × ST} (hf : fX11_shares h a1 = some y) : CT l yX11_shares cX11_shares 3 (some .int) 15 KM 43 g B [.ref (gA g 0), .int a1] h (some (.int y.1)) y.2 := by
  refine CT.of pn_X11 (Nat.le_of_ble_eq_true rfl) ?_
  intro p e s m below meth c hr F
  have F : Fx p s m _ meth c cX11_shares 3 "DustParishModel" 43 g B := F
  refine V_lv (lv' := [(0, .ref (gA g 0)), (1, .int a1)]) rfl ?_
  unfold fX11_shares at hf
  refine v_aload_n (pc := 0) (j := 0) F dX11_shares_0 rfl rfl ?_
  refine v_iconst (pc := 1) (v := 0) F dX11_shares_1 ic_0 ?_
  obtain ⟨h1, e2, hf⟩ := bnd_some hf
  refine v_pfl (pc := 2) F fl_X11_157 pl_10_2 dX11_shares_2 km_0.1 km_0.2 fv_10_2 rfl rfl e2 ?_
  refine v_iload_n (pc := 5) (j := 1) F dX11_shares_5 rfl rfl ?_
  refine v_i2l (pc := 6) F dX11_shares_6 rfl ?_
  refine v_lconst (pc := 7) (v := 1) F dX11_shares_7 rfl ?_
  refine v_ldc2 (pc := 8) F tw_1812 dX11_shares_8 ?_
  obtain ⟨r3, e4, hf⟩ := bnd_some hf
  refine v_callSi (pc := 11) (As := [.long a1.toInt64, .long (1 : Int64), .long (4 : Int64)]) F cl_X11_160 dX11_shares_11 (kX11_isIn e4) rfl rfl (Nat.le_of_ble_eq_true rfl) (by decide) (Nat.zero_le _) ?_
  refine v_if_ne (pc := 14) (tgt := 23) F dX11_shares_14 (by decide) (fun c5 => ?_) (fun c5 => ?_)
  · have hf := ite_f hf c5
    refine v_iconst (pc := 23) (v := 0) F dX11_shares_23 ic_0 ?_
    refine v_istore_n (pc := 24) (lv' := [(0, .ref (gA g 0)), (1, .int a1), (2, .int 0)]) F dX11_shares_24 rfl (by decide) rfl ?_
    obtain ⟨x9, e10, hf⟩ := bnd_some hf
    refine tX11_shares_25 (s0 := (h1, 0)) F ?_ e10
    refine v_aload_n (pc := 43) (j := 0) F dX11_shares_43 rfl rfl ?_
    refine v_iconst (pc := 44) (v := 0) F dX11_shares_44 ic_0 ?_
    refine v_iload_n (pc := 45) (j := 1) F dX11_shares_45 rfl rfl ?_
    refine v_ldcw (pc := 46) F tw_1656 dX11_shares_46 ?_
    obtain ⟨r11, e12, hf⟩ := bnd_some hf
    refine v_callVi (pc := 49) (As := [.int 0, .int a1, .int 1000000]) F cl_X11_451 dX11_shares_49 (kX11_sharesFrom (dd := 12) e12) km_0.1 km_0.2 rc_10 rfl rfl (Nat.le_of_ble_eq_true rfl) (by decide) (Nat.zero_le _) ?_
    exact v_iret (pc := 52) F hr dX11_shares_52 (some_fst hf) (some_snd hf) (Nat.zero_le _)
  · have hf := ite_t hf c5
    refine v_aload_n (pc := 17) (j := 0) F dX11_shares_17 rfl rfl ?_
    refine v_iconst (pc := 18) (v := 1) F dX11_shares_18 ic_1 ?_
    obtain ⟨r13, e14, hf⟩ := bnd_some hf
    refine v_callVi (pc := 19) (As := [.int 1]) F cl_X11_320 dX11_shares_19 (kX11_fail e14) km_0.1 km_0.2 rc_10 rfl rfl (Nat.le_of_ble_eq_true rfl) (by decide) (Nat.zero_le _) ?_
    exact v_iret (pc := 22) F hr dX11_shares_22 (some_fst hf) (some_snd hf) (Nat.zero_le _)
def fX11_steal (h : ST) (a1 : Int32) (a2 : Int32) : Option (Int32 × ST) :=
  bnd (rd 9 (h 19) a1) fun v1 =>
  bnd (rd 9 (h 19) a1) fun v3 =>
  bnd (wr 9 h 19 a1 (v3 - (if v1 < a2 then v1 else a2))) fun h5 =>
  bnd (pw h5 0 35 ((h5 0 35) + (if v1 < a2 then v1 else a2))) fun h7 =>
  some ((if v1 < a2 then v1 else a2), h7)
set_option maxRecDepth 100000 in
set_option maxHeartbeats 4000000 in
theorem kX11_steal {l : Launch} {g : GE} {B : Nat} {h : ST} {a1 : Int32} {a2 : Int32} {y : Int32 × ST} (hf : fX11_steal h a1 a2 = some y) : CT l yX11_steal cX11_steal 4 (some .int) 1 KM 43 g B [.ref (gA g 0), .int a1, .int a2] h (some (.int y.1)) y.2 := by
  refine CT.of pn_X11 (Nat.le_of_ble_eq_true rfl) ?_
  intro p e s m below meth c hr F
  have F : Fx p s m _ meth c cX11_steal 4 "DustParishModel" 43 g B := F
  refine V_lv (lv' := [(0, .ref (gA g 0)), (1, .int a1), (2, .int a2)]) rfl ?_
  unfold fX11_steal at hf
  refine v_iload_n (pc := 0) (j := 2) F dX11_steal_0 rfl rfl ?_
  refine v_aload_n (pc := 1) (j := 0) F dX11_steal_1 rfl rfl ?_
  refine v_ifl (pc := 2) F fl_X11_87 dX11_steal_2 km_0.1 km_0.2 fv_10_29 ?_
  refine v_iload_n (pc := 5) (j := 1) F dX11_steal_5 rfl rfl ?_
  obtain ⟨v1, e2, hf⟩ := bnd_some hf
  refine v_iald (pc := 6) F dX11_steal_6 km_19.1 km_19.2 e2 ?_
  refine v_mmin (pc := 7) F tw_1490 mminW dX11_steal_7 (by decide) (Nat.le_of_ble_eq_true rfl) (Nat.zero_le _) ?_
  refine v_istore_n (pc := 10) (lv' := [(0, .ref (gA g 0)), (1, .int a1), (2, .int a2), (3, .int (if v1 < a2 then v1 else a2))]) F dX11_steal_10 rfl (by decide) rfl ?_
  refine v_aload_n (pc := 11) (j := 0) F dX11_steal_11 rfl rfl ?_
  refine v_ifl (pc := 12) F fl_X11_87 dX11_steal_12 km_0.1 km_0.2 fv_10_29 ?_
  refine v_iload_n (pc := 15) (j := 1) F dX11_steal_15 rfl rfl ?_
  refine v_dup2_11 (pc := 16) F dX11_steal_16 rfl rfl ?_
  obtain ⟨v3, e4, hf⟩ := bnd_some hf
  refine v_iald (pc := 17) F dX11_steal_17 km_19.1 km_19.2 e4 ?_
  refine v_iload_n (pc := 18) (j := 3) F dX11_steal_18 rfl rfl ?_
  refine v_isub (pc := 19) F dX11_steal_19 ?_
  obtain ⟨h5, e6, hf⟩ := bnd_some hf
  refine v_iast (pc := 20) F dX11_steal_20 km_19.1 km_19.2 e6 ?_
  refine v_aload_n (pc := 21) (j := 0) F dX11_steal_21 rfl rfl ?_
  refine v_dup (pc := 22) F dX11_steal_22 rfl ?_
  refine v_ifl (pc := 23) F fl_X11_338 dX11_steal_23 km_0.1 km_0.2 fv_10_35 ?_
  refine v_iload_n (pc := 26) (j := 3) F dX11_steal_26 rfl rfl ?_
  refine v_iadd (pc := 27) F dX11_steal_27 ?_
  obtain ⟨h7, e8, hf⟩ := bnd_some hf
  refine v_pfl (pc := 28) F fl_X11_338 pl_10_35 dX11_steal_28 km_0.1 km_0.2 fv_10_35 rfl rfl e8 ?_
  refine v_iload_n (pc := 31) (j := 3) F dX11_steal_31 rfl rfl ?_
  exact v_iret (pc := 32) F hr dX11_steal_32 (some_fst hf) (some_snd hf) (Nat.zero_le _)
def fX11_sneeze (h : ST) (a1 : Int32) (a2 : Int32) : Option (Int32 × ST) :=
  bnd (pw h 0 2 0) fun h1 =>
  bnd (fX11_isRoom h1 a1) fun r3 =>
  if r3 = 0 then
  bnd (fX11_fail h1 1) fun r15 =>
    some (r15.1, r15.2)
  else
  bnd (fX11_isIn h1 a2.toInt64 (1 : Int64) (99 : Int64)) fun r6 =>
    if r6 = 0 then
    bnd (fX11_refuse h1 1) fun r13 =>
      some (r13.1, r13.2)
    else
    bnd (fX11_keep h1) fun r9 =>
      bnd (fX11_steal r9 a1 a2) fun r11 =>
      some (r11.1, r11.2)
set_option maxRecDepth 100000 in
set_option maxHeartbeats 4000000 in
theorem kX11_sneeze {l : Launch} {g : GE} {B : Nat} {h : ST} {a1 : Int32} {a2 : Int32} {y : Int32 × ST} (hf : fX11_sneeze h a1 a2 = some y) : CT l yX11_sneeze cX11_sneeze 3 (some .int) 3 KM 43 g B [.ref (gA g 0), .int a1, .int a2] h (some (.int y.1)) y.2 := by
  refine CT.of pn_X11 (Nat.le_of_ble_eq_true rfl) ?_
  intro p e s m below meth c hr F
  have F : Fx p s m _ meth c cX11_sneeze 3 "DustParishModel" 43 g B := F
  refine V_lv (lv' := [(0, .ref (gA g 0)), (1, .int a1), (2, .int a2)]) rfl ?_
  unfold fX11_sneeze at hf
  refine v_aload_n (pc := 0) (j := 0) F dX11_sneeze_0 rfl rfl ?_
  refine v_iconst (pc := 1) (v := 0) F dX11_sneeze_1 ic_0 ?_
  obtain ⟨h1, e2, hf⟩ := bnd_some hf
  refine v_pfl (pc := 2) F fl_X11_157 pl_10_2 dX11_sneeze_2 km_0.1 km_0.2 fv_10_2 rfl rfl e2 ?_
  refine v_aload_n (pc := 5) (j := 0) F dX11_sneeze_5 rfl rfl ?_
  refine v_iload_n (pc := 6) (j := 1) F dX11_sneeze_6 rfl rfl ?_
  obtain ⟨r3, e4, hf⟩ := bnd_some hf
  refine v_callVi (pc := 7) (As := [.int a1]) F cl_X11_387 dX11_sneeze_7 (kX11_isRoom e4) km_0.1 km_0.2 rc_10 rfl rfl (Nat.le_of_ble_eq_true rfl) (by decide) (Nat.zero_le _) ?_
  refine v_if_ne (pc := 10) (tgt := 19) F dX11_sneeze_10 (by decide) (fun c5 => ?_) (fun c5 => ?_)
  · have hf := ite_f hf c5
    refine v_iload_n (pc := 19) (j := 2) F dX11_sneeze_19 rfl rfl ?_
    refine v_i2l (pc := 20) F dX11_sneeze_20 rfl ?_
    refine v_lconst (pc := 21) (v := 1) F dX11_sneeze_21 rfl ?_
    refine v_ldc2 (pc := 22) F tw_1745 dX11_sneeze_22 ?_
    obtain ⟨r6, e7, hf⟩ := bnd_some hf
    refine v_callSi (pc := 25) (As := [.long a2.toInt64, .long (1 : Int64), .long (99 : Int64)]) F cl_X11_160 dX11_sneeze_25 (kX11_isIn e7) rfl rfl (Nat.le_of_ble_eq_true rfl) (by decide) (Nat.zero_le _) ?_
    refine v_if_ne (pc := 28) (tgt := 37) F dX11_sneeze_28 (by decide) (fun c8 => ?_) (fun c8 => ?_)
    · have hf := ite_f hf c8
      refine v_aload_n (pc := 37) (j := 0) F dX11_sneeze_37 rfl rfl ?_
      obtain ⟨r9, e10, hf⟩ := bnd_some hf
      refine v_callVv (pc := 38) (As := []) F cl_X11_412 dX11_sneeze_38 (kX11_keep e10) km_0.1 km_0.2 rc_10 rfl rfl (Nat.le_of_ble_eq_true rfl) (by decide) (Nat.zero_le _) ?_
      refine v_aload_n (pc := 41) (j := 0) F dX11_sneeze_41 rfl rfl ?_
      refine v_iload_n (pc := 42) (j := 1) F dX11_sneeze_42 rfl rfl ?_
      refine v_iload_n (pc := 43) (j := 2) F dX11_sneeze_43 rfl rfl ?_
      obtain ⟨r11, e12, hf⟩ := bnd_some hf
      refine v_callVi (pc := 44) (As := [.int a1, .int a2]) F cl_X11_427 dX11_sneeze_44 (kX11_steal e12) km_0.1 km_0.2 rc_10 rfl rfl (Nat.le_of_ble_eq_true rfl) (by decide) (Nat.zero_le _) ?_
      exact v_iret (pc := 47) F hr dX11_sneeze_47 (some_fst hf) (some_snd hf) (Nat.zero_le _)
    · have hf := ite_t hf c8
      refine v_aload_n (pc := 31) (j := 0) F dX11_sneeze_31 rfl rfl ?_
      refine v_iconst (pc := 32) (v := 1) F dX11_sneeze_32 ic_1 ?_
      obtain ⟨r13, e14, hf⟩ := bnd_some hf
      refine v_callVi (pc := 33) (As := [.int 1]) F cl_X11_409 dX11_sneeze_33 (kX11_refuse e14) km_0.1 km_0.2 rc_10 rfl rfl (Nat.le_of_ble_eq_true rfl) (by decide) (Nat.zero_le _) ?_
      exact v_iret (pc := 36) F hr dX11_sneeze_36 (some_fst hf) (some_snd hf) (Nat.zero_le _)
  · have hf := ite_t hf c5
    refine v_aload_n (pc := 13) (j := 0) F dX11_sneeze_13 rfl rfl ?_
    refine v_iconst (pc := 14) (v := 1) F dX11_sneeze_14 ic_1 ?_
    obtain ⟨r15, e16, hf⟩ := bnd_some hf
    refine v_callVi (pc := 15) (As := [.int 1]) F cl_X11_320 dX11_sneeze_15 (kX11_fail e16) km_0.1 km_0.2 rc_10 rfl rfl (Nat.le_of_ble_eq_true rfl) (by decide) (Nat.zero_le _) ?_
    exact v_iret (pc := 18) F hr dX11_sneeze_18 (some_fst hf) (some_snd hf) (Nat.zero_le _)
def fX11_something_49 (h : ST)  : Option (ST) :=
  some h
def fX11_something_39 (h : ST) (l1 : Int32) (l2 : Int32) : Option (ST) :=
  if l2 = 1 then
  bnd (fX11_shakeFirst h l1) fun r12 =>
    fX11_something_49 r12 
  else
  fX11_something_49 h 
def fX11_something (h : ST) : Option (ST) :=
  bnd (rd 14 (h 3) 0) fun v1 =>
  if v1 = 0 then
  some h
  else
  bnd (rd 14 (h 3) 0) fun v4 =>
    bnd (fX11_drawOf h v4) fun r6 =>
    bnd (fX11_drawOf r6.2 4) fun r8 =>
    if r8.1 = 0 then
    bnd (fX11_steal r8.2 r6.1 10) fun r14 =>
      fX11_something_39 r14.2 r6.1 r8.1
    else
    fX11_something_39 r8.2 r6.1 r8.1
set_option maxRecDepth 100000 in
set_option maxHeartbeats 4000000 in
theorem tX11_something_49 {p : Program} {l : Launch} {e : Env} {s : State} {m : MethodId} {args : Array Value} {below : List Frame} {meth : Method} {c : Code} {g : GE} {B : Nat} {h : ST}  (F : Fx p s m args meth c cX11_something 3 "DustParishModel" 43 g B)
    {y : ST} (hr : meth.sig.returnType = none) (hf : fX11_something_49 h  = some y) : V p l e 4 0 s m args below meth c (MQ below (QO KM 43 g none y) args s 0 (6 * 0) (WA 43 g)) KM 43 g B 3 0 h 49 [] [] := by
  unfold fX11_something_49 at hf
  exact v_vret (pc := 49) F hr dX11_something_49 (Option.some.inj hf) (Nat.zero_le _)
set_option maxRecDepth 100000 in
set_option maxHeartbeats 4000000 in
theorem tX11_something_39 {p : Program} {l : Launch} {e : Env} {s : State} {m : MethodId} {args : Array Value} {below : List Frame} {meth : Method} {c : Code} {g : GE} {B : Nat} {h : ST}  {l1 : Int32} {l2 : Int32} (F : Fx p s m args meth c cX11_something 3 "DustParishModel" 43 g B)
    {y : ST} (hr : meth.sig.returnType = none) (hf : fX11_something_39 h l1 l2 = some y) : V p l e 4 0 s m args below meth c (MQ below (QO KM 43 g none y) args s 0 (6 * 0) (WA 43 g)) KM 43 g B 3 0 h 39 [(0, .ref (gA g 0)), (1, .int l1), (2, .int l2)] [] := by
  unfold fX11_something_39 at hf
  refine v_iload_n (pc := 39) (j := 2) F dX11_something_39 rfl rfl ?_
  refine v_iconst (pc := 40) (v := 1) F dX11_something_40 ic_1 ?_
  refine v_icmp_ne (pc := 41) (tgt := 49) F dX11_something_41 (by decide) (fun c11 => ?_) (fun c11 => ?_)
  · have hf := ite_f hf c11
    refine V.sub (lv' := []) [] rfl ?_
    exact tX11_something_49 F hr hf
  · have hf := ite_t hf c11
    refine v_aload_n (pc := 44) (j := 0) F dX11_something_44 rfl rfl ?_
    refine v_iload_n (pc := 45) (j := 1) F dX11_something_45 rfl rfl ?_
    obtain ⟨r12, e13, hf⟩ := bnd_some hf
    refine v_callVv (pc := 46) (As := [.int l1]) F cl_X11_481 dX11_something_46 (kX11_shakeFirst e13) km_0.1 km_0.2 rc_10 rfl rfl (Nat.le_of_ble_eq_true rfl) (by decide) (Nat.zero_le _) ?_
    refine V.sub (lv' := []) [] rfl ?_
    exact tX11_something_49 F hr hf
set_option maxRecDepth 100000 in
set_option maxHeartbeats 4000000 in
theorem kX11_something {l : Launch} {g : GE} {B : Nat} {h : ST} {y : ST} (hf : fX11_something h = some y) : CT l yX11_something cX11_something 3 none 4 KM 43 g B [.ref (gA g 0)] h none y := by
  refine CT.of pn_X11 (Nat.le_of_ble_eq_true rfl) ?_
  intro p e s m below meth c hr F
  have F : Fx p s m _ meth c cX11_something 3 "DustParishModel" 43 g B := F
  refine V_lv (lv' := [(0, .ref (gA g 0))]) rfl ?_
  unfold fX11_something at hf
  refine v_aload_n (pc := 0) (j := 0) F dX11_something_0 rfl rfl ?_
  refine v_ifl (pc := 1) F fl_X11_36 dX11_something_1 km_0.1 km_0.2 fv_10_3 ?_
  refine v_iconst (pc := 4) (v := 0) F dX11_something_4 ic_0 ?_
  obtain ⟨v1, e2, hf⟩ := bnd_some hf
  refine v_iald (pc := 5) F dX11_something_5 km_3.1 km_3.2 e2 ?_
  refine v_if_ne (pc := 6) (tgt := 10) F dX11_something_6 (by decide) (fun c3 => ?_) (fun c3 => ?_)
  · have hf := ite_f hf c3
    refine v_aload_n (pc := 10) (j := 0) F dX11_something_10 rfl rfl ?_
    refine v_aload_n (pc := 11) (j := 0) F dX11_something_11 rfl rfl ?_
    refine v_ifl (pc := 12) F fl_X11_36 dX11_something_12 km_0.1 km_0.2 fv_10_3 ?_
    refine v_iconst (pc := 15) (v := 0) F dX11_something_15 ic_0 ?_
    obtain ⟨v4, e5, hf⟩ := bnd_some hf
    refine v_iald (pc := 16) F dX11_something_16 km_3.1 km_3.2 e5 ?_
    obtain ⟨r6, e7, hf⟩ := bnd_some hf
    refine v_callVi (pc := 17) (As := [.int v4]) F cl_X11_478 dX11_something_17 (kX11_drawOf e7) km_0.1 km_0.2 rc_10 rfl rfl (Nat.le_of_ble_eq_true rfl) (by decide) (Nat.zero_le _) ?_
    refine v_istore_n (pc := 20) (lv' := [(0, .ref (gA g 0)), (1, .int r6.1)]) F dX11_something_20 rfl (by decide) rfl ?_
    refine v_aload_n (pc := 21) (j := 0) F dX11_something_21 rfl rfl ?_
    refine v_iconst (pc := 22) (v := 4) F dX11_something_22 ic_4 ?_
    obtain ⟨r8, e9, hf⟩ := bnd_some hf
    refine v_callVi (pc := 23) (As := [.int 4]) F cl_X11_478 dX11_something_23 (kX11_drawOf e9) km_0.1 km_0.2 rc_10 rfl rfl (Nat.le_of_ble_eq_true rfl) (by decide) (Nat.zero_le _) ?_
    refine v_istore_n (pc := 26) (lv' := [(0, .ref (gA g 0)), (1, .int r6.1), (2, .int r8.1)]) F dX11_something_26 rfl (by decide) rfl ?_
    refine v_iload_n (pc := 27) (j := 2) F dX11_something_27 rfl rfl ?_
    refine v_if_ne (pc := 28) (tgt := 39) F dX11_something_28 (by decide) (fun c10 => ?_) (fun c10 => ?_)
    · have hf := ite_f hf c10
      exact tX11_something_39 F hr hf
    · have hf := ite_t hf c10
      refine v_aload_n (pc := 31) (j := 0) F dX11_something_31 rfl rfl ?_
      refine v_iload_n (pc := 32) (j := 1) F dX11_something_32 rfl rfl ?_
      refine v_bipush (pc := 33) (v := 10) F dX11_something_33 bp_10 ?_
      obtain ⟨r14, e15, hf⟩ := bnd_some hf
      refine v_callVi (pc := 35) (As := [.int r6.1, .int 10]) F cl_X11_427 dX11_something_35 (kX11_steal e15) km_0.1 km_0.2 rc_10 rfl rfl (Nat.le_of_ble_eq_true rfl) (by decide) (Nat.zero_le _) ?_
      refine v_pop (pc := 38) F dX11_something_38 rfl ?_
      exact tX11_something_39 F hr hf
  · have hf := ite_t hf c3
    exact v_vret (pc := 9) F hr dX11_something_9 (Option.some.inj hf) (Nat.zero_le _)
def fX11_sweep_21 (h : ST)  : Option (Int32 × ST) :=
  bnd (fX11_fail h 1) fun r6 =>
  some (r6.1, r6.2)
def fX11_sweep_58 (h : ST)  : Option (Int32 × ST) :=
  bnd (fX11_refuse h 1) fun r14 =>
  some (r14.1, r14.2)
def fX11_sweep (h : ST) (a1 : Int32) (a2 : Int32) (a3 : Int32) : Option (Int32 × ST) :=
  bnd (pw h 0 2 0) fun h1 =>
  bnd (fX11_isRoom h1 a1) fun r3 =>
  if r3 = 0 then
  fX11_sweep_21 h1 
  else
  bnd (fX11_isRoom h1 a2) fun r8 =>
    if r8 = 0 then
    fX11_sweep_21 h1 
    else
    bnd (fX11_hasDoor h1 a1 a2) fun r11 =>
      if r11 = 0 then
      fX11_sweep_58 h1 
      else
      bnd (fX11_isIn h1 a3.toInt64 (1 : Int64) (999 : Int64)) fun r16 =>
        if r16 = 0 then
        fX11_sweep_58 h1 
        else
        bnd (rd 9 (h1 19) a1) fun v19 =>
          if a3 ≤ v19 then
          bnd (fX11_keep h1) fun r22 =>
            bnd (fX11_bring r22 a1 a2 a3) fun r24 =>
            bnd (rd 9 (r24 19) a1) fun v26 =>
            some (v26, r24)
          else
          fX11_sweep_58 h1 
set_option maxRecDepth 100000 in
set_option maxHeartbeats 4000000 in
theorem tX11_sweep_21 {p : Program} {l : Launch} {e : Env} {s : State} {m : MethodId} {args : Array Value} {below : List Frame} {meth : Method} {c : Code} {g : GE} {B : Nat} {h : ST}  (F : Fx p s m args meth c cX11_sweep 4 "DustParishModel" 43 g B)
    {y : Int32 × ST} (hr : meth.sig.returnType = (some .int)) (hf : fX11_sweep_21 h  = some y) : V p l e 3 0 s m args below meth c (MQ below (QO KM 43 g (some (.int y.1)) y.2) args s 0 (6 * 0) (WA 43 g)) KM 43 g B 4 0 h 21 [(0, .ref (gA g 0))] [] := by
  unfold fX11_sweep_21 at hf
  refine v_aload_n (pc := 21) (j := 0) F dX11_sweep_21 rfl rfl ?_
  refine v_iconst (pc := 22) (v := 1) F dX11_sweep_22 ic_1 ?_
  obtain ⟨r6, e7, hf⟩ := bnd_some hf
  refine v_callVi (pc := 23) (As := [.int 1]) F cl_X11_320 dX11_sweep_23 (kX11_fail e7) km_0.1 km_0.2 rc_10 rfl rfl (Nat.le_of_ble_eq_true rfl) (by decide) (Nat.zero_le _) ?_
  exact v_iret (pc := 26) F hr dX11_sweep_26 (some_fst hf) (some_snd hf) (Nat.zero_le _)
set_option maxRecDepth 100000 in
set_option maxHeartbeats 4000000 in
theorem tX11_sweep_58 {p : Program} {l : Launch} {e : Env} {s : State} {m : MethodId} {args : Array Value} {below : List Frame} {meth : Method} {c : Code} {g : GE} {B : Nat} {h : ST}  (F : Fx p s m args meth c cX11_sweep 4 "DustParishModel" 43 g B)
    {y : Int32 × ST} (hr : meth.sig.returnType = (some .int)) (hf : fX11_sweep_58 h  = some y) : V p l e 3 0 s m args below meth c (MQ below (QO KM 43 g (some (.int y.1)) y.2) args s 0 (6 * 0) (WA 43 g)) KM 43 g B 4 0 h 58 [(0, .ref (gA g 0))] [] := by
  unfold fX11_sweep_58 at hf
  refine v_aload_n (pc := 58) (j := 0) F dX11_sweep_58 rfl rfl ?_
  refine v_iconst (pc := 59) (v := 1) F dX11_sweep_59 ic_1 ?_
  obtain ⟨r14, e15, hf⟩ := bnd_some hf
  refine v_callVi (pc := 60) (As := [.int 1]) F cl_X11_409 dX11_sweep_60 (kX11_refuse e15) km_0.1 km_0.2 rc_10 rfl rfl (Nat.le_of_ble_eq_true rfl) (by decide) (Nat.zero_le _) ?_
  exact v_iret (pc := 63) F hr dX11_sweep_63 (some_fst hf) (some_snd hf) (Nat.zero_le _)
set_option maxRecDepth 100000 in
set_option maxHeartbeats 4000000 in
theorem kX11_sweep {l : Launch} {g : GE} {B : Nat} {h : ST} {a1 : Int32} {a2 : Int32} {a3 : Int32} {y : Int32 × ST} (hf : fX11_sweep h a1 a2 a3 = some y) : CT l yX11_sweep cX11_sweep 4 (some .int) 3 KM 43 g B [.ref (gA g 0), .int a1, .int a2, .int a3] h (some (.int y.1)) y.2 := by
  refine CT.of pn_X11 (Nat.le_of_ble_eq_true rfl) ?_
  intro p e s m below meth c hr F
  have F : Fx p s m _ meth c cX11_sweep 4 "DustParishModel" 43 g B := F
  refine V_lv (lv' := [(0, .ref (gA g 0)), (1, .int a1), (2, .int a2), (3, .int a3)]) rfl ?_
  unfold fX11_sweep at hf
  refine v_aload_n (pc := 0) (j := 0) F dX11_sweep_0 rfl rfl ?_
  refine v_iconst (pc := 1) (v := 0) F dX11_sweep_1 ic_0 ?_
  obtain ⟨h1, e2, hf⟩ := bnd_some hf
  refine v_pfl (pc := 2) F fl_X11_157 pl_10_2 dX11_sweep_2 km_0.1 km_0.2 fv_10_2 rfl rfl e2 ?_
  refine v_aload_n (pc := 5) (j := 0) F dX11_sweep_5 rfl rfl ?_
  refine v_iload_n (pc := 6) (j := 1) F dX11_sweep_6 rfl rfl ?_
  obtain ⟨r3, e4, hf⟩ := bnd_some hf
  refine v_callVi (pc := 7) (As := [.int a1]) F cl_X11_387 dX11_sweep_7 (kX11_isRoom e4) km_0.1 km_0.2 rc_10 rfl rfl (Nat.le_of_ble_eq_true rfl) (by decide) (Nat.zero_le _) ?_
  refine v_if_eq (pc := 10) (tgt := 21) F dX11_sweep_10 (by decide) (fun c5 => ?_) (fun c5 => ?_)
  · have hf := ite_t hf c5
    refine V.sub (lv' := [(0, .ref (gA g 0))]) [0] rfl ?_
    exact tX11_sweep_21 F hr hf
  · have hf := ite_f hf c5
    refine v_aload_n (pc := 13) (j := 0) F dX11_sweep_13 rfl rfl ?_
    refine v_iload_n (pc := 14) (j := 2) F dX11_sweep_14 rfl rfl ?_
    obtain ⟨r8, e9, hf⟩ := bnd_some hf
    refine v_callVi (pc := 15) (As := [.int a2]) F cl_X11_387 dX11_sweep_15 (kX11_isRoom e9) km_0.1 km_0.2 rc_10 rfl rfl (Nat.le_of_ble_eq_true rfl) (by decide) (Nat.zero_le _) ?_
    refine v_if_ne (pc := 18) (tgt := 27) F dX11_sweep_18 (by decide) (fun c10 => ?_) (fun c10 => ?_)
    · have hf := ite_f hf c10
      refine v_aload_n (pc := 27) (j := 0) F dX11_sweep_27 rfl rfl ?_
      refine v_iload_n (pc := 28) (j := 1) F dX11_sweep_28 rfl rfl ?_
      refine v_iload_n (pc := 29) (j := 2) F dX11_sweep_29 rfl rfl ?_
      obtain ⟨r11, e12, hf⟩ := bnd_some hf
      refine v_callVi (pc := 30) (As := [.int a1, .int a2]) F cl_X11_418 dX11_sweep_30 (kX11_hasDoor e12) km_0.1 km_0.2 rc_10 rfl rfl (Nat.le_of_ble_eq_true rfl) (by decide) (Nat.zero_le _) ?_
      refine v_if_eq (pc := 33) (tgt := 58) F dX11_sweep_33 (by decide) (fun c13 => ?_) (fun c13 => ?_)
      · have hf := ite_t hf c13
        refine V.sub (lv' := [(0, .ref (gA g 0))]) [0] rfl ?_
        exact tX11_sweep_58 F hr hf
      · have hf := ite_f hf c13
        refine v_iload_n (pc := 36) (j := 3) F dX11_sweep_36 rfl rfl ?_
        refine v_i2l (pc := 37) F dX11_sweep_37 rfl ?_
        refine v_lconst (pc := 38) (v := 1) F dX11_sweep_38 rfl ?_
        refine v_ldc2 (pc := 39) F tw_1732 dX11_sweep_39 ?_
        obtain ⟨r16, e17, hf⟩ := bnd_some hf
        refine v_callSi (pc := 42) (As := [.long a3.toInt64, .long (1 : Int64), .long (999 : Int64)]) F cl_X11_160 dX11_sweep_42 (kX11_isIn e17) rfl rfl (Nat.le_of_ble_eq_true rfl) (by decide) (Nat.zero_le _) ?_
        refine v_if_eq (pc := 45) (tgt := 58) F dX11_sweep_45 (by decide) (fun c18 => ?_) (fun c18 => ?_)
        · have hf := ite_t hf c18
          refine V.sub (lv' := [(0, .ref (gA g 0))]) [0] rfl ?_
          exact tX11_sweep_58 F hr hf
        · have hf := ite_f hf c18
          refine v_iload_n (pc := 48) (j := 3) F dX11_sweep_48 rfl rfl ?_
          refine v_aload_n (pc := 49) (j := 0) F dX11_sweep_49 rfl rfl ?_
          refine v_ifl (pc := 50) F fl_X11_87 dX11_sweep_50 km_0.1 km_0.2 fv_10_29 ?_
          refine v_iload_n (pc := 53) (j := 1) F dX11_sweep_53 rfl rfl ?_
          obtain ⟨v19, e20, hf⟩ := bnd_some hf
          refine v_iald (pc := 54) F dX11_sweep_54 km_19.1 km_19.2 e20 ?_
          refine v_icmp_le (pc := 55) (tgt := 64) F dX11_sweep_55 (by decide) (fun c21 => ?_) (fun c21 => ?_)
          · have hf := ite_t hf c21
            refine v_aload_n (pc := 64) (j := 0) F dX11_sweep_64 rfl rfl ?_
            obtain ⟨r22, e23, hf⟩ := bnd_some hf
            refine v_callVv (pc := 65) (As := []) F cl_X11_412 dX11_sweep_65 (kX11_keep e23) km_0.1 km_0.2 rc_10 rfl rfl (Nat.le_of_ble_eq_true rfl) (by decide) (Nat.zero_le _) ?_
            refine v_aload_n (pc := 68) (j := 0) F dX11_sweep_68 rfl rfl ?_
            refine v_iload_n (pc := 69) (j := 1) F dX11_sweep_69 rfl rfl ?_
            refine v_iload_n (pc := 70) (j := 2) F dX11_sweep_70 rfl rfl ?_
            refine v_iload_n (pc := 71) (j := 3) F dX11_sweep_71 rfl rfl ?_
            obtain ⟨r24, e25, hf⟩ := bnd_some hf
            refine v_callVv (pc := 72) (As := [.int a1, .int a2, .int a3]) F cl_X11_423 dX11_sweep_72 (kX11_bring e25) km_0.1 km_0.2 rc_10 rfl rfl (Nat.le_of_ble_eq_true rfl) (by decide) (Nat.zero_le _) ?_
            refine v_aload_n (pc := 75) (j := 0) F dX11_sweep_75 rfl rfl ?_
            refine v_ifl (pc := 76) F fl_X11_87 dX11_sweep_76 km_0.1 km_0.2 fv_10_29 ?_
            refine v_iload_n (pc := 79) (j := 1) F dX11_sweep_79 rfl rfl ?_
            obtain ⟨v26, e27, hf⟩ := bnd_some hf
            refine v_iald (pc := 80) F dX11_sweep_80 km_19.1 km_19.2 e27 ?_
            exact v_iret (pc := 81) F hr dX11_sweep_81 (some_fst hf) (some_snd hf) (Nat.zero_le _)
          · have hf := ite_f hf c21
            refine V.sub (lv' := [(0, .ref (gA g 0))]) [0] rfl ?_
            exact tX11_sweep_58 F hr hf
    · have hf := ite_t hf c10
      refine V.sub (lv' := [(0, .ref (gA g 0))]) [0] rfl ?_
      exact tX11_sweep_21 F hr hf
