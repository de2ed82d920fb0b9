def fX11_isMark_59 (h : ST) (q0 : Int32) : Option (Int32) :=
  bnd (zb q0) fun z2 =>
  some z2
def fX11_isMark_54 (h : ST)  : Option (Int32) :=
  fX11_isMark_59 h 1
def fX11_isMark (h : ST) (a1 : Int32) : Option (Int32) :=
  if a1 = 59 then
  fX11_isMark_54 h 
  else
  if a1 = 40 then
    fX11_isMark_54 h 
    else
    if a1 = 41 then
      fX11_isMark_54 h 
      else
      if a1 = 43 then
        fX11_isMark_54 h 
        else
        if a1 = 45 then
          fX11_isMark_54 h 
          else
          if a1 = 42 then
            fX11_isMark_54 h 
            else
            if a1 = 47 then
              fX11_isMark_54 h 
              else
              if a1 = 60 then
                fX11_isMark_54 h 
                else
                if a1 = 61 then
                  fX11_isMark_54 h 
                  else
                  fX11_isMark_59 h 0
set_option maxRecDepth 100000 in
set_option maxHeartbeats 4000000 in
theorem tX11_isMark_59 {p : Program} {l : Launch} {e : Env} {s : State} {m : MethodId} {args : Array Value} {below : List Frame} {meth : Method} {c : Code} {g : GE} {B : Nat} {h : ST}  {q0 : Int32} (F : Fx p s m args meth c cX11_isMark 1 "DustParishModel" 43 g B)
    {y : Int32} (hr : meth.sig.returnType = (some .boolean)) (hf : fX11_isMark_59 h q0 = some y) : V p l e 1 0 s m args below meth c (MQ below (QO KM 43 g (some (.int y)) h) args s 0 (6 * 0) (WA 43 g)) KM 43 g B 1 0 h 59 [] [.int q0] := by
  unfold fX11_isMark_59 at hf
  obtain ⟨z2, e3, hf⟩ := bnd_some hf
  exact v_zret (pc := 59) F hr dX11_isMark_59 (zb_in e3).2 ((zb_in e3).1.symm.trans (Option.some.inj hf)) rfl (Nat.zero_le _)
set_option maxRecDepth 100000 in
set_option maxHeartbeats 4000000 in
theorem tX11_isMark_54 {p : Program} {l : Launch} {e : Env} {s : State} {m : MethodId} {args : Array Value} {below : List Frame} {meth : Method} {c : Code} {g : GE} {B : Nat} {h : ST}  (F : Fx p s m args meth c cX11_isMark 1 "DustParishModel" 43 g B)
    {y : Int32} (hr : meth.sig.returnType = (some .boolean)) (hf : fX11_isMark_54 h  = some y) : V p l e 1 0 s m args below meth c (MQ below (QO KM 43 g (some (.int y)) h) args s 0 (6 * 0) (WA 43 g)) KM 43 g B 1 0 h 54 [] [] := by
  unfold fX11_isMark_54 at hf
  refine v_iconst (pc := 54) (v := 1) F dX11_isMark_54 ic_1 ?_
  refine v_goto (pc := 55) (tgt := 59) F dX11_isMark_55 (by decide) ?_
  exact tX11_isMark_59 F hr hf
set_option maxRecDepth 100000 in
set_option maxHeartbeats 4000000 in
theorem kX11_isMark {l : Launch} {g : GE} {B : Nat} {h : ST} {a1 : Int32} {y : Int32} (hf : fX11_isMark h a1 = some y) : CT l yX11_isMark cX11_isMark 1 (some .boolean) 1 KM 43 g B [.int a1] h (some (.int y)) h := by
  refine CT.of pn_X11 (Nat.le_of_ble_eq_true rfl) ?_
  intro p e s m below meth c hr F
  have F : Fx p s m _ meth c cX11_isMark 1 "DustParishModel" 43 g B := F
  refine V_lv (lv' := [(0, .int a1)]) rfl ?_
  unfold fX11_isMark at hf
  refine v_iload_n (pc := 0) (j := 0) F dX11_isMark_0 rfl rfl ?_
  refine v_bipush (pc := 1) (v := 59) F dX11_isMark_1 bp_59 ?_
  refine v_icmp_eq (pc := 3) (tgt := 54) F dX11_isMark_3 (by decide) (fun c1 => ?_) (fun c1 => ?_)
  · have hf := ite_t hf c1
    refine V.sub (lv' := []) [] rfl ?_
    exact tX11_isMark_54 F hr hf
  · have hf := ite_f hf c1
    refine v_iload_n (pc := 6) (j := 0) F dX11_isMark_6 rfl rfl ?_
    refine v_bipush (pc := 7) (v := 40) F dX11_isMark_7 bp_40 ?_
    refine v_icmp_eq (pc := 9) (tgt := 54) F dX11_isMark_9 (by decide) (fun c4 => ?_) (fun c4 => ?_)
    · have hf := ite_t hf c4
      refine V.sub (lv' := []) [] rfl ?_
      exact tX11_isMark_54 F hr hf
    · have hf := ite_f hf c4
      refine v_iload_n (pc := 12) (j := 0) F dX11_isMark_12 rfl rfl ?_
      refine v_bipush (pc := 13) (v := 41) F dX11_isMark_13 bp_41 ?_
      refine v_icmp_eq (pc := 15) (tgt := 54) F dX11_isMark_15 (by decide) (fun c5 => ?_) (fun c5 => ?_)
      · have hf := ite_t hf c5
        refine V.sub (lv' := []) [] rfl ?_
        exact tX11_isMark_54 F hr hf
      · have hf := ite_f hf c5
        refine v_iload_n (pc := 18) (j := 0) F dX11_isMark_18 rfl rfl ?_
        refine v_bipush (pc := 19) (v := 43) F dX11_isMark_19 bp_43 ?_
        refine v_icmp_eq (pc := 21) (tgt := 54) F dX11_isMark_21 (by decide) (fun c6 => ?_) (fun c6 => ?_)
        · have hf := ite_t hf c6
          refine V.sub (lv' := []) [] rfl ?_
          exact tX11_isMark_54 F hr hf
        · have hf := ite_f hf c6
          refine v_iload_n (pc := 24) (j := 0) F dX11_isMark_24 rfl rfl ?_
          refine v_bipush (pc := 25) (v := 45) F dX11_isMark_25 bp_45 ?_
          refine v_icmp_eq (pc := 27) (tgt := 54) F dX11_isMark_27 (by decide) (fun c7 => ?_) (fun c7 => ?_)
          · have hf := ite_t hf c7
            refine V.sub (lv' := []) [] rfl ?_
            exact tX11_isMark_54 F hr hf
          · have hf := ite_f hf c7
            refine v_iload_n (pc := 30) (j := 0) F dX11_isMark_30 rfl rfl ?_
            refine v_bipush (pc := 31) (v := 42) F dX11_isMark_31 bp_42 ?_
            refine v_icmp_eq (pc := 33) (tgt := 54) F dX11_isMark_33 (by decide) (fun c8 => ?_) (fun c8 => ?_)
            · have hf := ite_t hf c8
              refine V.sub (lv' := []) [] rfl ?_
              exact tX11_isMark_54 F hr hf
            · have hf := ite_f hf c8
              refine v_iload_n (pc := 36) (j := 0) F dX11_isMark_36 rfl rfl ?_
              refine v_bipush (pc := 37) (v := 47) F dX11_isMark_37 bp_47 ?_
              refine v_icmp_eq (pc := 39) (tgt := 54) F dX11_isMark_39 (by decide) (fun c9 => ?_) (fun c9 => ?_)
              · have hf := ite_t hf c9
                refine V.sub (lv' := []) [] rfl ?_
                exact tX11_isMark_54 F hr hf
              · have hf := ite_f hf c9
                refine v_iload_n (pc := 42) (j := 0) F dX11_isMark_42 rfl rfl ?_
                refine v_bipush (pc := 43) (v := 60) F dX11_isMark_43 bp_60 ?_
                refine v_icmp_eq (pc := 45) (tgt := 54) F dX11_isMark_45 (by decide) (fun c10 => ?_) (fun c10 => ?_)
                · have hf := ite_t hf c10
                  refine V.sub (lv' := []) [] rfl ?_
                  exact tX11_isMark_54 F hr hf
                · have hf := ite_f hf c10
                  refine v_iload_n (pc := 48) (j := 0) F dX11_isMark_48 rfl rfl ?_
                  refine v_bipush (pc := 49) (v := 61) F dX11_isMark_49 bp_61 ?_
                  refine v_icmp_ne (pc := 51) (tgt := 58) F dX11_isMark_51 (by decide) (fun c11 => ?_) (fun c11 => ?_)
                  · have hf := ite_f hf c11
                    refine v_iconst (pc := 58) (v := 0) F dX11_isMark_58 ic_0 ?_
                    refine V.sub (lv' := []) [] rfl ?_
                    exact tX11_isMark_59 F hr hf
                  · have hf := ite_t hf c11
                    refine V.sub (lv' := []) [] rfl ?_
                    exact tX11_isMark_54 F hr hf
def fX11_stepOn_26 (h : ST)  : Option (ST ⊕ ST) :=
  bnd (pw h 0 20 ((h 0 20) + 1)) fun h4 =>
  some (.inl h4)
def fX11_stepOn_0 (s1 : ST) : Option (ST ⊕ ST) :=
  bnd (fX11_byteAt s1 (s1 0 20)) fun r1 =>
  if r1 = 32 then
  fX11_stepOn_26 s1 
  else
  bnd (fX11_byteAt s1 (s1 0 20)) fun r6 =>
    if r6 = 10 then
    fX11_stepOn_26 s1 
    else
    some (.inr s1)
def fX11_stepOn_212 (h : ST)  : Option (ST) :=
  bnd (pw h 0 25 (h 0 20)) fun h29 =>
  some h29
def fX11_stepOn_209 (h : ST) (q1 : Int32) : Option (ST) :=
  bnd (pw h 0 22 q1) fun h27 =>
  fX11_stepOn_212 h27 
def fX11_stepOn_123 (s1 : ST) : Option (ST ⊕ ST) :=
  bnd (fX11_byteAt s1 (s1 0 20)) fun r33 =>
  bnd (fX11_isDigit s1 r33) fun r35 =>
  if r35 = 0 then
  some (.inr s1)
  else
  bnd (fX11_byteAt s1 (s1 0 20)) fun r38 =>
    bnd (pw s1 0 23 (if (((10 * (s1 0 23)) + r38) - 48) < 100000 then (((10 * (s1 0 23)) + r38) - 48) else 100000)) fun h40 =>
    bnd (pw h40 0 20 ((h40 0 20) + 1)) fun h42 =>
    some (.inl h42)
def fX11_stepOn_76 (s1 : ST) : Option (ST ⊕ ST) :=
  bnd (fX11_byteAt s1 (s1 0 20)) fun r48 =>
  bnd (fX11_isLetter s1 r48) fun r50 =>
  if r50 = 0 then
  some (.inr s1)
  else
  bnd (pw s1 0 20 ((s1 0 20) + 1)) fun h53 =>
    some (.inl h53)
def fX11_stepOn (h : ST) : Option (ST) :=
  bnd (lp FU (fX11_stepOn_0) h) fun x9 =>
  bnd (pw x9 0 24 (x9 0 20)) fun h11 =>
  bnd (fX11_byteAt h11 (h11 0 20)) fun r13 =>
  if r13 = (-1) then
  bnd (pw h11 0 22 0) fun h59 =>
    fX11_stepOn_212 h59 
  else
  bnd (fX11_isLetter h11 r13) fun r16 =>
    if r16 = 0 then
    bnd (fX11_isDigit h11 r13) fun r19 =>
      if r19 = 0 then
      bnd (pw h11 0 20 ((h11 0 20) + 1)) fun h22 =>
        bnd (fX11_isMark h22 r13) fun r24 =>
        if r24 = 0 then
        fX11_stepOn_209 h22 4
        else
        fX11_stepOn_209 h22 3
      else
      bnd (pw h11 0 23 0) fun h31 =>
        bnd (lp FU (fX11_stepOn_123) h31) fun x44 =>
        bnd (pw x44 0 22 2) fun h46 =>
        fX11_stepOn_212 h46 
    else
    bnd (lp FU (fX11_stepOn_76) h11) fun x55 =>
      bnd (pw x55 0 22 1) fun h57 =>
      fX11_stepOn_212 h57 
set_option maxRecDepth 100000 in
set_option maxHeartbeats 4000000 in
theorem tX11_stepOn_26 {p : Program} {l : Launch} {e : Env} {s : State} {m : MethodId} {args : Array Value} {below : List Frame} {meth : Method} {c : Code} {g : GE} {B : Nat} {h : ST}  (F : Fx p s m args meth c cX11_stepOn 2 "DustParishModel" 43 g B)
    {Q : State → Prop} {y : ST ⊕ ST} (hk : ∀ v : ST, y = Sum.inl v → V p l e 2 0 s m args below meth c Q KM 43 g B 2 0 v 0 [(0, .ref (gA g 0))] []) (hx0 : ∀ v : ST, y = Sum.inr v → V p l e 2 0 s m args below meth c Q KM 43 g B 2 0 v 39 [(0, .ref (gA g 0))] []) (hf : fX11_stepOn_26 h  = some y) : V p l e 2 0 s m args below meth c Q KM 43 g B 2 0 h 26 [(0, .ref (gA g 0))] [] := by
  unfold fX11_stepOn_26 at hf
  refine v_aload_n (pc := 26) (j := 0) F dX11_stepOn_26 rfl rfl ?_
  refine v_dup (pc := 27) F dX11_stepOn_27 rfl ?_
  refine v_ifl (pc := 28) F fl_X11_172 dX11_stepOn_28 km_0.1 km_0.2 fv_10_20 ?_
  refine v_iconst (pc := 31) (v := 1) F dX11_stepOn_31 ic_1 ?_
  refine v_iadd (pc := 32) F dX11_stepOn_32 ?_
  obtain ⟨h4, e5, hf⟩ := bnd_some hf
  refine v_pfl (pc := 33) F fl_X11_172 pl_10_20 dX11_stepOn_33 km_0.1 km_0.2 fv_10_20 rfl rfl e5 ?_
  refine v_goto (pc := 36) (tgt := 0) F dX11_stepOn_36 (by decide) ?_
  exact hk h4 (Option.some.inj hf).symm
set_option maxRecDepth 100000 in
set_option maxHeartbeats 4000000 in
theorem tX11_stepOn_0 {p : Program} {l : Launch} {e : Env} {s : State} {m : MethodId} {args : Array Value} {below : List Frame} {meth : Method} {c : Code} {g : GE} {B : Nat}   {Q : State → Prop} {x : ST} {nf : Nat} {s0 : ST} (F : Fx p s m args meth c cX11_stepOn 2 "DustParishModel" 43 g B) (hX0 : V p l e 2 0 s m args below meth c Q KM 43 g B 2 0 x 39 [(0, .ref (gA g 0))] []) (hl : lp nf (fX11_stepOn_0) s0 = some x) : V p l e 2 0 s m args below meth c Q KM 43 g B 2 0 s0 0 [(0, .ref (gA g 0))] [] := by
  refine lp_ind (P := fun s0 => V p l e 2 0 s m args below meth c Q KM 43 g B 2 0 s0 0 [(0, .ref (gA g 0))] []) ?_ nf s0 hl
  intro s1 y hf hk hx
  have hx0 : ∀ v : ST, y = Sum.inr v → V p l e 2 0 s m args below meth c Q KM 43 g B 2 0 v 39 [(0, .ref (gA g 0))] [] := fun v e9 => by rw [hx v e9]; exact hX0
  unfold fX11_stepOn_0 at hf
  refine v_aload_n (pc := 0) (j := 0) F dX11_stepOn_0 rfl rfl ?_
  refine v_aload_n (pc := 1) (j := 0) F dX11_stepOn_1 rfl rfl ?_
  refine v_ifl (pc := 2) F fl_X11_172 dX11_stepOn_2 km_0.1 km_0.2 fv_10_20 ?_
  obtain ⟨r1, e2, hf⟩ := bnd_some hf
  refine v_callVi (pc := 5) (As := [.int (s1 0 20)]) F cl_X11_175 dX11_stepOn_5 (kX11_byteAt e2) km_0.1 km_0.2 rc_10 rfl rfl (Nat.le_of_ble_eq_true rfl) (by decide) (Nat.zero_le _) ?_
  refine v_bipush (pc := 8) (v := 32) F dX11_stepOn_8 bp_32 ?_
  refine v_icmp_eq (pc := 10) (tgt := 26) F dX11_stepOn_10 (by decide) (fun c3 => ?_) (fun c3 => ?_)
  · have hf := ite_t hf c3
    exact tX11_stepOn_26 F hk hx0 hf
  · have hf := ite_f hf c3
    refine v_aload_n (pc := 13) (j := 0) F dX11_stepOn_13 rfl rfl ?_
    refine v_aload_n (pc := 14) (j := 0) F dX11_stepOn_14 rfl rfl ?_
    refine v_ifl (pc := 15) F fl_X11_172 dX11_stepOn_15 km_0.1 km_0.2 fv_10_20 ?_
    obtain ⟨r6, e7, hf⟩ := bnd_some hf
    refine v_callVi (pc := 18) (As := [.int (s1 0 20)]) F cl_X11_175 dX11_stepOn_18 (kX11_byteAt e7) km_0.1 km_0.2 rc_10 rfl rfl (Nat.le_of_ble_eq_true rfl) (by decide) (Nat.zero_le _) ?_
    refine v_bipush (pc := 21) (v := 10) F dX11_stepOn_21 bp_10 ?_
    refine v_icmp_ne (pc := 23) (tgt := 39) F dX11_stepOn_23 (by decide) (fun c8 => ?_) (fun c8 => ?_)
    · have hf := ite_f hf c8
      exact hx0 s1 (Option.some.inj hf).symm
    · have hf := ite_t hf c8
      exact tX11_stepOn_26 F hk hx0 hf
set_option maxRecDepth 100000 in
set_option maxHeartbeats 4000000 in
theorem tX11_stepOn_212 {p : Program} {l : Launch} {e : Env} {s : State} {m : MethodId} {args : Array Value} {below : List Frame} {meth : Method} {c : Code} {g : GE} {B : Nat} {h : ST}  (F : Fx p s m args meth c cX11_stepOn 2 "DustParishModel" 43 g B)
    {y : ST} (hr : meth.sig.returnType = none) (hf : fX11_stepOn_212 h  = some y) : V p l e 2 0 s m args below meth c (MQ below (QO KM 43 g none y) args s 0 (6 * 0) (WA 43 g)) KM 43 g B 2 0 h 212 [(0, .ref (gA g 0))] [] := by
  unfold fX11_stepOn_212 at hf
  refine v_aload_n (pc := 212) (j := 0) F dX11_stepOn_212 rfl rfl ?_
  refine v_aload_n (pc := 213) (j := 0) F dX11_stepOn_213 rfl rfl ?_
  refine v_ifl (pc := 214) F fl_X11_172 dX11_stepOn_214 km_0.1 km_0.2 fv_10_20 ?_
  obtain ⟨h29, e30, hf⟩ := bnd_some hf
  refine v_pfl (pc := 217) F fl_X11_205 pl_10_25 dX11_stepOn_217 km_0.1 km_0.2 fv_10_25 rfl rfl e30 ?_
  exact v_vret (pc := 220) F hr dX11_stepOn_220 (Option.some.inj hf) (Nat.zero_le _)
set_option maxRecDepth 100000 in
set_option maxHeartbeats 4000000 in
theorem tX11_stepOn_209 {p : Program} {l : Launch} {e : Env} {s : State} {m : MethodId} {args : Array Value} {below : List Frame} {meth : Method} {c : Code} {g : GE} {B : Nat} {h : ST}  {q1 : Int32} (F : Fx p s m args meth c cX11_stepOn 2 "DustParishModel" 43 g B)
    {y : ST} (hr : meth.sig.returnType = none) (hf : fX11_stepOn_209 h q1 = some y) : V p l e 2 0 s m args below meth c (MQ below (QO KM 43 g none y) args s 0 (6 * 0) (WA 43 g)) KM 43 g B 2 0 h 209 [(0, .ref (gA g 0))] [.int q1, .ref (gA g 0)] := by
  unfold fX11_stepOn_209 at hf
  obtain ⟨h27, e28, hf⟩ := bnd_some hf
  refine v_pfl (pc := 209) F fl_X11_182 pl_10_22 dX11_stepOn_209 km_0.1 km_0.2 fv_10_22 rfl rfl e28 ?_
  exact tX11_stepOn_212 F hr hf
set_option maxRecDepth 100000 in
set_option maxHeartbeats 4000000 in
theorem tX11_stepOn_123 {p : Program} {l : Launch} {e : Env} {s : State} {m : MethodId} {args : Array Value} {below : List Frame} {meth : Method} {c : Code} {g : GE} {B : Nat}   {Q : State → Prop} {x : ST} {nf : Nat} {s0 : ST} (F : Fx p s m args meth c cX11_stepOn 2 "DustParishModel" 43 g B) (hX0 : V p l e 2 0 s m args below meth c Q KM 43 g B 2 0 x 178 [(0, .ref (gA g 0))] []) (hl : lp nf (fX11_stepOn_123) s0 = some x) : V p l e 2 0 s m args below meth c Q KM 43 g B 2 0 s0 123 [(0, .ref (gA g 0))] [] := by
  refine lp_ind (P := fun s0 => V p l e 2 0 s m args below meth c Q KM 43 g B 2 0 s0 123 [(0, .ref (gA g 0))] []) ?_ nf s0 hl
  intro s1 y hf hk hx
  have hx0 : ∀ v : ST, y = Sum.inr v → V p l e 2 0 s m args below meth c Q KM 43 g B 2 0 v 178 [(0, .ref (gA g 0))] [] := fun v e9 => by rw [hx v e9]; exact hX0
  unfold fX11_stepOn_123 at hf
  refine v_aload_n (pc := 123) (j := 0) F dX11_stepOn_123 rfl rfl ?_
  refine v_aload_n (pc := 124) (j := 0) F dX11_stepOn_124 rfl rfl ?_
  refine v_ifl (pc := 125) F fl_X11_172 dX11_stepOn_125 km_0.1 km_0.2 fv_10_20 ?_
  obtain ⟨r33, e34, hf⟩ := bnd_some hf
  refine v_callVi (pc := 128) (As := [.int (s1 0 20)]) F cl_X11_175 dX11_stepOn_128 (kX11_byteAt e34) km_0.1 km_0.2 rc_10 rfl rfl (Nat.le_of_ble_eq_true rfl) (by decide) (Nat.zero_le _) ?_
  obtain ⟨r35, e36, hf⟩ := bnd_some hf
  refine v_callSi (pc := 131) (As := [.int r33]) F cl_X11_189 dX11_stepOn_131 (kX11_isDigit e36) rfl rfl (Nat.le_of_ble_eq_true rfl) (by decide) (Nat.zero_le _) ?_
  refine v_if_eq (pc := 134) (tgt := 178) F dX11_stepOn_134 (by decide) (fun c37 => ?_) (fun c37 => ?_)
  · have hf := ite_t hf c37
    exact hx0 s1 (Option.some.inj hf).symm
  · have hf := ite_f hf c37
    refine v_aload_n (pc := 137) (j := 0) F dX11_stepOn_137 rfl rfl ?_
    refine v_ldc (pc := 138) F tw_1489 dX11_stepOn_138 ?_
    refine v_bipush (pc := 140) (v := 10) F dX11_stepOn_140 bp_10 ?_
    refine v_aload_n (pc := 142) (j := 0) F dX11_stepOn_142 rfl rfl ?_
    refine v_ifl (pc := 143) F fl_X11_192 dX11_stepOn_143 km_0.1 km_0.2 fv_10_23 ?_
    refine v_imul (pc := 146) F dX11_stepOn_146 ?_
    refine v_aload_n (pc := 147) (j := 0) F dX11_stepOn_147 rfl rfl ?_
    refine v_aload_n (pc := 148) (j := 0) F dX11_stepOn_148 rfl rfl ?_
    refine v_ifl (pc := 149) F fl_X11_172 dX11_stepOn_149 km_0.1 km_0.2 fv_10_20 ?_
    obtain ⟨r38, e39, hf⟩ := bnd_some hf
    refine v_callVi (pc := 152) (As := [.int (s1 0 20)]) F cl_X11_175 dX11_stepOn_152 (kX11_byteAt e39) km_0.1 km_0.2 rc_10 rfl rfl (Nat.le_of_ble_eq_true rfl) (by decide) (Nat.zero_le _) ?_
    refine v_iadd (pc := 155) F dX11_stepOn_155 ?_
    refine v_bipush (pc := 156) (v := 48) F dX11_stepOn_156 bp_48 ?_
    refine v_isub (pc := 158) F dX11_stepOn_158 ?_
    refine v_mmin (pc := 159) F tw_1490 mminW dX11_stepOn_159 (by decide) (Nat.le_of_ble_eq_true rfl) (Nat.zero_le _) ?_
    obtain ⟨h40, e41, hf⟩ := bnd_some hf
    refine v_pfl (pc := 162) F fl_X11_192 pl_10_23 dX11_stepOn_162 km_0.1 km_0.2 fv_10_23 rfl rfl e41 ?_
    refine v_aload_n (pc := 165) (j := 0) F dX11_stepOn_165 rfl rfl ?_
    refine v_dup (pc := 166) F dX11_stepOn_166 rfl ?_
    refine v_ifl (pc := 167) F fl_X11_172 dX11_stepOn_167 km_0.1 km_0.2 fv_10_20 ?_
    refine v_iconst (pc := 170) (v := 1) F dX11_stepOn_170 ic_1 ?_
    refine v_iadd (pc := 171) F dX11_stepOn_171 ?_
    obtain ⟨h42, e43, hf⟩ := bnd_some hf
    refine v_pfl (pc := 172) F fl_X11_172 pl_10_20 dX11_stepOn_172 km_0.1 km_0.2 fv_10_20 rfl rfl e43 ?_
    refine v_goto (pc := 175) (tgt := 123) F dX11_stepOn_175 (by decide) ?_
    exact hk h42 (Option.some.inj hf).symm
set_option maxRecDepth 100000 in
set_option maxHeartbeats 4000000 in
theorem tX11_stepOn_76 {p : Program} {l : Launch} {e : Env} {s : State} {m : MethodId} {args : Array Value} {below : List Frame} {meth : Method} {c : Code} {g : GE} {B : Nat}   {Q : State → Prop} {x : ST} {nf : Nat} {s0 : ST} (F : Fx p s m args meth c cX11_stepOn 2 "DustParishModel" 43 g B) (hX0 : V p l e 2 0 s m args below meth c Q KM 43 g B 2 0 x 103 [(0, .ref (gA g 0))] []) (hl : lp nf (fX11_stepOn_76) s0 = some x) : V p l e 2 0 s m args below meth c Q KM 43 g B 2 0 s0 76 [(0, .ref (gA g 0))] [] := by
  refine lp_ind (P := fun s0 => V p l e 2 0 s m args below meth c Q KM 43 g B 2 0 s0 76 [(0, .ref (gA g 0))] []) ?_ nf s0 hl
  intro s1 y hf hk hx
  have hx0 : ∀ v : ST, y = Sum.inr v → V p l e 2 0 s m args below meth c Q KM 43 g B 2 0 v 103 [(0, .ref (gA g 0))] [] := fun v e9 => by rw [hx v e9]; exact hX0
  unfold fX11_stepOn_76 at hf
  refine v_aload_n (pc := 76) (j := 0) F dX11_stepOn_76 rfl rfl ?_
  refine v_aload_n (pc := 77) (j := 0) F dX11_stepOn_77 rfl rfl ?_
  refine v_ifl (pc := 78) F fl_X11_172 dX11_stepOn_78 km_0.1 km_0.2 fv_10_20 ?_
  obtain ⟨r48, e49, hf⟩ := bnd_some hf
  refine v_callVi (pc := 81) (As := [.int (s1 0 20)]) F cl_X11_175 dX11_stepOn_81 (kX11_byteAt e49) km_0.1 km_0.2 rc_10 rfl rfl (Nat.le_of_ble_eq_true rfl) (by decide) (Nat.zero_le _) ?_
  obtain ⟨r50, e51, hf⟩ := bnd_some hf
  refine v_callSi (pc := 84) (As := [.int r48]) F cl_X11_185 dX11_stepOn_84 (kX11_isLetter e51) rfl rfl (Nat.le_of_ble_eq_true rfl) (by decide) (Nat.zero_le _) ?_
  refine v_if_eq (pc := 87) (tgt := 103) F dX11_stepOn_87 (by decide) (fun c52 => ?_) (fun c52 => ?_)
  · have hf := ite_t hf c52
    exact hx0 s1 (Option.some.inj hf).symm
  · have hf := ite_f hf c52
    refine v_aload_n (pc := 90) (j := 0) F dX11_stepOn_90 rfl rfl ?_
    refine v_dup (pc := 91) F dX11_stepOn_91 rfl ?_
    refine v_ifl (pc := 92) F fl_X11_172 dX11_stepOn_92 km_0.1 km_0.2 fv_10_20 ?_
    refine v_iconst (pc := 95) (v := 1) F dX11_stepOn_95 ic_1 ?_
    refine v_iadd (pc := 96) F dX11_stepOn_96 ?_
    obtain ⟨h53, e54, hf⟩ := bnd_some hf
    refine v_pfl (pc := 97) F fl_X11_172 pl_10_20 dX11_stepOn_97 km_0.1 km_0.2 fv_10_20 rfl rfl e54 ?_
    refine v_goto (pc := 100) (tgt := 76) F dX11_stepOn_100 (by decide) ?_
    exact hk h53 (Option.some.inj hf).symm
set_option maxRecDepth 100000 in
set_option maxHeartbeats 4000000 in
theorem kX11_stepOn {l : Launch} {g : GE} {B : Nat} {h : ST} {y : ST} (hf : fX11_stepOn h = some y) : CT l yX11_stepOn cX11_stepOn 2 none 2 KM 43 g B [.ref (gA g 0)] h none y := by
  refine CT.of pn_X11 (Nat.le_of_ble_eq_true rfl) ?_
  intro p e s m below meth c hr F
  have F : Fx p s m _ meth c cX11_stepOn 2 "DustParishModel" 43 g B := F
  refine V_lv (lv' := [(0, .ref (gA g 0))]) rfl ?_
  unfold fX11_stepOn at hf
  obtain ⟨x9, e10, hf⟩ := bnd_some hf
  refine tX11_stepOn_0 (s0 := h) F ?_ e10
  refine v_aload_n (pc := 39) (j := 0) F dX11_stepOn_39 rfl rfl ?_
  refine v_aload_n (pc := 40) (j := 0) F dX11_stepOn_40 rfl rfl ?_
  refine v_ifl (pc := 41) F fl_X11_172 dX11_stepOn_41 km_0.1 km_0.2 fv_10_20 ?_
  obtain ⟨h11, e12, hf⟩ := bnd_some hf
  refine v_pfl (pc := 44) F fl_X11_179 pl_10_24 dX11_stepOn_44 km_0.1 km_0.2 fv_10_24 rfl rfl e12 ?_
  refine v_aload_n (pc := 47) (j := 0) F dX11_stepOn_47 rfl rfl ?_
  refine v_aload_n (pc := 48) (j := 0) F dX11_stepOn_48 rfl rfl ?_
  refine v_ifl (pc := 49) F fl_X11_172 dX11_stepOn_49 km_0.1 km_0.2 fv_10_20 ?_
  obtain ⟨r13, e14, hf⟩ := bnd_some hf
  refine v_callVi (pc := 52) (As := [.int (h11 0 20)]) F cl_X11_175 dX11_stepOn_52 (kX11_byteAt e14) km_0.1 km_0.2 rc_10 rfl rfl (Nat.le_of_ble_eq_true rfl) (by decide) (Nat.zero_le _) ?_
  refine v_istore_n (pc := 55) (lv' := [(0, .ref (gA g 0)), (1, .int r13)]) F dX11_stepOn_55 rfl (by decide) rfl ?_
  refine v_iload_n (pc := 56) (j := 1) F dX11_stepOn_56 rfl rfl ?_
  refine v_iconst (pc := 57) (v := (-1)) F dX11_stepOn_57 ic_m1 ?_
  refine v_icmp_ne (pc := 58) (tgt := 69) F dX11_stepOn_58 (by decide) (fun c15 => ?_) (fun c15 => ?_)
  · have hf := ite_f hf c15
    refine v_iload_n (pc := 69) (j := 1) F dX11_stepOn_69 rfl rfl ?_
    obtain ⟨r16, e17, hf⟩ := bnd_some hf
    refine v_callSi (pc := 70) (As := [.int r13]) F cl_X11_185 dX11_stepOn_70 (kX11_isLetter e17) rfl rfl (Nat.le_of_ble_eq_true rfl) (by decide) (Nat.zero_le _) ?_
    refine v_if_eq (pc := 73) (tgt := 111) F dX11_stepOn_73 (by decide) (fun c18 => ?_) (fun c18 => ?_)
    · have hf := ite_t hf c18
      refine v_iload_n (pc := 111) (j := 1) F dX11_stepOn_111 rfl rfl ?_
      obtain ⟨r19, e20, hf⟩ := bnd_some hf
      refine v_callSi (pc := 112) (As := [.int r13]) F cl_X11_189 dX11_stepOn_112 (kX11_isDigit e20) rfl rfl (Nat.le_of_ble_eq_true rfl) (by decide) (Nat.zero_le _) ?_
      refine v_if_eq (pc := 115) (tgt := 186) F dX11_stepOn_115 (by decide) (fun c21 => ?_) (fun c21 => ?_)
      · have hf := ite_t hf c21
        refine v_aload_n (pc := 186) (j := 0) F dX11_stepOn_186 rfl rfl ?_
        refine v_dup (pc := 187) F dX11_stepOn_187 rfl ?_
        refine v_ifl (pc := 188) F fl_X11_172 dX11_stepOn_188 km_0.1 km_0.2 fv_10_20 ?_
        refine v_iconst (pc := 191) (v := 1) F dX11_stepOn_191 ic_1 ?_
        refine v_iadd (pc := 192) F dX11_stepOn_192 ?_
        obtain ⟨h22, e23, hf⟩ := bnd_some hf
        refine v_pfl (pc := 193) F fl_X11_172 pl_10_20 dX11_stepOn_193 km_0.1 km_0.2 fv_10_20 rfl rfl e23 ?_
        refine v_aload_n (pc := 196) (j := 0) F dX11_stepOn_196 rfl rfl ?_
        refine v_iload_n (pc := 197) (j := 1) F dX11_stepOn_197 rfl rfl ?_
        obtain ⟨r24, e25, hf⟩ := bnd_some hf
        refine v_callSi (pc := 198) (As := [.int r13]) F cl_X11_202 dX11_stepOn_198 (kX11_isMark e25) rfl rfl (Nat.le_of_ble_eq_true rfl) (by decide) (Nat.zero_le _) ?_
        refine v_if_eq (pc := 201) (tgt := 208) F dX11_stepOn_201 (by decide) (fun c26 => ?_) (fun c26 => ?_)
        · have hf := ite_t hf c26
          refine v_iconst (pc := 208) (v := 4) F dX11_stepOn_208 ic_4 ?_
          refine V.sub (lv' := [(0, .ref (gA g 0))]) [0] rfl ?_
          exact tX11_stepOn_209 F hr hf
        · have hf := ite_f hf c26
          refine v_iconst (pc := 204) (v := 3) F dX11_stepOn_204 ic_3 ?_
          refine v_goto (pc := 205) (tgt := 209) F dX11_stepOn_205 (by decide) ?_
          refine V.sub (lv' := [(0, .ref (gA g 0))]) [0] rfl ?_
          exact tX11_stepOn_209 F hr hf
      · have hf := ite_f hf c21
        refine v_aload_n (pc := 118) (j := 0) F dX11_stepOn_118 rfl rfl ?_
        refine v_iconst (pc := 119) (v := 0) F dX11_stepOn_119 ic_0 ?_
        obtain ⟨h31, e32, hf⟩ := bnd_some hf
        refine v_pfl (pc := 120) F fl_X11_192 pl_10_23 dX11_stepOn_120 km_0.1 km_0.2 fv_10_23 rfl rfl e32 ?_
        obtain ⟨x44, e45, hf⟩ := bnd_some hf
        refine V.sub (lv' := [(0, .ref (gA g 0))]) [0] rfl ?_
        refine tX11_stepOn_123 (s0 := h31) F ?_ e45
        refine v_aload_n (pc := 178) (j := 0) F dX11_stepOn_178 rfl rfl ?_
        refine v_iconst (pc := 179) (v := 2) F dX11_stepOn_179 ic_2 ?_
        obtain ⟨h46, e47, hf⟩ := bnd_some hf
        refine v_pfl (pc := 180) F fl_X11_182 pl_10_22 dX11_stepOn_180 km_0.1 km_0.2 fv_10_22 rfl rfl e47 ?_
        refine v_goto (pc := 183) (tgt := 212) F dX11_stepOn_183 (by decide) ?_
        exact tX11_stepOn_212 F hr hf
    · have hf := ite_f hf c18
      obtain ⟨x55, e56, hf⟩ := bnd_some hf
      refine V.sub (lv' := [(0, .ref (gA g 0))]) [0] rfl ?_
      refine tX11_stepOn_76 (s0 := h11) F ?_ e56
      refine v_aload_n (pc := 103) (j := 0) F dX11_stepOn_103 rfl rfl ?_
      refine v_iconst (pc := 104) (v := 1) F dX11_stepOn_104 ic_1 ?_
      obtain ⟨h57, e58, hf⟩ := bnd_some hf
      refine v_pfl (pc := 105) F fl_X11_182 pl_10_22 dX11_stepOn_105 km_0.1 km_0.2 fv_10_22 rfl rfl e58 ?_
      refine v_goto (pc := 108) (tgt := 212) F dX11_stepOn_108 (by decide) ?_
      exact tX11_stepOn_212 F hr hf
  · have hf := ite_t hf c15
    refine v_aload_n (pc := 61) (j := 0) F dX11_stepOn_61 rfl rfl ?_
    refine v_iconst (pc := 62) (v := 0) F dX11_stepOn_62 ic_0 ?_
    obtain ⟨h59, e60, hf⟩ := bnd_some hf
    refine v_pfl (pc := 63) F fl_X11_182 pl_10_22 dX11_stepOn_63 km_0.1 km_0.2 fv_10_22 rfl rfl e60 ?_
    refine v_goto (pc := 66) (tgt := 212) F dX11_stepOn_66 (by decide) ?_
    refine V.sub (lv' := [(0, .ref (gA g 0))]) [0] rfl ?_
    exact tX11_stepOn_212 F hr hf
def fX11_another_18 (h : ST)  : Option (Int32 × ST) :=
  if (h 0 26) = 0 then
  bnd (fX11_stepOn h) fun r5 =>
    some (1, r5)
  else
  some (0, h)
def fX11_another (h : ST) (a1 : Int32) (a2 : Int32) : Option (Int32 × ST) :=
  bnd (rd 14 (h 3) (7 + a1)) fun v1 =>
  if v1 = a2 then
  bnd (fX11_wrong h 2) fun r7 =>
    fX11_another_18 r7 
  else
  fX11_another_18 h 
set_option maxRecDepth 100000 in
set_option maxHeartbeats 4000000 in
theorem tX11_another_18 {p : Program} {l : Launch} {e : Env} {s : State} {m : MethodId} {args : Array Value} {below : List Frame} {meth : Method} {c : Code} {g : GE} {B : Nat} {h : ST}  (F : Fx p s m args meth c cX11_another 3 "DustParishModel" 43 g B)
    {y : Int32 × ST} (hr : meth.sig.returnType = (some .boolean)) (hf : fX11_another_18 h  = some y) : V p l e 3 0 s m args below meth c (MQ below (QO KM 43 g (some (.int y.1)) y.2) args s 0 (6 * 0) (WA 43 g)) KM 43 g B 3 0 h 18 [(0, .ref (gA g 0))] [] := by
  unfold fX11_another_18 at hf
  refine v_aload_n (pc := 18) (j := 0) F dX11_another_18 rfl rfl ?_
  refine v_ifl (pc := 19) F fl_X11_208 dX11_another_19 km_0.1 km_0.2 fv_10_26 ?_
  refine v_if_eq (pc := 22) (tgt := 27) F dX11_another_22 (by decide) (fun c4 => ?_) (fun c4 => ?_)
  · have hf := ite_t hf c4
    refine v_aload_n (pc := 27) (j := 0) F dX11_another_27 rfl rfl ?_
    obtain ⟨r5, e6, hf⟩ := bnd_some hf
    refine v_callVv (pc := 28) (As := []) F cl_X11_233 dX11_another_28 (kX11_stepOn e6) km_0.1 km_0.2 rc_10 rfl rfl (Nat.le_of_ble_eq_true rfl) (by decide) (Nat.zero_le _) ?_
    refine v_iconst (pc := 31) (v := 1) F dX11_another_31 ic_1 ?_
    exact v_zret (pc := 32) F hr dX11_another_32 rfl (some_fst hf) (some_snd hf) (Nat.zero_le _)
  · have hf := ite_f hf c4
    refine v_iconst (pc := 25) (v := 0) F dX11_another_25 ic_0 ?_
    exact v_zret (pc := 26) F hr dX11_another_26 rfl (some_fst hf) (some_snd hf) (Nat.zero_le _)
set_option maxRecDepth 100000 in
set_option maxHeartbeats 4000000 in
theorem kX11_another {l : Launch} {g : GE} {B : Nat} {h : ST} {a1 : Int32} {a2 : Int32} {y : Int32 × ST} (hf : fX11_another h a1 a2 = some y) : CT l yX11_another cX11_another 3 (some .boolean) 3 KM 43 g B [.ref (gA g 0), .int a1, .int a2] h (some (.int y.1)) y.2 := by
  refine CT.of pn_X11 (Nat.le_of_ble_eq_true rfl) ?_
  intro p e s m below meth c hr F
  have F : Fx p s m _ meth c cX11_another 3 "DustParishModel" 43 g B := F
  refine V_lv (lv' := [(0, .ref (gA g 0)), (1, .int a1), (2, .int a2)]) rfl ?_
  unfold fX11_another at hf
  refine v_aload_n (pc := 0) (j := 0) F dX11_another_0 rfl rfl ?_
  refine v_ifl (pc := 1) F fl_X11_36 dX11_another_1 km_0.1 km_0.2 fv_10_3 ?_
  refine v_bipush (pc := 4) (v := 7) F dX11_another_4 bp_7 ?_
  refine v_iload_n (pc := 6) (j := 1) F dX11_another_6 rfl rfl ?_
  refine v_iadd (pc := 7) F dX11_another_7 ?_
  obtain ⟨v1, e2, hf⟩ := bnd_some hf
  refine v_iald (pc := 8) F dX11_another_8 km_3.1 km_3.2 e2 ?_
  refine v_iload_n (pc := 9) (j := 2) F dX11_another_9 rfl rfl ?_
  refine v_icmp_ne (pc := 10) (tgt := 18) F dX11_another_10 (by decide) (fun c3 => ?_) (fun c3 => ?_)
  · have hf := ite_f hf c3
    refine V.sub (lv' := [(0, .ref (gA g 0))]) [0] rfl ?_
    exact tX11_another_18 F hr hf
  · have hf := ite_t hf c3
    refine v_aload_n (pc := 13) (j := 0) F dX11_another_13 rfl rfl ?_
    refine v_iconst (pc := 14) (v := 2) F dX11_another_14 ic_2 ?_
    obtain ⟨r7, e8, hf⟩ := bnd_some hf
    refine v_callVv (pc := 15) (As := [.int 2]) F cl_X11_229 dX11_another_15 (kX11_wrong e8) km_0.1 km_0.2 rc_10 rfl rfl (Nat.le_of_ble_eq_true rfl) (by decide) (Nat.zero_le _) ?_
    refine V.sub (lv' := [(0, .ref (gA g 0))]) [0] rfl ?_
    exact tX11_another_18 F hr hf
def fX11_be_2 (o1 : Nat) (n_o1 : Nat) (o2 : Nat) (n_o2 : Nat) (s1 : (ST × Int32)) : Option ((ST × Int32) ⊕ ST) :=
  if (Int32.ofNat n_o1) ≤ s1.2 then
  some (.inr s1.1)
  else
  bnd (rd n_o2 (s1.1 o2) s1.2) fun v2 =>
    bnd (wr n_o1 s1.1 o1 s1.2 v2) fun h4 =>
    some (.inl (h4, s1.2 + 1))
def fX11_be (h : ST) (o1 : Nat) (n_o1 : Nat) (o2 : Nat) (n_o2 : Nat) : Option (ST) :=
  bnd (lp FU (fX11_be_2 o1 n_o1 o2 n_o2) (h, 0)) fun x6 =>
  some x6
set_option maxRecDepth 100000 in
set_option maxHeartbeats 4000000 in
theorem tX11_be_2 {p : Program} {l : Launch} {e : Env} {s : State} {m : MethodId} {args : Array Value} {below : List Frame} {meth : Method} {c : Code} {g : GE} {B : Nat}  {o1 n_o1 : Nat} (ho_o1 : o1 < 43) (hk_o1 : KM o1 = (20, n_o1)) {o2 n_o2 : Nat} (ho_o2 : o2 < 43) (hk_o2 : KM o2 = (20, n_o2)) {Q : State → Prop} {x : ST} {nf : Nat} {s0 : (ST × Int32)} (F : Fx p s m args meth c cX11_be 3 "DustParishModel" 43 g B) (hX0 : V p l e 1 0 s m args below meth c Q KM 43 g B 3 0 x 20 [] []) (hl : lp nf (fX11_be_2 o1 n_o1 o2 n_o2) s0 = some x) : V p l e 1 0 s m args below meth c Q KM 43 g B 3 0 s0.1 2 [(0, .ref (gA g o1)), (1, .ref (gA g o2)), (2, .int s0.2)] [] := by
  refine lp_ind (P := fun s0 => V p l e 1 0 s m args below meth c Q KM 43 g B 3 0 s0.1 2 [(0, .ref (gA g o1)), (1, .ref (gA g o2)), (2, .int s0.2)] []) ?_ nf s0 hl
  intro s1 y hf hk hx
  have hx0 : ∀ v : ST, y = Sum.inr v → V p l e 1 0 s m args below meth c Q KM 43 g B 3 0 v 20 [] [] := fun v e9 => by rw [hx v e9]; exact hX0
  unfold fX11_be_2 at hf
  refine v_iload_n (pc := 2) (j := 2) F dX11_be_2 rfl rfl ?_
  refine v_aload_n (pc := 3) (j := 0) F dX11_be_3 rfl rfl ?_
  refine v_alen (pc := 4) (v := Int32.ofNat n_o1) F dX11_be_4 ho_o1 hk_o1 (by decide) (by decide) rfl ?_
  refine v_icmp_ge (pc := 5) (tgt := 20) F dX11_be_5 (by decide) (fun c1 => ?_) (fun c1 => ?_)
  · have hf := ite_t hf c1
    refine V.sub (lv' := []) [] rfl ?_
    exact hx0 s1.1 (Option.some.inj hf).symm
  · have hf := ite_f hf c1
    refine v_aload_n (pc := 8) (j := 0) F dX11_be_8 rfl rfl ?_
    refine v_iload_n (pc := 9) (j := 2) F dX11_be_9 rfl rfl ?_
    refine v_aload_n (pc := 10) (j := 1) F dX11_be_10 rfl rfl ?_
    refine v_iload_n (pc := 11) (j := 2) F dX11_be_11 rfl rfl ?_
    obtain ⟨v2, e3, hf⟩ := bnd_some hf
    refine v_iald (pc := 12) F dX11_be_12 ho_o2 hk_o2 e3 ?_
    obtain ⟨h4, e5, hf⟩ := bnd_some hf
    refine v_iast (pc := 13) F dX11_be_13 ho_o1 hk_o1 e5 ?_
    refine v_iinc (pc := 14) (j := 2) (v := s1.2 + 1) (lv' := [(0, .ref (gA g o1)), (1, .ref (gA g o2)), (2, .int (s1.2 + 1))]) F dX11_be_14 rfl (congrArg (fun z => s1.2 + z) ic_1) (by decide) rfl ?_
    refine v_goto (pc := 17) (tgt := 2) F dX11_be_17 (by decide) ?_
    exact hk (h4, s1.2 + 1) (Option.some.inj hf).symm
set_option maxRecDepth 100000 in
set_option maxHeartbeats 4000000 in
theorem kX11_be {l : Launch} {g : GE} {B : Nat} {h : ST} {o1 n_o1 : Nat} (ho_o1 : o1 < 43) (hk_o1 : KM o1 = (20, n_o1)) {o2 n_o2 : Nat} (ho_o2 : o2 < 43) (hk_o2 : KM o2 = (20, n_o2)) {y : ST} (hf : fX11_be h o1 n_o1 o2 n_o2 = some y) : CT l yX11_be cX11_be 3 none 1 KM 43 g B [.ref (gA g o1), .ref (gA g o2)] h none y := by
  refine CT.of pn_X11 (Nat.le_of_ble_eq_true rfl) ?_
  intro p e s m below meth c hr F
  have F : Fx p s m _ meth c cX11_be 3 "DustParishModel" 43 g B := F
  refine V_lv (lv' := [(0, .ref (gA g o1)), (1, .ref (gA g o2))]) rfl ?_
  unfold fX11_be at hf
  refine v_iconst (pc := 0) (v := 0) F dX11_be_0 ic_0 ?_
  refine v_istore_n (pc := 1) (lv' := [(0, .ref (gA g o1)), (1, .ref (gA g o2)), (2, .int 0)]) F dX11_be_1 rfl (by decide) rfl ?_
  obtain ⟨x6, e7, hf⟩ := bnd_some hf
  refine tX11_be_2 (s0 := (h, 0)) ho_o1 hk_o1 ho_o2 hk_o2 F ?_ e7
  exact v_vret (pc := 20) F hr dX11_be_20 (Option.some.inj hf) (Nat.zero_le _)
def fX11_isIn_18 (h : ST) (q0 : Int32) : Option (Int32) :=
  bnd (zb q0) fun z2 =>
  some z2
def fX11_isIn_17 (h : ST)  : Option (Int32) :=
  fX11_isIn_18 h 0
def fX11_isIn (h : ST) (a1 : Int64) (a2 : Int64) (a3 : Int64) : Option (Int32) :=
  if (lg_cmp a1 a2) < 0 then
  fX11_isIn_17 h 
  else
  if 0 < (lg_cmp a1 a3) then
    fX11_isIn_17 h 
    else
    fX11_isIn_18 h 1
set_option maxRecDepth 100000 in
set_option maxHeartbeats 4000000 in
theorem tX11_isIn_18 {p : Program} {l : Launch} {e : Env} {s : State} {m : MethodId} {args : Array Value} {below : List Frame} {meth : Method} {c : Code} {g : GE} {B : Nat} {h : ST}  {q0 : Int32} (F : Fx p s m args meth c cX11_isIn 6 "DustParishModel" 43 g B)
    {y : Int32} (hr : meth.sig.returnType = (some .boolean)) (hf : fX11_isIn_18 h q0 = some y) : V p l e 1 0 s m args below meth c (MQ below (QO KM 43 g (some (.int y)) h) args s 0 (6 * 0) (WA 43 g)) KM 43 g B 6 0 h 18 [] [.int q0] := by
  unfold fX11_isIn_18 at hf
  obtain ⟨z2, e3, hf⟩ := bnd_some hf
  exact v_zret (pc := 18) F hr dX11_isIn_18 (zb_in e3).2 ((zb_in e3).1.symm.trans (Option.some.inj hf)) rfl (Nat.zero_le _)
set_option maxRecDepth 100000 in
set_option maxHeartbeats 4000000 in
theorem tX11_isIn_17 {p : Program} {l : Launch} {e : Env} {s : State} {m : MethodId} {args : Array Value} {below : List Frame} {meth : Method} {c : Code} {g : GE} {B : Nat} {h : ST}  (F : Fx p s m args meth c cX11_isIn 6 "DustParishModel" 43 g B)
    {y : Int32} (hr : meth.sig.returnType = (some .boolean)) (hf : fX11_isIn_17 h  = some y) : V p l e 1 0 s m args below meth c (MQ below (QO KM 43 g (some (.int y)) h) args s 0 (6 * 0) (WA 43 g)) KM 43 g B 6 0 h 17 [] [] := by
  unfold fX11_isIn_17 at hf
  refine v_iconst (pc := 17) (v := 0) F dX11_isIn_17 ic_0 ?_
  exact tX11_isIn_18 F hr hf
set_option maxRecDepth 100000 in
set_option maxHeartbeats 4000000 in
theorem kX11_isIn {l : Launch} {g : GE} {B : Nat} {h : ST} {a1 : Int64} {a2 : Int64} {a3 : Int64} {y : Int32} (hf : fX11_isIn h a1 a2 a3 = some y) : CT l yX11_isIn cX11_isIn 6 (some .boolean) 1 KM 43 g B [.long a1, .long a2, .long a3] h (some (.int y)) h := by
  refine CT.of pn_X11 (Nat.le_of_ble_eq_true rfl) ?_
  intro p e s m below meth c hr F
  have F : Fx p s m _ meth c cX11_isIn 6 "DustParishModel" 43 g B := F
  refine V_lv (lv' := [(0, .long a1), (2, .long a2), (4, .long a3)]) rfl ?_
  unfold fX11_isIn at hf
  refine v_lload_n (pc := 0) (j := 0) F dX11_isIn_0 rfl rfl ?_
  refine v_lload_n (pc := 1) (j := 1) F dX11_isIn_1 rfl rfl ?_
  refine v_lcmp (pc := 2) F dX11_isIn_2 ?_
  refine v_if_lt (pc := 3) (tgt := 17) F dX11_isIn_3 (by decide) (fun c1 => ?_) (fun c1 => ?_)
  · have hf := ite_t hf c1
    refine V.sub (lv' := []) [] rfl ?_
    exact tX11_isIn_17 F hr hf
  · have hf := ite_f hf c1
    refine v_lload_n (pc := 6) (j := 0) F dX11_isIn_6 rfl rfl ?_
    refine v_lload (pc := 7) (j := 2) F dX11_isIn_7 rfl ?_
    refine v_lcmp (pc := 9) F dX11_isIn_9 ?_
    refine v_if_gt (pc := 10) (tgt := 17) F dX11_isIn_10 (by decide) (fun c4 => ?_) (fun c4 => ?_)
    · have hf := ite_t hf c4
      refine V.sub (lv' := []) [] rfl ?_
      exact tX11_isIn_17 F hr hf
    · have hf := ite_f hf c4
      refine v_iconst (pc := 13) (v := 1) F dX11_isIn_13 ic_1 ?_
      refine v_goto (pc := 14) (tgt := 18) F dX11_isIn_14 (by decide) ?_
      refine V.sub (lv' := []) [] rfl ?_
      exact tX11_isIn_18 F hr hf
def fX11_fail (h : ST) (a1 : Int32) : Option (Int32 × ST) :=
  bnd (pw h 0 2 a1) fun h1 =>
  some (0, h1)
set_option maxRecDepth 100000 in
set_option maxHeartbeats 4000000 in
theorem kX11_fail {l : Launch} {g : GE} {B : Nat} {h : ST} {a1 : Int32} {y : Int32 × ST} (hf : fX11_fail h a1 = some y) : CT l yX11_fail cX11_fail 2 (some .int) 1 KM 43 g B [.ref (gA g 0), .int a1] h (some (.int y.1)) y.2 := by
  refine CT.of pn_X11 (Nat.le_of_ble_eq_true rfl) ?_
  intro p e s m below meth c hr F
  have F : Fx p s m _ meth c cX11_fail 2 "DustParishModel" 43 g B := F
  refine V_lv (lv' := [(0, .ref (gA g 0)), (1, .int a1)]) rfl ?_
  unfold fX11_fail at hf
  refine v_aload_n (pc := 0) (j := 0) F dX11_fail_0 rfl rfl ?_
  refine v_iload_n (pc := 1) (j := 1) F dX11_fail_1 rfl rfl ?_
  obtain ⟨h1, e2, hf⟩ := bnd_some hf
  refine v_pfl (pc := 2) F fl_X11_157 pl_10_2 dX11_fail_2 km_0.1 km_0.2 fv_10_2 rfl rfl e2 ?_
  refine v_iconst (pc := 5) (v := 0) F dX11_fail_5 ic_0 ?_
  exact v_iret (pc := 6) F hr dX11_fail_6 (some_fst hf) (some_snd hf) (Nat.zero_le _)
def fX11_blow_55 (h : ST)  : Option (Int32 × ST) :=
  bnd (fX11_fail h 1) fun r8 =>
  some (r8.1, r8.2)
def fX11_blow_119 (h : ST) (q0 : Int32) : Option (Int32 × ST) :=
  some (q0, h)
def fX11_blow (h : ST) (a1 : Int32) (a2 : Int32) (a3 : Int32) : Option (Int32 × ST) :=
  bnd (pw h 0 2 0) fun h1 =>
  bnd (rd 14 (h1 3) 2) fun v3 =>
  bnd (fX11_isIn h1 a1.toInt64 (0 : Int64) ((v3 - 1).toInt64)) fun r5 =>
  if r5 = 0 then
  fX11_blow_55 h1 
  else
  bnd (fX11_isIn h1 a3.toInt64 (0 : Int64) (2 : Int64)) fun r10 =>
    if r10 = 0 then
    fX11_blow_55 h1 
    else
    bnd (rd 10 (h1 11) a1) fun v13 =>
      bnd (fX11_isIn h1 a2.toInt64 ((-1) : Int64) ((v13 - 1).toInt64)) fun r15 =>
      if r15 = 0 then
      fX11_blow_55 h1 
      else
      if a2 = (-1) then
        bnd (rd 10 (h1 11) a1) fun v27 =>
          fX11_blow_119 h1 v27
        else
        if a3 = 0 then
          bnd (rd 80 (h1 12) ((8 * a1) + a2)) fun v25 =>
            fX11_blow_119 h1 v25
          else
          if a3 = 1 then
            bnd (rd 80 (h1 13) ((8 * a1) + a2)) fun v23 =>
              fX11_blow_119 h1 v23
            else
            bnd (rd 80 (h1 14) ((8 * a1) + a2)) fun v21 =>
              fX11_blow_119 h1 v21
set_option maxRecDepth 100000 in
set_option maxHeartbeats 4000000 in
theorem tX11_blow_55 {p : Program} {l : Launch} {e : Env} {s : State} {m : MethodId} {args : Array Value} {below : List Frame} {meth : Method} {c : Code} {g : GE} {B : Nat} {h : ST}  (F : Fx p s m args meth c cX11_blow 5 "DustParishModel" 43 g B)
    {y : Int32 × ST} (hr : meth.sig.returnType = (some .int)) (hf : fX11_blow_55 h  = some y) : V p l e 2 0 s m args below meth c (MQ below (QO KM 43 g (some (.int y.1)) y.2) args s 0 (6 * 0) (WA 43 g)) KM 43 g B 5 0 h 55 [(0, .ref (gA g 0))] [] := by
  unfold fX11_blow_55 at hf
  refine v_aload_n (pc := 55) (j := 0) F dX11_blow_55 rfl rfl ?_
  refine v_iconst (pc := 56) (v := 1) F dX11_blow_56 ic_1 ?_
  obtain ⟨r8, e9, hf⟩ := bnd_some hf
  refine v_callVi (pc := 57) (As := [.int 1]) F cl_X11_320 dX11_blow_57 (kX11_fail e9) km_0.1 km_0.2 rc_10 rfl rfl (Nat.le_of_ble_eq_true rfl) (by decide) (Nat.zero_le _) ?_
  exact v_iret (pc := 60) F hr dX11_blow_60 (some_fst hf) (some_snd hf) (Nat.zero_le _)
set_option maxRecDepth 100000 in
set_option maxHeartbeats 4000000 in
theorem tX11_blow_119 {p : Program} {l : Launch} {e : Env} {s : State} {m : MethodId} {args : Array Value} {below : List Frame} {meth : Method} {c : Code} {g : GE} {B : Nat} {h : ST}  {q0 : Int32} (F : Fx p s m args meth c cX11_blow 5 "DustParishModel" 43 g B)
    {y : Int32 × ST} (hr : meth.sig.returnType = (some .int)) (hf : fX11_blow_119 h q0 = some y) : V p l e 2 0 s m args below meth c (MQ below (QO KM 43 g (some (.int y.1)) y.2) args s 0 (6 * 0) (WA 43 g)) KM 43 g B 5 0 h 119 [] [.int q0] := by
  unfold fX11_blow_119 at hf
  exact v_iret (pc := 119) F hr dX11_blow_119 (some_fst hf) (some_snd hf) (Nat.zero_le _)
set_option maxRecDepth 100000 in
set_option maxHeartbeats 4000000 in
theorem kX11_blow {l : Launch} {g : GE} {B : Nat} {h : ST} {a1 : Int32} {a2 : Int32} {a3 : Int32} {y : Int32 × ST} (hf : fX11_blow h a1 a2 a3 = some y) : CT l yX11_blow cX11_blow 5 (some .int) 2 KM 43 g B [.ref (gA g 0), .int a1, .int a2, .int a3] h (some (.int y.1)) y.2 := by
  refine CT.of pn_X11 (Nat.le_of_ble_eq_true rfl) ?_
  intro p e s m below meth c hr F
  have F : Fx p s m _ meth c cX11_blow 5 "DustParishModel" 43 g B := F
  refine V_lv (lv' := [(0, .ref (gA g 0)), (1, .int a1), (2, .int a2), (3, .int a3)]) rfl ?_
  unfold fX11_blow at hf
  refine v_aload_n (pc := 0) (j := 0) F dX11_blow_0 rfl rfl ?_
  refine v_iconst (pc := 1) (v := 0) F dX11_blow_1 ic_0 ?_
  obtain ⟨h1, e2, hf⟩ := bnd_some hf
  refine v_pfl (pc := 2) F fl_X11_157 pl_10_2 dX11_blow_2 km_0.1 km_0.2 fv_10_2 rfl rfl e2 ?_
  refine v_iload_n (pc := 5) (j := 1) F dX11_blow_5 rfl rfl ?_
  refine v_i2l (pc := 6) F dX11_blow_6 rfl ?_
  refine v_lconst (pc := 7) (v := 0) F dX11_blow_7 rfl ?_
  refine v_aload_n (pc := 8) (j := 0) F dX11_blow_8 rfl rfl ?_
  refine v_ifl (pc := 9) F fl_X11_36 dX11_blow_9 km_0.1 km_0.2 fv_10_3 ?_
  refine v_iconst (pc := 12) (v := 2) F dX11_blow_12 ic_2 ?_
  obtain ⟨v3, e4, hf⟩ := bnd_some hf
  refine v_iald (pc := 13) F dX11_blow_13 km_3.1 km_3.2 e4 ?_
  refine v_iconst (pc := 14) (v := 1) F dX11_blow_14 ic_1 ?_
  refine v_isub (pc := 15) F dX11_blow_15 ?_
  refine v_i2l (pc := 16) F dX11_blow_16 rfl ?_
  obtain ⟨r5, e6, hf⟩ := bnd_some hf
  refine v_callSi (pc := 17) (As := [.long a1.toInt64, .long (0 : Int64), .long ((v3 - 1).toInt64)]) F cl_X11_160 dX11_blow_17 (kX11_isIn e6) rfl rfl (Nat.le_of_ble_eq_true rfl) (by decide) (Nat.zero_le _) ?_
  refine v_if_eq (pc := 20) (tgt := 55) F dX11_blow_20 (by decide) (fun c7 => ?_) (fun c7 => ?_)
  · have hf := ite_t hf c7
    refine V.sub (lv' := [(0, .ref (gA g 0))]) [0] rfl ?_
    exact tX11_blow_55 F hr hf
  · have hf := ite_f hf c7
    refine v_iload_n (pc := 23) (j := 3) F dX11_blow_23 rfl rfl ?_
    refine v_i2l (pc := 24) F dX11_blow_24 rfl ?_
    refine v_lconst (pc := 25) (v := 0) F dX11_blow_25 rfl ?_
    refine v_ldc2 (pc := 26) F tw_1668 dX11_blow_26 ?_
    obtain ⟨r10, e11, hf⟩ := bnd_some hf
    refine v_callSi (pc := 29) (As := [.long a3.toInt64, .long (0 : Int64), .long (2 : Int64)]) F cl_X11_160 dX11_blow_29 (kX11_isIn e11) rfl rfl (Nat.le_of_ble_eq_true rfl) (by decide) (Nat.zero_le _) ?_
    refine v_if_eq (pc := 32) (tgt := 55) F dX11_blow_32 (by decide) (fun c12 => ?_) (fun c12 => ?_)
    · have hf := ite_t hf c12
      refine V.sub (lv' := [(0, .ref (gA g 0))]) [0] rfl ?_
      exact tX11_blow_55 F hr hf
    · have hf := ite_f hf c12
      refine v_iload_n (pc := 35) (j := 2) F dX11_blow_35 rfl rfl ?_
      refine v_i2l (pc := 36) F dX11_blow_36 rfl ?_
      refine v_ldc2 (pc := 37) F tw_1669 dX11_blow_37 ?_
      refine v_aload_n (pc := 40) (j := 0) F dX11_blow_40 rfl rfl ?_
      refine v_ifl (pc := 41) F fl_X11_59 dX11_blow_41 km_0.1 km_0.2 fv_10_11 ?_
      refine v_iload_n (pc := 44) (j := 1) F dX11_blow_44 rfl rfl ?_
      obtain ⟨v13, e14, hf⟩ := bnd_some hf
      refine v_iald (pc := 45) F dX11_blow_45 km_11.1 km_11.2 e14 ?_
      refine v_iconst (pc := 46) (v := 1) F dX11_blow_46 ic_1 ?_
      refine v_isub (pc := 47) F dX11_blow_47 ?_
      refine v_i2l (pc := 48) F dX11_blow_48 rfl ?_
      obtain ⟨r15, e16, hf⟩ := bnd_some hf
      refine v_callSi (pc := 49) (As := [.long a2.toInt64, .long ((-1) : Int64), .long ((v13 - 1).toInt64)]) F cl_X11_160 dX11_blow_49 (kX11_isIn e16) rfl rfl (Nat.le_of_ble_eq_true rfl) (by decide) (Nat.zero_le _) ?_
      refine v_if_ne (pc := 52) (tgt := 61) F dX11_blow_52 (by decide) (fun c17 => ?_) (fun c17 => ?_)
      · have hf := ite_f hf c17
        refine v_bipush (pc := 61) (v := 8) F dX11_blow_61 bp_8 ?_
        refine v_iload_n (pc := 63) (j := 1) F dX11_blow_63 rfl rfl ?_
        refine v_imul (pc := 64) F dX11_blow_64 ?_
        refine v_iload_n (pc := 65) (j := 2) F dX11_blow_65 rfl rfl ?_
        refine v_iadd (pc := 66) F dX11_blow_66 ?_
        refine v_istore (pc := 67) (lv' := [(0, .ref (gA g 0)), (1, .int a1), (2, .int a2), (3, .int a3), (4, .int ((8 * a1) + a2))]) F dX11_blow_67 (by decide) rfl ?_
        refine v_iload_n (pc := 69) (j := 2) F dX11_blow_69 rfl rfl ?_
        refine v_iconst (pc := 70) (v := (-1)) F dX11_blow_70 ic_m1 ?_
        refine v_icmp_ne (pc := 71) (tgt := 83) F dX11_blow_71 (by decide) (fun c18 => ?_) (fun c18 => ?_)
        · have hf := ite_f hf c18
          refine v_iload_n (pc := 83) (j := 3) F dX11_blow_83 rfl rfl ?_
          refine v_if_ne (pc := 84) (tgt := 97) F dX11_blow_84 (by decide) (fun c19 => ?_) (fun c19 => ?_)
          · have hf := ite_f hf c19
            refine v_iload_n (pc := 97) (j := 3) F dX11_blow_97 rfl rfl ?_
            refine v_iconst (pc := 98) (v := 1) F dX11_blow_98 ic_1 ?_
            refine v_icmp_ne (pc := 99) (tgt := 112) F dX11_blow_99 (by decide) (fun c20 => ?_) (fun c20 => ?_)
            · have hf := ite_f hf c20
              refine v_aload_n (pc := 112) (j := 0) F dX11_blow_112 rfl rfl ?_
              refine v_ifl (pc := 113) F fl_X11_68 dX11_blow_113 km_0.1 km_0.2 fv_10_14 ?_
              refine v_iload (pc := 116) (j := 4) F dX11_blow_116 rfl ?_
              obtain ⟨v21, e22, hf⟩ := bnd_some hf
              refine v_iald (pc := 118) F dX11_blow_118 km_14.1 km_14.2 e22 ?_
              refine V.sub (lv' := []) [] rfl ?_
              exact tX11_blow_119 F hr hf
            · have hf := ite_t hf c20
              refine v_aload_n (pc := 102) (j := 0) F dX11_blow_102 rfl rfl ?_
              refine v_ifl (pc := 103) F fl_X11_65 dX11_blow_103 km_0.1 km_0.2 fv_10_13 ?_
              refine v_iload (pc := 106) (j := 4) F dX11_blow_106 rfl ?_
              obtain ⟨v23, e24, hf⟩ := bnd_some hf
              refine v_iald (pc := 108) F dX11_blow_108 km_13.1 km_13.2 e24 ?_
              refine v_goto (pc := 109) (tgt := 119) F dX11_blow_109 (by decide) ?_
              refine V.sub (lv' := []) [] rfl ?_
              exact tX11_blow_119 F hr hf
          · have hf := ite_t hf c19
            refine v_aload_n (pc := 87) (j := 0) F dX11_blow_87 rfl rfl ?_
            refine v_ifl (pc := 88) F fl_X11_62 dX11_blow_88 km_0.1 km_0.2 fv_10_12 ?_
            refine v_iload (pc := 91) (j := 4) F dX11_blow_91 rfl ?_
            obtain ⟨v25, e26, hf⟩ := bnd_some hf
            refine v_iald (pc := 93) F dX11_blow_93 km_12.1 km_12.2 e26 ?_
            refine v_goto (pc := 94) (tgt := 119) F dX11_blow_94 (by decide) ?_
            refine V.sub (lv' := []) [] rfl ?_
            exact tX11_blow_119 F hr hf
        · have hf := ite_t hf c18
          refine v_aload_n (pc := 74) (j := 0) F dX11_blow_74 rfl rfl ?_
          refine v_ifl (pc := 75) F fl_X11_59 dX11_blow_75 km_0.1 km_0.2 fv_10_11 ?_
          refine v_iload_n (pc := 78) (j := 1) F dX11_blow_78 rfl rfl ?_
          obtain ⟨v27, e28, hf⟩ := bnd_some hf
          refine v_iald (pc := 79) F dX11_blow_79 km_11.1 km_11.2 e28 ?_
          refine v_goto (pc := 80) (tgt := 119) F dX11_blow_80 (by decide) ?_
          refine V.sub (lv' := []) [] rfl ?_
          exact tX11_blow_119 F hr hf
      · have hf := ite_t hf c17
        refine V.sub (lv' := [(0, .ref (gA g 0))]) [0] rfl ?_
        exact tX11_blow_55 F hr hf
def fX11_bring (h : ST) (a1 : Int32) (a2 : Int32) (a3 : Int32) : Option (ST) :=
  bnd (rd 9 (h 19) a1) fun v1 =>
  bnd (wr 9 h 19 a1 (v1 - a3)) fun h3 =>
  bnd (fX11_lays h3 a2 a3) fun r5 =>
  bnd (rd 9 (r5 20) a2) fun v7 =>
  bnd (wr 9 r5 20 a2 (v7 + a3)) fun h9 =>
  some h9
set_option maxRecDepth 100000 in
set_option maxHeartbeats 4000000 in
theorem kX11_bring {l : Launch} {g : GE} {B : Nat} {h : ST} {a1 : Int32} {a2 : Int32} {a3 : Int32} {y : ST} (hf : fX11_bring h a1 a2 a3 = some y) : CT l yX11_bring cX11_bring 4 none 2 KM 43 g B [.ref (gA g 0), .int a1, .int a2, .int a3] h none y := by
  refine CT.of pn_X11 (Nat.le_of_ble_eq_true rfl) ?_
  intro p e s m below meth c hr F
  have F : Fx p s m _ meth c cX11_bring 4 "DustParishModel" 43 g B := F
  refine V_lv (lv' := [(0, .ref (gA g 0)), (1, .int a1), (2, .int a2), (3, .int a3)]) rfl ?_
  unfold fX11_bring at hf
  refine v_aload_n (pc := 0) (j := 0) F dX11_bring_0 rfl rfl ?_
  refine v_ifl (pc := 1) F fl_X11_87 dX11_bring_1 km_0.1 km_0.2 fv_10_29 ?_
  refine v_iload_n (pc := 4) (j := 1) F dX11_bring_4 rfl rfl ?_
  refine v_dup2_11 (pc := 5) F dX11_bring_5 rfl rfl ?_
  obtain ⟨v1, e2, hf⟩ := bnd_some hf
  refine v_iald (pc := 6) F dX11_bring_6 km_19.1 km_19.2 e2 ?_
  refine v_iload_n (pc := 7) (j := 3) F dX11_bring_7 rfl rfl ?_
  refine v_isub (pc := 8) F dX11_bring_8 ?_
  obtain ⟨h3, e4, hf⟩ := bnd_some hf
  refine v_iast (pc := 9) F dX11_bring_9 km_19.1 km_19.2 e4 ?_
  refine v_aload_n (pc := 10) (j := 0) F dX11_bring_10 rfl rfl ?_
  refine v_iload_n (pc := 11) (j := 2) F dX11_bring_11 rfl rfl ?_
  refine v_iload_n (pc := 12) (j := 3) F dX11_bring_12 rfl rfl ?_
  obtain ⟨r5, e6, hf⟩ := bnd_some hf
  refine v_callVv (pc := 13) (As := [.int a2, .int a3]) F cl_X11_358 dX11_bring_13 (kX11_lays e6) km_0.1 km_0.2 rc_10 rfl rfl (Nat.le_of_ble_eq_true rfl) (by decide) (Nat.zero_le _) ?_
  refine v_aload_n (pc := 16) (j := 0) F dX11_bring_16 rfl rfl ?_
  refine v_ifl (pc := 17) F fl_X11_89 dX11_bring_17 km_0.1 km_0.2 fv_10_30 ?_
  refine v_iload_n (pc := 20) (j := 2) F dX11_bring_20 rfl rfl ?_
  refine v_dup2_11 (pc := 21) F dX11_bring_21 rfl rfl ?_
  obtain ⟨v7, e8, hf⟩ := bnd_some hf
  refine v_iald (pc := 22) F dX11_bring_22 km_20.1 km_20.2 e8 ?_
  refine v_iload_n (pc := 23) (j := 3) F dX11_bring_23 rfl rfl ?_
  refine v_iadd (pc := 24) F dX11_bring_24 ?_
  obtain ⟨h9, e10, hf⟩ := bnd_some hf
  refine v_iast (pc := 25) F dX11_bring_25 km_20.1 km_20.2 e10 ?_
  exact v_vret (pc := 26) F hr dX11_bring_26 (Option.some.inj hf) (Nat.zero_le _)
def fX11_pack_27 (o1 : Nat) (n_o1 : Nat) (l2 : Int32) (s1 : (ST × Int32)) : Option ((ST × Int32) ⊕ ST) :=
  if 9 ≤ s1.2 then
  some (.inr s1.1)
  else
  bnd (rd 9 (s1.1 19) s1.2) fun v8 =>
    bnd (wr n_o1 s1.1 o1 ((l2 + 3) + s1.2) v8) fun h10 =>
    bnd (rd 9 (h10 20) s1.2) fun v12 =>
    bnd (wr n_o1 h10 o1 (((l2 + 3) + 9) + s1.2) v12) fun h14 =>
    some (.inl (h14, s1.2 + 1))
def fX11_pack_70 (o1 : Nat) (n_o1 : Nat) (l2 : Int32) (s1 : (ST × Int32)) : Option ((ST × Int32) ⊕ ST) :=
  if 10 ≤ s1.2 then
  some (.inr s1.1)
  else
  bnd (rd 10 (s1.1 21) s1.2) fun v19 =>
    bnd (wr n_o1 s1.1 o1 (((l2 + 3) + 18) + s1.2) v19) fun h21 =>
    some (.inl (h21, s1.2 + 1))
def fX11_pack (h : ST) (o1 : Nat) (n_o1 : Nat) (a2 : Int32) : Option (ST) :=
  bnd (wr n_o1 h o1 a2 (h 0 33)) fun h1 =>
  bnd (wr n_o1 h1 o1 (a2 + 1) (h1 0 34)) fun h3 =>
  bnd (wr n_o1 h3 o1 (a2 + 2) (h3 0 35)) fun h5 =>
  bnd (lp FU (fX11_pack_27 o1 n_o1 a2) (h5, 0)) fun x16 =>
  bnd (lp FU (fX11_pack_70 o1 n_o1 a2) (x16, 0)) fun x23 =>
  some x23
set_option maxRecDepth 100000 in
set_option maxHeartbeats 4000000 in
theorem tX11_pack_27 {p : Program} {l : Launch} {e : Env} {s : State} {m : MethodId} {args : Array Value} {below : List Frame} {meth : Method} {c : Code} {g : GE} {B : Nat}  {o1 n_o1 : Nat} (ho_o1 : o1 < 43) (hk_o1 : KM o1 = (20, n_o1)) {l2 : Int32} {Q : State → Prop} {x : ST} {nf : Nat} {s0 : (ST × Int32)} (F : Fx p s m args meth c cX11_pack 4 "DustParishModel" 43 g B) (hX0 : V p l e 1 0 s m args below meth c Q KM 43 g B 4 0 x 68 [(0, .ref (gA g 0)), (1, .ref (gA g o1)), (2, .int l2)] []) (hl : lp nf (fX11_pack_27 o1 n_o1 l2) s0 = some x) : V p l e 1 0 s m args below meth c Q KM 43 g B 4 0 s0.1 27 [(0, .ref (gA g 0)), (1, .ref (gA g o1)), (2, .int l2), (3, .int s0.2)] [] := by
  refine lp_ind (P := fun s0 => V p l e 1 0 s m args below meth c Q KM 43 g B 4 0 s0.1 27 [(0, .ref (gA g 0)), (1, .ref (gA g o1)), (2, .int l2), (3, .int s0.2)] []) ?_ nf s0 hl
  intro s1 y hf hk hx
  have hx0 : ∀ v : ST, y = Sum.inr v → V p l e 1 0 s m args below meth c Q KM 43 g B 4 0 v 68 [(0, .ref (gA g 0)), (1, .ref (gA g o1)), (2, .int l2)] [] := fun v e9 => by rw [hx v e9]; exact hX0
  unfold fX11_pack_27 at hf
  refine v_iload_n (pc := 27) (j := 3) F dX11_pack_27 rfl rfl ?_
  refine v_bipush (pc := 28) (v := 9) F dX11_pack_28 bp_9 ?_
  refine v_icmp_ge (pc := 30) (tgt := 68) F dX11_pack_30 (by decide) (fun c7 => ?_) (fun c7 => ?_)
  · have hf := ite_t hf c7
    refine V.sub (lv' := [(0, .ref (gA g 0)), (1, .ref (gA g o1)), (2, .int l2)]) [0, 1, 2] rfl ?_
    exact hx0 s1.1 (Option.some.inj hf).symm
  · have hf := ite_f hf c7
    refine v_aload_n (pc := 33) (j := 1) F dX11_pack_33 rfl rfl ?_
    refine v_iload_n (pc := 34) (j := 2) F dX11_pack_34 rfl rfl ?_
    refine v_iconst (pc := 35) (v := 3) F dX11_pack_35 ic_3 ?_
    refine v_iadd (pc := 36) F dX11_pack_36 ?_
    refine v_iload_n (pc := 37) (j := 3) F dX11_pack_37 rfl rfl ?_
    refine v_iadd (pc := 38) F dX11_pack_38 ?_
    refine v_aload_n (pc := 39) (j := 0) F dX11_pack_39 rfl rfl ?_
    refine v_ifl (pc := 40) F fl_X11_87 dX11_pack_40 km_0.1 km_0.2 fv_10_29 ?_
    refine v_iload_n (pc := 43) (j := 3) F dX11_pack_43 rfl rfl ?_
    obtain ⟨v8, e9, hf⟩ := bnd_some hf
    refine v_iald (pc := 44) F dX11_pack_44 km_19.1 km_19.2 e9 ?_
    obtain ⟨h10, e11, hf⟩ := bnd_some hf
    refine v_iast (pc := 45) F dX11_pack_45 ho_o1 hk_o1 e11 ?_
    refine v_aload_n (pc := 46) (j := 1) F dX11_pack_46 rfl rfl ?_
    refine v_iload_n (pc := 47) (j := 2) F dX11_pack_47 rfl rfl ?_
    refine v_iconst (pc := 48) (v := 3) F dX11_pack_48 ic_3 ?_
    refine v_iadd (pc := 49) F dX11_pack_49 ?_
    refine v_bipush (pc := 50) (v := 9) F dX11_pack_50 bp_9 ?_
    refine v_iadd (pc := 52) F dX11_pack_52 ?_
    refine v_iload_n (pc := 53) (j := 3) F dX11_pack_53 rfl rfl ?_
    refine v_iadd (pc := 54) F dX11_pack_54 ?_
    refine v_aload_n (pc := 55) (j := 0) F dX11_pack_55 rfl rfl ?_
    refine v_ifl (pc := 56) F fl_X11_89 dX11_pack_56 km_0.1 km_0.2 fv_10_30 ?_
    refine v_iload_n (pc := 59) (j := 3) F dX11_pack_59 rfl rfl ?_
    obtain ⟨v12, e13, hf⟩ := bnd_some hf
    refine v_iald (pc := 60) F dX11_pack_60 km_20.1 km_20.2 e13 ?_
    obtain ⟨h14, e15, hf⟩ := bnd_some hf
    refine v_iast (pc := 61) F dX11_pack_61 ho_o1 hk_o1 e15 ?_
    refine v_iinc (pc := 62) (j := 3) (v := s1.2 + 1) (lv' := [(0, .ref (gA g 0)), (1, .ref (gA g o1)), (2, .int l2), (3, .int (s1.2 + 1))]) F dX11_pack_62 rfl (congrArg (fun z => s1.2 + z) ic_1) (by decide) rfl ?_
    refine v_goto (pc := 65) (tgt := 27) F dX11_pack_65 (by decide) ?_
    exact hk (h14, s1.2 + 1) (Option.some.inj hf).symm
set_option maxRecDepth 100000 in
set_option maxHeartbeats 4000000 in
theorem tX11_pack_70 {p : Program} {l : Launch} {e : Env} {s : State} {m : MethodId} {args : Array Value} {below : List Frame} {meth : Method} {c : Code} {g : GE} {B : Nat}  {o1 n_o1 : Nat} (ho_o1 : o1 < 43) (hk_o1 : KM o1 = (20, n_o1)) {l2 : Int32} {Q : State → Prop} {x : ST} {nf : Nat} {s0 : (ST × Int32)} (F : Fx p s m args meth c cX11_pack 4 "DustParishModel" 43 g B) (hX0 : V p l e 1 0 s m args below meth c Q KM 43 g B 4 0 x 98 [] []) (hl : lp nf (fX11_pack_70 o1 n_o1 l2) s0 = some x) : V p l e 1 0 s m args below meth c Q KM 43 g B 4 0 s0.1 70 [(0, .ref (gA g 0)), (1, .ref (gA g o1)), (2, .int l2), (3, .int s0.2)] [] := by
  refine lp_ind (P := fun s0 => V p l e 1 0 s m args below meth c Q KM 43 g B 4 0 s0.1 70 [(0, .ref (gA g 0)), (1, .ref (gA g o1)), (2, .int l2), (3, .int s0.2)] []) ?_ nf s0 hl
  intro s1 y hf hk hx
  have hx0 : ∀ v : ST, y = Sum.inr v → V p l e 1 0 s m args below meth c Q KM 43 g B 4 0 v 98 [] [] := fun v e9 => by rw [hx v e9]; exact hX0
  unfold fX11_pack_70 at hf
  refine v_iload_n (pc := 70) (j := 3) F dX11_pack_70 rfl rfl ?_
  refine v_bipush (pc := 71) (v := 10) F dX11_pack_71 bp_10 ?_
  refine v_icmp_ge (pc := 73) (tgt := 98) F dX11_pack_73 (by decide) (fun c18 => ?_) (fun c18 => ?_)
  · have hf := ite_t hf c18
    refine V.sub (lv' := []) [] rfl ?_
    exact hx0 s1.1 (Option.some.inj hf).symm
  · have hf := ite_f hf c18
    refine v_aload_n (pc := 76) (j := 1) F dX11_pack_76 rfl rfl ?_
    refine v_iload_n (pc := 77) (j := 2) F dX11_pack_77 rfl rfl ?_
    refine v_iconst (pc := 78) (v := 3) F dX11_pack_78 ic_3 ?_
    refine v_iadd (pc := 79) F dX11_pack_79 ?_
    refine v_bipush (pc := 80) (v := 18) F dX11_pack_80 bp_18 ?_
    refine v_iadd (pc := 82) F dX11_pack_82 ?_
    refine v_iload_n (pc := 83) (j := 3) F dX11_pack_83 rfl rfl ?_
    refine v_iadd (pc := 84) F dX11_pack_84 ?_
    refine v_aload_n (pc := 85) (j := 0) F dX11_pack_85 rfl rfl ?_
    refine v_ifl (pc := 86) F fl_X11_91 dX11_pack_86 km_0.1 km_0.2 fv_10_31 ?_
    refine v_iload_n (pc := 89) (j := 3) F dX11_pack_89 rfl rfl ?_
    obtain ⟨v19, e20, hf⟩ := bnd_some hf
    refine v_iald (pc := 90) F dX11_pack_90 km_21.1 km_21.2 e20 ?_
    obtain ⟨h21, e22, hf⟩ := bnd_some hf
    refine v_iast (pc := 91) F dX11_pack_91 ho_o1 hk_o1 e22 ?_
    refine v_iinc (pc := 92) (j := 3) (v := s1.2 + 1) (lv' := [(0, .ref (gA g 0)), (1, .ref (gA g o1)), (2, .int l2), (3, .int (s1.2 + 1))]) F dX11_pack_92 rfl (congrArg (fun z => s1.2 + z) ic_1) (by decide) rfl ?_
    refine v_goto (pc := 95) (tgt := 70) F dX11_pack_95 (by decide) ?_
    exact hk (h21, s1.2 + 1) (Option.some.inj hf).symm
set_option maxRecDepth 100000 in
set_option maxHeartbeats 4000000 in
theorem kX11_pack {l : Launch} {g : GE} {B : Nat} {h : ST} {o1 n_o1 : Nat} (ho_o1 : o1 < 43) (hk_o1 : KM o1 = (20, n_o1)) {a2 : Int32} {y : ST} (hf : fX11_pack h o1 n_o1 a2 = some y) : CT l yX11_pack cX11_pack 4 none 1 KM 43 g B [.ref (gA g 0), .ref (gA g o1), .int a2] h none y := by
  refine CT.of pn_X11 (Nat.le_of_ble_eq_true rfl) ?_
  intro p e s m below meth c hr F
  have F : Fx p s m _ meth c cX11_pack 4 "DustParishModel" 43 g B := F
  refine V_lv (lv' := [(0, .ref (gA g 0)), (1, .ref (gA g o1)), (2, .int a2)]) rfl ?_
  unfold fX11_pack at hf
  refine v_aload_n (pc := 0) (j := 1) F dX11_pack_0 rfl rfl ?_
  refine v_iload_n (pc := 1) (j := 2) F dX11_pack_1 rfl rfl ?_
  refine v_aload_n (pc := 2) (j := 0) F dX11_pack_2 rfl rfl ?_
  refine v_ifl (pc := 3) F fl_X11_333 dX11_pack_3 km_0.1 km_0.2 fv_10_33 ?_
  obtain ⟨h1, e2, hf⟩ := bnd_some hf
  refine v_iast (pc := 6) F dX11_pack_6 ho_o1 hk_o1 e2 ?_
  refine v_aload_n (pc := 7) (j := 1) F dX11_pack_7 rfl rfl ?_
  refine v_iload_n (pc := 8) (j := 2) F dX11_pack_8 rfl rfl ?_
  refine v_iconst (pc := 9) (v := 1) F dX11_pack_9 ic_1 ?_
  refine v_iadd (pc := 10) F dX11_pack_10 ?_
  refine v_aload_n (pc := 11) (j := 0) F dX11_pack_11 rfl rfl ?_
  refine v_ifl (pc := 12) F fl_X11_335 dX11_pack_12 km_0.1 km_0.2 fv_10_34 ?_
  obtain ⟨h3, e4, hf⟩ := bnd_some hf
  refine v_iast (pc := 15) F dX11_pack_15 ho_o1 hk_o1 e4 ?_
  refine v_aload_n (pc := 16) (j := 1) F dX11_pack_16 rfl rfl ?_
  refine v_iload_n (pc := 17) (j := 2) F dX11_pack_17 rfl rfl ?_
  refine v_iconst (pc := 18) (v := 2) F dX11_pack_18 ic_2 ?_
  refine v_iadd (pc := 19) F dX11_pack_19 ?_
  refine v_aload_n (pc := 20) (j := 0) F dX11_pack_20 rfl rfl ?_
  refine v_ifl (pc := 21) F fl_X11_338 dX11_pack_21 km_0.1 km_0.2 fv_10_35 ?_
  obtain ⟨h5, e6, hf⟩ := bnd_some hf
  refine v_iast (pc := 24) F dX11_pack_24 ho_o1 hk_o1 e6 ?_
  refine v_iconst (pc := 25) (v := 0) F dX11_pack_25 ic_0 ?_
  refine v_istore_n (pc := 26) (lv' := [(0, .ref (gA g 0)), (1, .ref (gA g o1)), (2, .int a2), (3, .int 0)]) F dX11_pack_26 rfl (by decide) rfl ?_
  obtain ⟨x16, e17, hf⟩ := bnd_some hf
  refine tX11_pack_27 (s0 := (h5, 0)) ho_o1 hk_o1 F ?_ e17
  refine v_iconst (pc := 68) (v := 0) F dX11_pack_68 ic_0 ?_
  refine v_istore_n (pc := 69) (lv' := [(0, .ref (gA g 0)), (1, .ref (gA g o1)), (2, .int a2), (3, .int 0)]) F dX11_pack_69 rfl (by decide) rfl ?_
  obtain ⟨x23, e24, hf⟩ := bnd_some hf
  refine tX11_pack_70 (s0 := (x16, 0)) ho_o1 hk_o1 F ?_ e24
  exact v_vret (pc := 98) F hr dX11_pack_98 (Option.some.inj hf) (Nat.zero_le _)
def fX11_unpack_27 (o1 : Nat) (n_o1 : Nat) (l2 : Int32) (s1 : (ST × Int32)) : Option ((ST × Int32) ⊕ ST) :=
  if 9 ≤ s1.2 then
  some (.inr s1.1)
  else
  bnd (rd n_o1 (s1.1 o1) ((l2 + 3) + s1.2)) fun v14 =>
    bnd (wr 9 s1.1 19 s1.2 v14) fun h16 =>
    bnd (rd n_o1 (h16 o1) (((l2 + 3) + 9) + s1.2)) fun v18 =>
    bnd (wr 9 h16 20 s1.2 v18) fun h20 =>
    some (.inl (h20, s1.2 + 1))
def fX11_unpack_70 (o1 : Nat) (n_o1 : Nat) (l2 : Int32) (s1 : (ST × Int32)) : Option ((ST × Int32) ⊕ ST) :=
  if 10 ≤ s1.2 then
  some (.inr s1.1)
  else
  bnd (rd n_o1 (s1.1 o1) (((l2 + 3) + 18) + s1.2)) fun v25 =>
    bnd (wr 10 s1.1 21 s1.2 v25) fun h27 =>
    some (.inl (h27, s1.2 + 1))
def fX11_unpack (h : ST) (o1 : Nat) (n_o1 : Nat) (a2 : Int32) : Option (ST) :=
  bnd (rd n_o1 (h o1) a2) fun v1 =>
  bnd (pw h 0 33 v1) fun h3 =>
  bnd (rd n_o1 (h3 o1) (a2 + 1)) fun v5 =>
  bnd (pw h3 0 34 v5) fun h7 =>
  bnd (rd n_o1 (h7 o1) (a2 + 2)) fun v9 =>
  bnd (pw h7 0 35 v9) fun h11 =>
  bnd (lp FU (fX11_unpack_27 o1 n_o1 a2) (h11, 0)) fun x22 =>
  bnd (lp FU (fX11_unpack_70 o1 n_o1 a2) (x22, 0)) fun x29 =>
  some x29
set_option maxRecDepth 100000 in
set_option maxHeartbeats 4000000 in
theorem tX11_unpack_27 {p : Program} {l : Launch} {e : Env} {s : State} {m : MethodId} {args : Array Value} {below : List Frame} {meth : Method} {c : Code} {g : GE} {B : Nat}  {o1 n_o1 : Nat} (ho_o1 : o1 < 43) (hk_o1 : KM o1 = (20, n_o1)) {l2 : Int32} {Q : State → Prop} {x : ST} {nf : Nat} {s0 : (ST × Int32)} (F : Fx p s m args meth c cX11_unpack 4 "DustParishModel" 43 g B) (hX0 : V p l e 1 0 s m args below meth c Q KM 43 g B 4 0 x 68 [(0, .ref (gA g 0)), (1, .ref (gA g o1)), (2, .int l2)] []) (hl : lp nf (fX11_unpack_27 o1 n_o1 l2) s0 = some x) : V p l e 1 0 s m args below meth c Q KM 43 g B 4 0 s0.1 27 [(0, .ref (gA g 0)), (1, .ref (gA g o1)), (2, .int l2), (3, .int s0.2)] [] := by
  refine lp_ind (P := fun s0 => V p l e 1 0 s m args below meth c Q KM 43 g B 4 0 s0.1 27 [(0, .ref (gA g 0)), (1, .ref (gA g o1)), (2, .int l2), (3, .int s0.2)] []) ?_ nf s0 hl
  intro s1 y hf hk hx
  have hx0 : ∀ v : ST, y = Sum.inr v → V p l e 1 0 s m args below meth c Q KM 43 g B 4 0 v 68 [(0, .ref (gA g 0)), (1, .ref (gA g o1)), (2, .int l2)] [] := fun v e9 => by rw [hx v e9]; exact hX0
  unfold fX11_unpack_27 at hf
  refine v_iload_n (pc := 27) (j := 3) F dX11_unpack_27 rfl rfl ?_
  refine v_bipush (pc := 28) (v := 9) F dX11_unpack_28 bp_9 ?_
  refine v_icmp_ge (pc := 30) (tgt := 68) F dX11_unpack_30 (by decide) (fun c13 => ?_) (fun c13 => ?_)
  · have hf := ite_t hf c13
    refine V.sub (lv' := [(0, .ref (gA g 0)), (1, .ref (gA g o1)), (2, .int l2)]) [0, 1, 2] rfl ?_
    exact hx0 s1.1 (Option.some.inj hf).symm
  · have hf := ite_f hf c13
    refine v_aload_n (pc := 33) (j := 0) F dX11_unpack_33 rfl rfl ?_
    refine v_ifl (pc := 34) F fl_X11_87 dX11_unpack_34 km_0.1 km_0.2 fv_10_29 ?_
    refine v_iload_n (pc := 37) (j := 3) F dX11_unpack_37 rfl rfl ?_
    refine v_aload_n (pc := 38) (j := 1) F dX11_unpack_38 rfl rfl ?_
    refine v_iload_n (pc := 39) (j := 2) F dX11_unpack_39 rfl rfl ?_
    refine v_iconst (pc := 40) (v := 3) F dX11_unpack_40 ic_3 ?_
    refine v_iadd (pc := 41) F dX11_unpack_41 ?_
    refine v_iload_n (pc := 42) (j := 3) F dX11_unpack_42 rfl rfl ?_
    refine v_iadd (pc := 43) F dX11_unpack_43 ?_
    obtain ⟨v14, e15, hf⟩ := bnd_some hf
    refine v_iald (pc := 44) F dX11_unpack_44 ho_o1 hk_o1 e15 ?_
    obtain ⟨h16, e17, hf⟩ := bnd_some hf
    refine v_iast (pc := 45) F dX11_unpack_45 km_19.1 km_19.2 e17 ?_
    refine v_aload_n (pc := 46) (j := 0) F dX11_unpack_46 rfl rfl ?_
    refine v_ifl (pc := 47) F fl_X11_89 dX11_unpack_47 km_0.1 km_0.2 fv_10_30 ?_
    refine v_iload_n (pc := 50) (j := 3) F dX11_unpack_50 rfl rfl ?_
    refine v_aload_n (pc := 51) (j := 1) F dX11_unpack_51 rfl rfl ?_
    refine v_iload_n (pc := 52) (j := 2) F dX11_unpack_52 rfl rfl ?_
    refine v_iconst (pc := 53) (v := 3) F dX11_unpack_53 ic_3 ?_
    refine v_iadd (pc := 54) F dX11_unpack_54 ?_
    refine v_bipush (pc := 55) (v := 9) F dX11_unpack_55 bp_9 ?_
    refine v_iadd (pc := 57) F dX11_unpack_57 ?_
    refine v_iload_n (pc := 58) (j := 3) F dX11_unpack_58 rfl rfl ?_
    refine v_iadd (pc := 59) F dX11_unpack_59 ?_
    obtain ⟨v18, e19, hf⟩ := bnd_some hf
    refine v_iald (pc := 60) F dX11_unpack_60 ho_o1 hk_o1 e19 ?_
    obtain ⟨h20, e21, hf⟩ := bnd_some hf
    refine v_iast (pc := 61) F dX11_unpack_61 km_20.1 km_20.2 e21 ?_
    refine v_iinc (pc := 62) (j := 3) (v := s1.2 + 1) (lv' := [(0, .ref (gA g 0)), (1, .ref (gA g o1)), (2, .int l2), (3, .int (s1.2 + 1))]) F dX11_unpack_62 rfl (congrArg (fun z => s1.2 + z) ic_1) (by decide) rfl ?_
    refine v_goto (pc := 65) (tgt := 27) F dX11_unpack_65 (by decide) ?_
    exact hk (h20, s1.2 + 1) (Option.some.inj hf).symm
set_option maxRecDepth 100000 in
set_option maxHeartbeats 4000000 in
theorem tX11_unpack_70 {p : Program} {l : Launch} {e : Env} {s : State} {m : MethodId} {args : Array Value} {below : List Frame} {meth : Method} {c : Code} {g : GE} {B : Nat}  {o1 n_o1 : Nat} (ho_o1 : o1 < 43) (hk_o1 : KM o1 = (20, n_o1)) {l2 : Int32} {Q : State → Prop} {x : ST} {nf : Nat} {s0 : (ST × Int32)} (F : Fx p s m args meth c cX11_unpack 4 "DustParishModel" 43 g B) (hX0 : V p l e 1 0 s m args below meth c Q KM 43 g B 4 0 x 98 [] []) (hl : lp nf (fX11_unpack_70 o1 n_o1 l2) s0 = some x) : V p l e 1 0 s m args below meth c Q KM 43 g B 4 0 s0.1 70 [(0, .ref (gA g 0)), (1, .ref (gA g o1)), (2, .int l2), (3, .int s0.2)] [] := by
  refine lp_ind (P := fun s0 => V p l e 1 0 s m args below meth c Q KM 43 g B 4 0 s0.1 70 [(0, .ref (gA g 0)), (1, .ref (gA g o1)), (2, .int l2), (3, .int s0.2)] []) ?_ nf s0 hl
  intro s1 y hf hk hx
  have hx0 : ∀ v : ST, y = Sum.inr v → V p l e 1 0 s m args below meth c Q KM 43 g B 4 0 v 98 [] [] := fun v e9 => by rw [hx v e9]; exact hX0
  unfold fX11_unpack_70 at hf
  refine v_iload_n (pc := 70) (j := 3) F dX11_unpack_70 rfl rfl ?_
  refine v_bipush (pc := 71) (v := 10) F dX11_unpack_71 bp_10 ?_
  refine v_icmp_ge (pc := 73) (tgt := 98) F dX11_unpack_73 (by decide) (fun c24 => ?_) (fun c24 => ?_)
  · have hf := ite_t hf c24
    refine V.sub (lv' := []) [] rfl ?_
    exact hx0 s1.1 (Option.some.inj hf).symm
  · have hf := ite_f hf c24
    refine v_aload_n (pc := 76) (j := 0) F dX11_unpack_76 rfl rfl ?_
    refine v_ifl (pc := 77) F fl_X11_91 dX11_unpack_77 km_0.1 km_0.2 fv_10_31 ?_
    refine v_iload_n (pc := 80) (j := 3) F dX11_unpack_80 rfl rfl ?_
    refine v_aload_n (pc := 81) (j := 1) F dX11_unpack_81 rfl rfl ?_
    refine v_iload_n (pc := 82) (j := 2) F dX11_unpack_82 rfl rfl ?_
    refine v_iconst (pc := 83) (v := 3) F dX11_unpack_83 ic_3 ?_
    refine v_iadd (pc := 84) F dX11_unpack_84 ?_
    refine v_bipush (pc := 85) (v := 18) F dX11_unpack_85 bp_18 ?_
    refine v_iadd (pc := 87) F dX11_unpack_87 ?_
    refine v_iload_n (pc := 88) (j := 3) F dX11_unpack_88 rfl rfl ?_
    refine v_iadd (pc := 89) F dX11_unpack_89 ?_
    obtain ⟨v25, e26, hf⟩ := bnd_some hf
    refine v_iald (pc := 90) F dX11_unpack_90 ho_o1 hk_o1 e26 ?_
    obtain ⟨h27, e28, hf⟩ := bnd_some hf
    refine v_iast (pc := 91) F dX11_unpack_91 km_21.1 km_21.2 e28 ?_
    refine v_iinc (pc := 92) (j := 3) (v := s1.2 + 1) (lv' := [(0, .ref (gA g 0)), (1, .ref (gA g o1)), (2, .int l2), (3, .int (s1.2 + 1))]) F dX11_unpack_92 rfl (congrArg (fun z => s1.2 + z) ic_1) (by decide) rfl ?_
    refine v_goto (pc := 95) (tgt := 70) F dX11_unpack_95 (by decide) ?_
    exact hk (h27, s1.2 + 1) (Option.some.inj hf).symm
set_option maxRecDepth 100000 in
set_option maxHeartbeats 4000000 in
theorem kX11_unpack {l : Launch} {g : GE} {B : Nat} {h : ST} {o1 n_o1 : Nat} (ho_o1 : o1 < 43) (hk_o1 : KM o1 = (20, n_o1)) {a2 : Int32} {y : ST} (hf : fX11_unpack h o1 n_o1 a2 = some y) : CT l yX11_unpack cX11_unpack 4 none 1 KM 43 g B [.ref (gA g 0), .ref (gA g o1), .int a2] h none y := by
  refine CT.of pn_X11 (Nat.le_of_ble_eq_true rfl) ?_
  intro p e s m below meth c hr F
  have F : Fx p s m _ meth c cX11_unpack 4 "DustParishModel" 43 g B := F
  refine V_lv (lv' := [(0, .ref (gA g 0)), (1, .ref (gA g o1)), (2, .int a2)]) rfl ?_
  unfold fX11_unpack at hf
  refine v_aload_n (pc := 0) (j := 0) F dX11_unpack_0 rfl rfl ?_
  refine v_aload_n (pc := 1) (j := 1) F dX11_unpack_1 rfl rfl ?_
  refine v_iload_n (pc := 2) (j := 2) F dX11_unpack_2 rfl rfl ?_
  obtain ⟨v1, e2, hf⟩ := bnd_some hf
  refine v_iald (pc := 3) F dX11_unpack_3 ho_o1 hk_o1 e2 ?_
  obtain ⟨h3, e4, hf⟩ := bnd_some hf
  refine v_pfl (pc := 4) F fl_X11_333 pl_10_33 dX11_unpack_4 km_0.1 km_0.2 fv_10_33 rfl rfl e4 ?_
  refine v_aload_n (pc := 7) (j := 0) F dX11_unpack_7 rfl rfl ?_
  refine v_aload_n (pc := 8) (j := 1) F dX11_unpack_8 rfl rfl ?_
  refine v_iload_n (pc := 9) (j := 2) F dX11_unpack_9 rfl rfl ?_
  refine v_iconst (pc := 10) (v := 1) F dX11_unpack_10 ic_1 ?_
  refine v_iadd (pc := 11) F dX11_unpack_11 ?_
  obtain ⟨v5, e6, hf⟩ := bnd_some hf
  refine v_iald (pc := 12) F dX11_unpack_12 ho_o1 hk_o1 e6 ?_
  obtain ⟨h7, e8, hf⟩ := bnd_some hf
  refine v_pfl (pc := 13) F fl_X11_335 pl_10_34 dX11_unpack_13 km_0.1 km_0.2 fv_10_34 rfl rfl e8 ?_
  refine v_aload_n (pc := 16) (j := 0) F dX11_unpack_16 rfl rfl ?_
  refine v_aload_n (pc := 17) (j := 1) F dX11_unpack_17 rfl rfl ?_
  refine v_iload_n (pc := 18) (j := 2) F dX11_unpack_18 rfl rfl ?_
  refine v_iconst (pc := 19) (v := 2) F dX11_unpack_19 ic_2 ?_
  refine v_iadd (pc := 20) F dX11_unpack_20 ?_
  obtain ⟨v9, e10, hf⟩ := bnd_some hf
  refine v_iald (pc := 21) F dX11_unpack_21 ho_o1 hk_o1 e10 ?_
  obtain ⟨h11, e12, hf⟩ := bnd_some hf
  refine v_pfl (pc := 22) F fl_X11_338 pl_10_35 dX11_unpack_22 km_0.1 km_0.2 fv_10_35 rfl rfl e12 ?_
  refine v_iconst (pc := 25) (v := 0) F dX11_unpack_25 ic_0 ?_
  refine v_istore_n (pc := 26) (lv' := [(0, .ref (gA g 0)), (1, .ref (gA g o1)), (2, .int a2), (3, .int 0)]) F dX11_unpack_26 rfl (by decide) rfl ?_
  obtain ⟨x22, e23, hf⟩ := bnd_some hf
  refine tX11_unpack_27 (s0 := (h11, 0)) ho_o1 hk_o1 F ?_ e23
  refine v_iconst (pc := 68) (v := 0) F dX11_unpack_68 ic_0 ?_
  refine v_istore_n (pc := 69) (lv' := [(0, .ref (gA g 0)), (1, .ref (gA g o1)), (2, .int a2), (3, .int 0)]) F dX11_unpack_69 rfl (by decide) rfl ?_
  obtain ⟨x29, e30, hf⟩ := bnd_some hf
  refine tX11_unpack_70 (s0 := (x22, 0)) ho_o1 hk_o1 F ?_ e30
  exact v_vret (pc := 98) F hr dX11_unpack_98 (Option.some.inj hf) (Nat.zero_le _)
def fX11_byOrder_11 (l1 : Int32) (s1 : (ST × Int32)) : Option ((ST × Int32) ⊕ ST) :=
  bnd (rd 14 (s1.1 3) 2) fun v3 =>
  if v3 ≤ s1.2 then
  some (.inr s1.1)
  else
  bnd (rd 5 (s1.1 28) s1.2) fun v6 =>
    bnd (rd 14 (s1.1 3) 4) fun v8 =>
    bnd (fX11_passes s1.1 v6 v8) fun r10 =>
    some (.inl (r10, s1.2 + 1))
def fX11_byOrder (h : ST) (a1 : Int32) : Option (Int32 × ST) :=
  bnd (fX11_pack h 27 31 0) fun r1 =>
  bnd (lp FU (fX11_byOrder_11 a1) (r1, 0)) fun x12 =>
  bnd (rd 9 (x12 19) a1) fun v14 =>
  bnd (fX11_unpack x12 27 31 0) fun r16 =>
  some (v14, r16)
set_option maxRecDepth 100000 in
set_option maxHeartbeats 4000000 in
theorem tX11_byOrder_11 {p : Program} {l : Launch} {e : Env} {s : State} {m : MethodId} {args : Array Value} {below : List Frame} {meth : Method} {c : Code} {g : GE} {B : Nat}   {l1 : Int32} {Q : State → Prop} {x : ST} {nf : Nat} {s0 : (ST × Int32)} (F : Fx p s m args meth c cX11_byOrder 3 "DustParishModel" 43 g B) (hX0 : V p l e 6 0 s m args below meth c Q KM 43 g B 3 0 x 43 [(0, .ref (gA g 0)), (1, .int l1)] []) (hl : lp nf (fX11_byOrder_11 l1) s0 = some x) : V p l e 6 0 s m args below meth c Q KM 43 g B 3 0 s0.1 11 [(0, .ref (gA g 0)), (1, .int l1), (2, .int s0.2)] [] := by
  refine lp_ind (P := fun s0 => V p l e 6 0 s m args below meth c Q KM 43 g B 3 0 s0.1 11 [(0, .ref (gA g 0)), (1, .int l1), (2, .int s0.2)] []) ?_ nf s0 hl
  intro s1 y hf hk hx
  have hx0 : ∀ v : ST, y = Sum.inr v → V p l e 6 0 s m args below meth c Q KM 43 g B 3 0 v 43 [(0, .ref (gA g 0)), (1, .int l1)] [] := fun v e9 => by rw [hx v e9]; exact hX0
  unfold fX11_byOrder_11 at hf
  refine v_iload_n (pc := 11) (j := 2) F dX11_byOrder_11 rfl rfl ?_
  refine v_aload_n (pc := 12) (j := 0) F dX11_byOrder_12 rfl rfl ?_
  refine v_ifl (pc := 13) F fl_X11_36 dX11_byOrder_13 km_0.1 km_0.2 fv_10_3 ?_
  refine v_iconst (pc := 16) (v := 2) F dX11_byOrder_16 ic_2 ?_
  obtain ⟨v3, e4, hf⟩ := bnd_some hf
  refine v_iald (pc := 17) F dX11_byOrder_17 km_3.1 km_3.2 e4 ?_
  refine v_icmp_ge (pc := 18) (tgt := 43) F dX11_byOrder_18 (by decide) (fun c5 => ?_) (fun c5 => ?_)
  · have hf := ite_t hf c5
    refine V.sub (lv' := [(0, .ref (gA g 0)), (1, .int l1)]) [0, 1] rfl ?_
    exact hx0 s1.1 (Option.some.inj hf).symm
  · have hf := ite_f hf c5
    refine v_aload_n (pc := 21) (j := 0) F dX11_byOrder_21 rfl rfl ?_
    refine v_aload_n (pc := 22) (j := 0) F dX11_byOrder_22 rfl rfl ?_
    refine v_ifl (pc := 23) F fl_X11_112 dX11_byOrder_23 km_0.1 km_0.2 fv_10_43 ?_
    refine v_iload_n (pc := 26) (j := 2) F dX11_byOrder_26 rfl rfl ?_
    obtain ⟨v6, e7, hf⟩ := bnd_some hf
    refine v_iald (pc := 27) F dX11_byOrder_27 km_28.1 km_28.2 e7 ?_
    refine v_aload_n (pc := 28) (j := 0) F dX11_byOrder_28 rfl rfl ?_
    refine v_ifl (pc := 29) F fl_X11_36 dX11_byOrder_29 km_0.1 km_0.2 fv_10_3 ?_
    refine v_iconst (pc := 32) (v := 4) F dX11_byOrder_32 ic_4 ?_
    obtain ⟨v8, e9, hf⟩ := bnd_some hf
    refine v_iald (pc := 33) F dX11_byOrder_33 km_3.1 km_3.2 e9 ?_
    obtain ⟨r10, e11, hf⟩ := bnd_some hf
    refine v_callVv (pc := 34) (As := [.int v6, .int v8]) F cl_X11_375 dX11_byOrder_34 (kX11_passes e11) km_0.1 km_0.2 rc_10 rfl rfl (Nat.le_of_ble_eq_true rfl) (by decide) (Nat.zero_le _) ?_
    refine v_iinc (pc := 37) (j := 2) (v := s1.2 + 1) (lv' := [(0, .ref (gA g 0)), (1, .int l1), (2, .int (s1.2 + 1))]) F dX11_byOrder_37 rfl (congrArg (fun z => s1.2 + z) ic_1) (by decide) rfl ?_
    refine v_goto (pc := 40) (tgt := 11) F dX11_byOrder_40 (by decide) ?_
    exact hk (r10, s1.2 + 1) (Option.some.inj hf).symm
set_option maxRecDepth 100000 in
set_option maxHeartbeats 4000000 in
theorem kX11_byOrder {l : Launch} {g : GE} {B : Nat} {h : ST} {a1 : Int32} {y : Int32 × ST} (hf : fX11_byOrder h a1 = some y) : CT l yX11_byOrder cX11_byOrder 3 (some .int) 6 KM 43 g B [.ref (gA g 0), .int a1] h (some (.int y.1)) y.2 := by
  refine CT.of pn_X11 (Nat.le_of_ble_eq_true rfl) ?_
  intro p e s m below meth c hr F
  have F : Fx p s m _ meth c cX11_byOrder 3 "DustParishModel" 43 g B := F
  refine V_lv (lv' := [(0, .ref (gA g 0)), (1, .int a1)]) rfl ?_
  unfold fX11_byOrder at hf
  refine v_aload_n (pc := 0) (j := 0) F dX11_byOrder_0 rfl rfl ?_
  refine v_aload_n (pc := 1) (j := 0) F dX11_byOrder_1 rfl rfl ?_
  refine v_ifl (pc := 2) F fl_X11_109 dX11_byOrder_2 km_0.1 km_0.2 fv_10_42 ?_
  refine v_iconst (pc := 5) (v := 0) F dX11_byOrder_5 ic_0 ?_
  obtain ⟨r1, e2, hf⟩ := bnd_some hf
  refine v_callVv (pc := 6) (As := [.ref (gA g 27), .int 0]) F cl_X11_403 dX11_byOrder_6 (kX11_pack km_27.1 km_27.2 e2) km_0.1 km_0.2 rc_10 rfl rfl (Nat.le_of_ble_eq_true rfl) (by decide) (Nat.zero_le _) ?_
  refine v_iconst (pc := 9) (v := 0) F dX11_byOrder_9 ic_0 ?_
  refine v_istore_n (pc := 10) (lv' := [(0, .ref (gA g 0)), (1, .int a1), (2, .int 0)]) F dX11_byOrder_10 rfl (by decide) rfl ?_
  obtain ⟨x12, e13, hf⟩ := bnd_some hf
  refine tX11_byOrder_11 (s0 := (r1, 0)) F ?_ e13
  refine v_aload_n (pc := 43) (j := 0) F dX11_byOrder_43 rfl rfl ?_
  refine v_ifl (pc := 44) F fl_X11_87 dX11_byOrder_44 km_0.1 km_0.2 fv_10_29 ?_
  refine v_iload_n (pc := 47) (j := 1) F dX11_byOrder_47 rfl rfl ?_
  obtain ⟨v14, e15, hf⟩ := bnd_some hf
  refine v_iald (pc := 48) F dX11_byOrder_48 km_19.1 km_19.2 e15 ?_
  refine v_istore_n (pc := 49) (lv' := [(0, .ref (gA g 0)), (1, .int a1), (2, .int v14)]) F dX11_byOrder_49 rfl (by decide) rfl ?_
  refine v_aload_n (pc := 50) (j := 0) F dX11_byOrder_50 rfl rfl ?_
  refine v_aload_n (pc := 51) (j := 0) F dX11_byOrder_51 rfl rfl ?_
  refine v_ifl (pc := 52) F fl_X11_109 dX11_byOrder_52 km_0.1 km_0.2 fv_10_42 ?_
  refine v_iconst (pc := 55) (v := 0) F dX11_byOrder_55 ic_0 ?_
  obtain ⟨r16, e17, hf⟩ := bnd_some hf
  refine v_callVv (pc := 56) (As := [.ref (gA g 27), .int 0]) F cl_X11_430 dX11_byOrder_56 (kX11_unpack km_27.1 km_27.2 e17) km_0.1 km_0.2 rc_10 rfl rfl (Nat.le_of_ble_eq_true rfl) (by decide) (Nat.zero_le _) ?_
  refine v_iload_n (pc := 59) (j := 2) F dX11_byOrder_59 rfl rfl ?_
  exact v_iret (pc := 60) F hr dX11_byOrder_60 (some_fst hf) (some_snd hf) (Nat.zero_le _)
def fX11_isAhead (h : ST) (a1 : Int32) : Option (Int32) :=
  bnd (fX11_isIn h a1.toInt64 (0 : Int64) (99 : Int64)) fun r1 =>
  bnd (zb r1) fun z3 =>
  some z3
set_option maxRecDepth 100000 in
set_option maxHeartbeats 4000000 in
theorem kX11_isAhead {l : Launch} {g : GE} {B : Nat} {h : ST} {a1 : Int32} {y : Int32} (hf : fX11_isAhead h a1 = some y) : CT l yX11_isAhead cX11_isAhead 1 (some .boolean) 2 KM 43 g B [.int a1] h (some (.int y)) h := by
  refine CT.of pn_X11 (Nat.le_of_ble_eq_true rfl) ?_
  intro p e s m below meth c hr F
  have F : Fx p s m _ meth c cX11_isAhead 1 "DustParishModel" 43 g B := F
  refine V_lv (lv' := [(0, .int a1)]) rfl ?_
  unfold fX11_isAhead at hf
  refine v_iload_n (pc := 0) (j := 0) F dX11_isAhead_0 rfl rfl ?_
  refine v_i2l (pc := 1) F dX11_isAhead_1 rfl ?_
  refine v_lconst (pc := 2) (v := 0) F dX11_isAhead_2 rfl ?_
  refine v_ldc2 (pc := 3) F tw_1745 dX11_isAhead_3 ?_
  obtain ⟨r1, e2, hf⟩ := bnd_some hf
  refine v_callSi (pc := 6) (As := [.long a1.toInt64, .long (0 : Int64), .long (99 : Int64)]) F cl_X11_160 dX11_isAhead_6 (kX11_isIn e2) rfl rfl (Nat.le_of_ble_eq_true rfl) (by decide) (Nat.zero_le _) ?_
  obtain ⟨z3, e4, hf⟩ := bnd_some hf
  exact v_zret (pc := 9) F hr dX11_isAhead_9 (zb_in e4).2 ((zb_in e4).1.symm.trans (Option.some.inj hf)) rfl (Nat.zero_le _)
def fX11_takenIn_17 (l1 : Int32) (l2 : Int32) (l3 : Int32) (s1 : (ST × Int32)) : Option ((ST × Int32) ⊕ ST) :=
  if l1 ≤ s1.2 then
  some (.inr s1.1)
  else
  bnd (fX11_windOf s1.1 (s1.1 0 33)) fun r4 =>
    bnd (fX11_passes s1.1 r4 l2) fun r6 =>
    some (.inl (r6, s1.2 + 1))
def fX11_takenIn (h : ST) (a1 : Int32) (a2 : Int32) : Option (Int32 × ST) :=
  bnd (fX11_pack h 27 31 0) fun r1 =>
  bnd (lp FU (fX11_takenIn_17 a1 a2 (r1 0 34)) (r1, 0)) fun x8 =>
  bnd (fX11_unpack x8 27 31 0) fun r10 =>
  some ((x8 0 34) - (r1 0 34), r10)
set_option maxRecDepth 100000 in
set_option maxHeartbeats 4000000 in
theorem tX11_takenIn_17 {p : Program} {l : Launch} {e : Env} {s : State} {m : MethodId} {args : Array Value} {below : List Frame} {meth : Method} {c : Code} {g : GE} {B : Nat}   {l1 : Int32} {l2 : Int32} {l3 : Int32} {Q : State → Prop} {x : ST} {nf : Nat} {s0 : (ST × Int32)} (F : Fx p s m args meth c cX11_takenIn 5 "DustParishModel" 43 g B) (hX0 : V p l e 6 0 s m args below meth c Q KM 43 g B 5 0 x 42 [(0, .ref (gA g 0)), (3, .int l3)] []) (hl : lp nf (fX11_takenIn_17 l1 l2 l3) s0 = some x) : V p l e 6 0 s m args below meth c Q KM 43 g B 5 0 s0.1 17 [(0, .ref (gA g 0)), (1, .int l1), (2, .int l2), (3, .int l3), (4, .int s0.2)] [] := by
  refine lp_ind (P := fun s0 => V p l e 6 0 s m args below meth c Q KM 43 g B 5 0 s0.1 17 [(0, .ref (gA g 0)), (1, .int l1), (2, .int l2), (3, .int l3), (4, .int s0.2)] []) ?_ nf s0 hl
  intro s1 y hf hk hx
  have hx0 : ∀ v : ST, y = Sum.inr v → V p l e 6 0 s m args below meth c Q KM 43 g B 5 0 v 42 [(0, .ref (gA g 0)), (3, .int l3)] [] := fun v e9 => by rw [hx v e9]; exact hX0
  unfold fX11_takenIn_17 at hf
  refine v_iload (pc := 17) (j := 4) F dX11_takenIn_17 rfl ?_
  refine v_iload_n (pc := 19) (j := 1) F dX11_takenIn_19 rfl rfl ?_
  refine v_icmp_ge (pc := 20) (tgt := 42) F dX11_takenIn_20 (by decide) (fun c3 => ?_) (fun c3 => ?_)
  · have hf := ite_t hf c3
    refine V.sub (lv' := [(0, .ref (gA g 0)), (3, .int l3)]) [0, 3] rfl ?_
    exact hx0 s1.1 (Option.some.inj hf).symm
  · have hf := ite_f hf c3
    refine v_aload_n (pc := 23) (j := 0) F dX11_takenIn_23 rfl rfl ?_
    refine v_aload_n (pc := 24) (j := 0) F dX11_takenIn_24 rfl rfl ?_
    refine v_aload_n (pc := 25) (j := 0) F dX11_takenIn_25 rfl rfl ?_
    refine v_ifl (pc := 26) F fl_X11_333 dX11_takenIn_26 km_0.1 km_0.2 fv_10_33 ?_
    obtain ⟨r4, e5, hf⟩ := bnd_some hf
    refine v_callVi (pc := 29) (As := [.int (s1.1 0 33)]) F cl_X11_372 dX11_takenIn_29 (kX11_windOf e5) km_0.1 km_0.2 rc_10 rfl rfl (Nat.le_of_ble_eq_true rfl) (by decide) (Nat.zero_le _) ?_
    refine v_iload_n (pc := 32) (j := 2) F dX11_takenIn_32 rfl rfl ?_
    obtain ⟨r6, e7, hf⟩ := bnd_some hf
    refine v_callVv (pc := 33) (As := [.int r4, .int l2]) F cl_X11_375 dX11_takenIn_33 (kX11_passes e7) km_0.1 km_0.2 rc_10 rfl rfl (Nat.le_of_ble_eq_true rfl) (by decide) (Nat.zero_le _) ?_
    refine v_iinc (pc := 36) (j := 4) (v := s1.2 + 1) (lv' := [(0, .ref (gA g 0)), (1, .int l1), (2, .int l2), (3, .int l3), (4, .int (s1.2 + 1))]) F dX11_takenIn_36 rfl (congrArg (fun z => s1.2 + z) ic_1) (by decide) rfl ?_
    refine v_goto (pc := 39) (tgt := 17) F dX11_takenIn_39 (by decide) ?_
    exact hk (r6, s1.2 + 1) (Option.some.inj hf).symm
set_option maxRecDepth 100000 in
set_option maxHeartbeats 4000000 in
theorem kX11_takenIn {l : Launch} {g : GE} {B : Nat} {h : ST} {a1 : Int32} {a2 : Int32} {y : Int32 × ST} (hf : fX11_takenIn h a1 a2 = some y) : CT l yX11_takenIn cX11_takenIn 5 (some .int) 6 KM 43 g B [.ref (gA g 0), .int a1, .int a2] h (some (.int y.1)) y.2 := by
  refine CT.of pn_X11 (Nat.le_of_ble_eq_true rfl) ?_
  intro p e s m below meth c hr F
  have F : Fx p s m _ meth c cX11_takenIn 5 "DustParishModel" 43 g B := F
  refine V_lv (lv' := [(0, .ref (gA g 0)), (1, .int a1), (2, .int a2)]) rfl ?_
  unfold fX11_takenIn at hf
  refine v_aload_n (pc := 0) (j := 0) F dX11_takenIn_0 rfl rfl ?_
  refine v_aload_n (pc := 1) (j := 0) F dX11_takenIn_1 rfl rfl ?_
  refine v_ifl (pc := 2) F fl_X11_109 dX11_takenIn_2 km_0.1 km_0.2 fv_10_42 ?_
  refine v_iconst (pc := 5) (v := 0) F dX11_takenIn_5 ic_0 ?_
  obtain ⟨r1, e2, hf⟩ := bnd_some hf
  refine v_callVv (pc := 6) (As := [.ref (gA g 27), .int 0]) F cl_X11_403 dX11_takenIn_6 (kX11_pack km_27.1 km_27.2 e2) km_0.1 km_0.2 rc_10 rfl rfl (Nat.le_of_ble_eq_true rfl) (by decide) (Nat.zero_le _) ?_
  refine v_aload_n (pc := 9) (j := 0) F dX11_takenIn_9 rfl rfl ?_
  refine v_ifl (pc := 10) F fl_X11_335 dX11_takenIn_10 km_0.1 km_0.2 fv_10_34 ?_
  refine v_istore_n (pc := 13) (lv' := [(0, .ref (gA g 0)), (1, .int a1), (2, .int a2), (3, .int (r1 0 34))]) F dX11_takenIn_13 rfl (by decide) rfl ?_
  refine v_iconst (pc := 14) (v := 0) F dX11_takenIn_14 ic_0 ?_
  refine v_istore (pc := 15) (lv' := [(0, .ref (gA g 0)), (1, .int a1), (2, .int a2), (3, .int (r1 0 34)), (4, .int 0)]) F dX11_takenIn_15 (by decide) rfl ?_
  obtain ⟨x8, e9, hf⟩ := bnd_some hf
  refine tX11_takenIn_17 (s0 := (r1, 0)) F ?_ e9
  refine v_aload_n (pc := 42) (j := 0) F dX11_takenIn_42 rfl rfl ?_
  refine v_ifl (pc := 43) F fl_X11_335 dX11_takenIn_43 km_0.1 km_0.2 fv_10_34 ?_
  refine v_iload_n (pc := 46) (j := 1) F dX11_takenIn_46 rfl rfl ?_
  refine v_isub (pc := 47) F dX11_takenIn_47 ?_
  refine v_istore (pc := 48) (lv' := [(0, .ref (gA g 0)), (3, .int (r1 0 34)), (4, .int ((x8 0 34) - (r1 0 34)))]) F dX11_takenIn_48 (by decide) rfl ?_
  refine v_aload_n (pc := 50) (j := 0) F dX11_takenIn_50 rfl rfl ?_
  refine v_aload_n (pc := 51) (j := 0) F dX11_takenIn_51 rfl rfl ?_
  refine v_ifl (pc := 52) F fl_X11_109 dX11_takenIn_52 km_0.1 km_0.2 fv_10_42 ?_
  refine v_iconst (pc := 55) (v := 0) F dX11_takenIn_55 ic_0 ?_
  obtain ⟨r10, e11, hf⟩ := bnd_some hf
  refine v_callVv (pc := 56) (As := [.ref (gA g 27), .int 0]) F cl_X11_430 dX11_takenIn_56 (kX11_unpack km_27.1 km_27.2 e11) km_0.1 km_0.2 rc_10 rfl rfl (Nat.le_of_ble_eq_true rfl) (by decide) (Nat.zero_le _) ?_
  refine v_iload (pc := 59) (j := 2) F dX11_takenIn_59 rfl ?_
  exact v_iret (pc := 61) F hr dX11_takenIn_61 (some_fst hf) (some_snd hf) (Nat.zero_le _)
def fX11_exchange (h : ST) (a1 : Int32) (a2 : Int32) : Option (ST) :=
  bnd (rd 10 (h 21) a1) fun v1 =>
  bnd (rd 10 (h 21) a2) fun v3 =>
  bnd (wr 10 h 21 a1 v3) fun h5 =>
  bnd (wr 10 h5 21 a2 v1) fun h7 =>
  some h7
set_option maxRecDepth 100000 in
set_option maxHeartbeats 4000000 in
theorem kX11_exchange {l : Launch} {g : GE} {B : Nat} {h : ST} {a1 : Int32} {a2 : Int32} {y : ST} (hf : fX11_exchange h a1 a2 = some y) : CT l yX11_exchange cX11_exchange 4 none 1 KM 43 g B [.ref (gA g 0), .int a1, .int a2] h none y := by
  refine CT.of pn_X11 (Nat.le_of_ble_eq_true rfl) ?_
  intro p e s m below meth c hr F
  have F : Fx p s m _ meth c cX11_exchange 4 "DustParishModel" 43 g B := F
  refine V_lv (lv' := [(0, .ref (gA g 0)), (1, .int a1), (2, .int a2)]) rfl ?_
  unfold fX11_exchange at hf
  refine v_aload_n (pc := 0) (j := 0) F dX11_exchange_0 rfl rfl ?_
  refine v_ifl (pc := 1) F fl_X11_91 dX11_exchange_1 km_0.1 km_0.2 fv_10_31 ?_
  refine v_iload_n (pc := 4) (j := 1) F dX11_exchange_4 rfl rfl ?_
  obtain ⟨v1, e2, hf⟩ := bnd_some hf
  refine v_iald (pc := 5) F dX11_exchange_5 km_21.1 km_21.2 e2 ?_
  refine v_istore_n (pc := 6) (lv' := [(0, .ref (gA g 0)), (1, .int a1), (2, .int a2), (3, .int v1)]) F dX11_exchange_6 rfl (by decide) rfl ?_
  refine v_aload_n (pc := 7) (j := 0) F dX11_exchange_7 rfl rfl ?_
  refine v_ifl (pc := 8) F fl_X11_91 dX11_exchange_8 km_0.1 km_0.2 fv_10_31 ?_
  refine v_iload_n (pc := 11) (j := 1) F dX11_exchange_11 rfl rfl ?_
  refine v_aload_n (pc := 12) (j := 0) F dX11_exchange_12 rfl rfl ?_
  refine v_ifl (pc := 13) F fl_X11_91 dX11_exchange_13 km_0.1 km_0.2 fv_10_31 ?_
  refine v_iload_n (pc := 16) (j := 2) F dX11_exchange_16 rfl rfl ?_
  obtain ⟨v3, e4, hf⟩ := bnd_some hf
  refine v_iald (pc := 17) F dX11_exchange_17 km_21.1 km_21.2 e4 ?_
  obtain ⟨h5, e6, hf⟩ := bnd_some hf
  refine v_iast (pc := 18) F dX11_exchange_18 km_21.1 km_21.2 e6 ?_
  refine v_aload_n (pc := 19) (j := 0) F dX11_exchange_19 rfl rfl ?_
  refine v_ifl (pc := 20) F fl_X11_91 dX11_exchange_20 km_0.1 km_0.2 fv_10_31 ?_
  refine v_iload_n (pc := 23) (j := 2) F dX11_exchange_23 rfl rfl ?_
  refine v_iload_n (pc := 24) (j := 3) F dX11_exchange_24 rfl rfl ?_
  obtain ⟨h7, e8, hf⟩ := bnd_some hf
  refine v_iast (pc := 25) F dX11_exchange_25 km_21.1 km_21.2 e8 ?_
  exact v_vret (pc := 26) F hr dX11_exchange_26 (Option.some.inj hf) (Nat.zero_le _)
def fX11_change_113 (h : ST) (l1 : Int32) (l2 : Int32) (l3 : Int32) (l4 : Int32) (l5 : Int32) : Option ((ST × Int32 × Int32 × Int32) ⊕ (ST × Int32 × Int32)) :=
  some (.inl (h, l2, l3, l5 + 1))
def fX11_change_52 (l1 : Int32) (l4 : Int32) (s1 : (ST × Int32 × Int32 × Int32)) : Option ((ST × Int32 × Int32 × Int32) ⊕ (ST × Int32 × Int32)) :=
  bnd (rd 14 (s1.1 3) 3) fun v13 =>
  if v13 ≤ s1.2.2.2 then
  some (.inr (s1.1, s1.2.1, s1.2.2.1))
  else
  bnd (fX11_exchange s1.1 l4 s1.2.2.2) fun r16 =>
    bnd (rd 14 (r16 3) 4) fun v18 =>
    bnd (fX11_takenIn r16 l1 v18) fun r20 =>
    bnd (fX11_exchange r20.2 l4 s1.2.2.2) fun r22 =>
    if s1.2.1 < r20.1 then
    fX11_change_113 r22 l1 r20.1 ((10 * l4) + s1.2.2.2) l4 s1.2.2.2
    else
    fX11_change_113 r22 l1 s1.2.1 s1.2.2.1 l4 s1.2.2.2
def fX11_change_35 (l1 : Int32) (s1 : (ST × Int32 × Int32 × Int32)) : Option ((ST × Int32 × Int32 × Int32) ⊕ (ST × Int32)) :=
  bnd (rd 14 (s1.1 3) 3) fun v10 =>
  if v10 ≤ s1.2.2.2 then
  some (.inr (s1.1, s1.2.2.1))
  else
  bnd (lp FU (fX11_change_52 l1 s1.2.2.2) (s1.1, s1.2.1, s1.2.2.1, s1.2.2.2 + 1)) fun x25 =>
    some (.inl (x25.1, x25.2.1, x25.2.2, s1.2.2.2 + 1))
def fX11_change (h : ST) (a1 : Int32) : Option (Int32 × ST) :=
  bnd (pw h 0 2 0) fun h1 =>
  bnd (fX11_isAhead h1 a1) fun r3 =>
  if r3 = 0 then
  bnd (fX11_fail h1 1) fun r29 =>
    some (r29.1, r29.2)
  else
  bnd (rd 14 (h1 3) 4) fun v6 =>
    bnd (fX11_takenIn h1 a1 v6) fun r8 =>
    bnd (lp FU (fX11_change_35 a1) (r8.2, r8.1, (-1), 0)) fun x27 =>
    some (x27.2, x27.1)
set_option maxRecDepth 100000 in
set_option maxHeartbeats 4000000 in
theorem tX11_change_113 {p : Program} {l : Launch} {e : Env} {s : State} {m : MethodId} {args : Array Value} {below : List Frame} {meth : Method} {c : Code} {g : GE} {B : Nat} {h : ST}  {l1 : Int32} {l2 : Int32} {l3 : Int32} {l4 : Int32} {l5 : Int32} (F : Fx p s m args meth c cX11_change 7 "DustParishModel" 43 g B)
    {Q : State → Prop} {y : (ST × Int32 × Int32 × Int32) ⊕ (ST × Int32 × Int32)} (hk : ∀ v : (ST × Int32 × Int32 × Int32), y = Sum.inl v → V p l e 7 0 s m args below meth c Q KM 43 g B 7 0 v.1 52 [(0, .ref (gA g 0)), (1, .int l1), (2, .int v.2.1), (3, .int v.2.2.1), (4, .int l4), (5, .int v.2.2.2)] []) (hx0 : ∀ v : (ST × Int32 × Int32), y = Sum.inr v → V p l e 7 0 s m args below meth c Q KM 43 g B 7 0 v.1 119 [(0, .ref (gA g 0)), (1, .int l1), (2, .int v.2.1), (3, .int v.2.2), (4, .int l4)] []) (hf : fX11_change_113 h l1 l2 l3 l4 l5 = some y) : V p l e 7 0 s m args below meth c Q KM 43 g B 7 0 h 113 [(0, .ref (gA g 0)), (1, .int l1), (2, .int l2), (3, .int l3), (4, .int l4), (5, .int l5)] [] := by
  unfold fX11_change_113 at hf
  refine v_iinc (pc := 113) (j := 5) (v := l5 + 1) (lv' := [(0, .ref (gA g 0)), (1, .int l1), (2, .int l2), (3, .int l3), (4, .int l4), (5, .int (l5 + 1))]) F dX11_change_113 rfl (congrArg (fun z => l5 + z) ic_1) (by decide) rfl ?_
  refine v_goto (pc := 116) (tgt := 52) F dX11_change_116 (by decide) ?_
  exact hk (h, l2, l3, l5 + 1) (Option.some.inj hf).symm
set_option maxRecDepth 100000 in
set_option maxHeartbeats 4000000 in
theorem tX11_change_52 {p : Program} {l : Launch} {e : Env} {s : State} {m : MethodId} {args : Array Value} {below : List Frame} {meth : Method} {c : Code} {g : GE} {B : Nat}   {l1 : Int32} {l4 : Int32} {Q : State → Prop} {x : (ST × Int32 × Int32)} {nf : Nat} {s0 : (ST × Int32 × Int32 × Int32)} (F : Fx p s m args meth c cX11_change 7 "DustParishModel" 43 g B) (hX0 : V p l e 7 0 s m args below meth c Q KM 43 g B 7 0 x.1 119 [(0, .ref (gA g 0)), (1, .int l1), (2, .int x.2.1), (3, .int x.2.2), (4, .int l4)] []) (hl : lp nf (fX11_change_52 l1 l4) s0 = some x) : V p l e 7 0 s m args below meth c Q KM 43 g B 7 0 s0.1 52 [(0, .ref (gA g 0)), (1, .int l1), (2, .int s0.2.1), (3, .int s0.2.2.1), (4, .int l4), (5, .int s0.2.2.2)] [] := by
  refine lp_ind (P := fun s0 => V p l e 7 0 s m args below meth c Q KM 43 g B 7 0 s0.1 52 [(0, .ref (gA g 0)), (1, .int l1), (2, .int s0.2.1), (3, .int s0.2.2.1), (4, .int l4), (5, .int s0.2.2.2)] []) ?_ nf s0 hl
  intro s1 y hf hk hx
  have hx0 : ∀ v : (ST × Int32 × Int32), y = Sum.inr v → V p l e 7 0 s m args below meth c Q KM 43 g B 7 0 v.1 119 [(0, .ref (gA g 0)), (1, .int l1), (2, .int v.2.1), (3, .int v.2.2), (4, .int l4)] [] := fun v e9 => by rw [hx v e9]; exact hX0
  unfold fX11_change_52 at hf
  refine v_iload (pc := 52) (j := 5) F dX11_change_52 rfl ?_
  refine v_aload_n (pc := 54) (j := 0) F dX11_change_54 rfl rfl ?_
  refine v_ifl (pc := 55) F fl_X11_36 dX11_change_55 km_0.1 km_0.2 fv_10_3 ?_
  refine v_iconst (pc := 58) (v := 3) F dX11_change_58 ic_3 ?_
  obtain ⟨v13, e14, hf⟩ := bnd_some hf
  refine v_iald (pc := 59) F dX11_change_59 km_3.1 km_3.2 e14 ?_
  refine v_icmp_ge (pc := 60) (tgt := 119) F dX11_change_60 (by decide) (fun c15 => ?_) (fun c15 => ?_)
  · have hf := ite_t hf c15
    refine V.sub (lv' := [(0, .ref (gA g 0)), (1, .int l1), (2, .int s1.2.1), (3, .int s1.2.2.1), (4, .int l4)]) [0, 1, 2, 3, 4] rfl ?_
    exact hx0 (s1.1, s1.2.1, s1.2.2.1) (Option.some.inj hf).symm
  · have hf := ite_f hf c15
    refine v_aload_n (pc := 63) (j := 0) F dX11_change_63 rfl rfl ?_
    refine v_iload (pc := 64) (j := 4) F dX11_change_64 rfl ?_
    refine v_iload (pc := 66) (j := 5) F dX11_change_66 rfl ?_
    obtain ⟨r16, e17, hf⟩ := bnd_some hf
    refine v_callVv (pc := 68) (As := [.int l4, .int s1.2.2.2]) F cl_X11_458 dX11_change_68 (kX11_exchange e17) km_0.1 km_0.2 rc_10 rfl rfl (Nat.le_of_ble_eq_true rfl) (by decide) (Nat.zero_le _) ?_
    refine v_aload_n (pc := 71) (j := 0) F dX11_change_71 rfl rfl ?_
    refine v_iload_n (pc := 72) (j := 1) F dX11_change_72 rfl rfl ?_
    refine v_aload_n (pc := 73) (j := 0) F dX11_change_73 rfl rfl ?_
    refine v_ifl (pc := 74) F fl_X11_36 dX11_change_74 km_0.1 km_0.2 fv_10_3 ?_
    refine v_iconst (pc := 77) (v := 4) F dX11_change_77 ic_4 ?_
    obtain ⟨v18, e19, hf⟩ := bnd_some hf
    refine v_iald (pc := 78) F dX11_change_78 km_3.1 km_3.2 e19 ?_
    obtain ⟨r20, e21, hf⟩ := bnd_some hf
    refine v_callVi (pc := 79) (As := [.int l1, .int v18]) F cl_X11_436 dX11_change_79 (kX11_takenIn e21) km_0.1 km_0.2 rc_10 rfl rfl (Nat.le_of_ble_eq_true rfl) (by decide) (Nat.zero_le _) ?_
    refine v_istore (pc := 82) (lv' := [(0, .ref (gA g 0)), (1, .int l1), (2, .int s1.2.1), (3, .int s1.2.2.1), (4, .int l4), (5, .int s1.2.2.2), (6, .int r20.1)]) F dX11_change_82 (by decide) rfl ?_
    refine v_aload_n (pc := 84) (j := 0) F dX11_change_84 rfl rfl ?_
    refine v_iload (pc := 85) (j := 4) F dX11_change_85 rfl ?_
    refine v_iload (pc := 87) (j := 5) F dX11_change_87 rfl ?_
    obtain ⟨r22, e23, hf⟩ := bnd_some hf
    refine v_callVv (pc := 89) (As := [.int l4, .int s1.2.2.2]) F cl_X11_458 dX11_change_89 (kX11_exchange e23) km_0.1 km_0.2 rc_10 rfl rfl (Nat.le_of_ble_eq_true rfl) (by decide) (Nat.zero_le _) ?_
    refine v_iload (pc := 92) (j := 6) F dX11_change_92 rfl ?_
    refine v_iload_n (pc := 94) (j := 2) F dX11_change_94 rfl rfl ?_
    refine v_icmp_gt (pc := 95) (tgt := 101) F dX11_change_95 (by decide) (fun c24 => ?_) (fun c24 => ?_)
    · have hf := ite_t hf c24
      refine v_bipush (pc := 101) (v := 10) F dX11_change_101 bp_10 ?_
      refine v_iload (pc := 103) (j := 4) F dX11_change_103 rfl ?_
      refine v_imul (pc := 105) F dX11_change_105 ?_
      refine v_iload (pc := 106) (j := 5) F dX11_change_106 rfl ?_
      refine v_iadd (pc := 108) F dX11_change_108 ?_
      refine v_istore_n (pc := 109) (lv' := [(0, .ref (gA g 0)), (1, .int l1), (2, .int s1.2.1), (3, .int ((10 * l4) + s1.2.2.2)), (4, .int l4), (5, .int s1.2.2.2), (6, .int r20.1)]) F dX11_change_109 rfl (by decide) rfl ?_
      refine v_iload (pc := 110) (j := 6) F dX11_change_110 rfl ?_
      refine v_istore_n (pc := 112) (lv' := [(0, .ref (gA g 0)), (1, .int l1), (2, .int r20.1), (3, .int ((10 * l4) + s1.2.2.2)), (4, .int l4), (5, .int s1.2.2.2), (6, .int r20.1)]) F dX11_change_112 rfl (by decide) rfl ?_
      refine V.sub (lv' := [(0, .ref (gA g 0)), (1, .int l1), (2, .int r20.1), (3, .int ((10 * l4) + s1.2.2.2)), (4, .int l4), (5, .int s1.2.2.2)]) [0, 1, 2, 3, 4, 5] rfl ?_
      exact tX11_change_113 F hk hx0 hf
    · have hf := ite_f hf c24
      refine v_goto (pc := 98) (tgt := 113) F dX11_change_98 (by decide) ?_
      refine V.sub (lv' := [(0, .ref (gA g 0)), (1, .int l1), (2, .int s1.2.1), (3, .int s1.2.2.1), (4, .int l4), (5, .int s1.2.2.2)]) [0, 1, 2, 3, 4, 5] rfl ?_
      exact tX11_change_113 F hk hx0 hf
set_option maxRecDepth 100000 in
set_option maxHeartbeats 4000000 in
theorem tX11_change_35 {p : Program} {l : Launch} {e : Env} {s : State} {m : MethodId} {args : Array Value} {below : List Frame} {meth : Method} {c : Code} {g : GE} {B : Nat}   {l1 : Int32} {Q : State → Prop} {x : (ST × Int32)} {nf : Nat} {s0 : (ST × Int32 × Int32 × Int32)} (F : Fx p s m args meth c cX11_change 7 "DustParishModel" 43 g B) (hX0 : V p l e 7 0 s m args below meth c Q KM 43 g B 7 0 x.1 125 [(3, .int x.2)] []) (hl : lp nf (fX11_change_35 l1) s0 = some x) : V p l e 7 0 s m args below meth c Q KM 43 g B 7 0 s0.1 35 [(0, .ref (gA g 0)), (1, .int l1), (2, .int s0.2.1), (3, .int s0.2.2.1), (4, .int s0.2.2.2)] [] := by
  refine lp_ind (P := fun s0 => V p l e 7 0 s m args below meth c Q KM 43 g B 7 0 s0.1 35 [(0, .ref (gA g 0)), (1, .int l1), (2, .int s0.2.1), (3, .int s0.2.2.1), (4, .int s0.2.2.2)] []) ?_ nf s0 hl
  intro s1 y hf hk hx
  have hx0 : ∀ v : (ST × Int32), y = Sum.inr v → V p l e 7 0 s m args below meth c Q KM 43 g B 7 0 v.1 125 [(3, .int v.2)] [] := fun v e9 => by rw [hx v e9]; exact hX0
  unfold fX11_change_35 at hf
  refine v_iload (pc := 35) (j := 4) F dX11_change_35 rfl ?_
  refine v_aload_n (pc := 37) (j := 0) F dX11_change_37 rfl rfl ?_
  refine v_ifl (pc := 38) F fl_X11_36 dX11_change_38 km_0.1 km_0.2 fv_10_3 ?_
  refine v_iconst (pc := 41) (v := 3) F dX11_change_41 ic_3 ?_
  obtain ⟨v10, e11, hf⟩ := bnd_some hf
  refine v_iald (pc := 42) F dX11_change_42 km_3.1 km_3.2 e11 ?_
  refine v_icmp_ge (pc := 43) (tgt := 125) F dX11_change_43 (by decide) (fun c12 => ?_) (fun c12 => ?_)
  · have hf := ite_t hf c12
    refine V.sub (lv' := [(3, .int s1.2.2.1)]) [3] rfl ?_
    exact hx0 (s1.1, s1.2.2.1) (Option.some.inj hf).symm
  · have hf := ite_f hf c12
    refine v_iload (pc := 46) (j := 4) F dX11_change_46 rfl ?_
    refine v_iconst (pc := 48) (v := 1) F dX11_change_48 ic_1 ?_
    refine v_iadd (pc := 49) F dX11_change_49 ?_
    refine v_istore (pc := 50) (lv' := [(0, .ref (gA g 0)), (1, .int l1), (2, .int s1.2.1), (3, .int s1.2.2.1), (4, .int s1.2.2.2), (5, .int (s1.2.2.2 + 1))]) F dX11_change_50 (by decide) rfl ?_
    obtain ⟨x25, e26, hf⟩ := bnd_some hf
    refine tX11_change_52 (s0 := (s1.1, s1.2.1, s1.2.2.1, s1.2.2.2 + 1)) F ?_ e26
    refine v_iinc (pc := 119) (j := 4) (v := s1.2.2.2 + 1) (lv' := [(0, .ref (gA g 0)), (1, .int l1), (2, .int x25.2.1), (3, .int x25.2.2), (4, .int (s1.2.2.2 + 1))]) F dX11_change_119 rfl (congrArg (fun z => s1.2.2.2 + z) ic_1) (by decide) rfl ?_
    refine v_goto (pc := 122) (tgt := 35) F dX11_change_122 (by decide) ?_
    exact hk (x25.1, x25.2.1, x25.2.2, s1.2.2.2 + 1) (Option.some.inj hf).symm
set_option maxRecDepth 100000 in
set_option maxHeartbeats 4000000 in
theorem kX11_change {l : Launch} {g : GE} {B : Nat} {h : ST} {a1 : Int32} {y : Int32 × ST} (hf : fX11_change h a1 = some y) : CT l yX11_change cX11_change 7 (some .int) 7 KM 43 g B [.ref (gA g 0), .int a1] h (some (.int y.1)) y.2 := by
  refine CT.of pn_X11 (Nat.le_of_ble_eq_true rfl) ?_
  intro p e s m below meth c hr F
  have F : Fx p s m _ meth c cX11_change 7 "DustParishModel" 43 g B := F
  refine V_lv (lv' := [(0, .ref (gA g 0)), (1, .int a1)]) rfl ?_
  unfold fX11_change at hf
  refine v_aload_n (pc := 0) (j := 0) F dX11_change_0 rfl rfl ?_
  refine v_iconst (pc := 1) (v := 0) F dX11_change_1 ic_0 ?_
  obtain ⟨h1, e2, hf⟩ := bnd_some hf
  refine v_pfl (pc := 2) F fl_X11_157 pl_10_2 dX11_change_2 km_0.1 km_0.2 fv_10_2 rfl rfl e2 ?_
  refine v_iload_n (pc := 5) (j := 1) F dX11_change_5 rfl rfl ?_
  obtain ⟨r3, e4, hf⟩ := bnd_some hf
  refine v_callSi (pc := 6) (As := [.int a1]) F cl_X11_433 dX11_change_6 (kX11_isAhead e4) rfl rfl (Nat.le_of_ble_eq_true rfl) (by decide) (Nat.zero_le _) ?_
  refine v_if_ne (pc := 9) (tgt := 18) F dX11_change_9 (by decide) (fun c5 => ?_) (fun c5 => ?_)
  · have hf := ite_f hf c5
    refine v_aload_n (pc := 18) (j := 0) F dX11_change_18 rfl rfl ?_
    refine v_iload_n (pc := 19) (j := 1) F dX11_change_19 rfl rfl ?_
    refine v_aload_n (pc := 20) (j := 0) F dX11_change_20 rfl rfl ?_
    refine v_ifl (pc := 21) F fl_X11_36 dX11_change_21 km_0.1 km_0.2 fv_10_3 ?_
    refine v_iconst (pc := 24) (v := 4) F dX11_change_24 ic_4 ?_
    obtain ⟨v6, e7, hf⟩ := bnd_some hf
    refine v_iald (pc := 25) F dX11_change_25 km_3.1 km_3.2 e7 ?_
    obtain ⟨r8, e9, hf⟩ := bnd_some hf
    refine v_callVi (pc := 26) (As := [.int a1, .int v6]) F cl_X11_436 dX11_change_26 (kX11_takenIn e9) km_0.1 km_0.2 rc_10 rfl rfl (Nat.le_of_ble_eq_true rfl) (by decide) (Nat.zero_le _) ?_
    refine v_istore_n (pc := 29) (lv' := [(0, .ref (gA g 0)), (1, .int a1), (2, .int r8.1)]) F dX11_change_29 rfl (by decide) rfl ?_
    refine v_iconst (pc := 30) (v := (-1)) F dX11_change_30 ic_m1 ?_
    refine v_istore_n (pc := 31) (lv' := [(0, .ref (gA g 0)), (1, .int a1), (2, .int r8.1), (3, .int (-1))]) F dX11_change_31 rfl (by decide) rfl ?_
    refine v_iconst (pc := 32) (v := 0) F dX11_change_32 ic_0 ?_
    refine v_istore (pc := 33) (lv' := [(0, .ref (gA g 0)), (1, .int a1), (2, .int r8.1), (3, .int (-1)), (4, .int 0)]) F dX11_change_33 (by decide) rfl ?_
    obtain ⟨x27, e28, hf⟩ := bnd_some hf
    refine tX11_change_35 (s0 := (r8.2, r8.1, (-1), 0)) F ?_ e28
    refine v_iload_n (pc := 125) (j := 0) F dX11_change_125 rfl rfl ?_
    exact v_iret (pc := 126) F hr dX11_change_126 (some_fst hf) (some_snd hf) (Nat.zero_le _)
  · have hf := ite_t hf c5
    refine v_aload_n (pc := 12) (j := 0) F dX11_change_12 rfl rfl ?_
    refine v_iconst (pc := 13) (v := 1) F dX11_change_13 ic_1 ?_
    obtain ⟨r29, e30, hf⟩ := bnd_some hf
    refine v_callVi (pc := 14) (As := [.int 1]) F cl_X11_320 dX11_change_14 (kX11_fail e30) km_0.1 km_0.2 rc_10 rfl rfl (Nat.le_of_ble_eq_true rfl) (by decide) (Nat.zero_le _) ?_
    exact v_iret (pc := 17) F hr dX11_change_17 (some_fst hf) (some_snd hf) (Nat.zero_le _)
