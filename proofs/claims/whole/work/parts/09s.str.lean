/-! ===== String constants, arraycopy, calls of nest mates ===== -/
/-- a byte of a String constant -/
def rb (k : Nat) (i : Int32) : Option Int32 := if ¬ (i < 0 ∨ SL.getD k 0 ≤ i.toNatClampNeg) then some ((SB.getD k []).getD i.toNatClampNeg 0) else none
theorem rb_in {k : Nat} {i x : Int32} (h : rb k i = some x) : vp_in i (SL.getD k 0) ∧ (SB.getD k []).getD i.toNatClampNeg 0 = x := by
  unfold rb at h
  by_cases hc : ¬ (i < 0 ∨ SL.getD k 0 ≤ i.toNatClampNeg)
  · rw [if_pos hc] at h; exact ⟨hc, Option.some.inj h⟩
  · rw [if_neg hc] at h; cases h
/-- a char, a byte -/
def zc (v : Int32) : Option Int32 := if (v.toUInt32 % 65536).toInt32 = v then some v else none
theorem zc_in {v x : Int32} (h : zc v = some x) : x = v ∧ narrow .char (.int v) = .int v := by
  unfold zc at h
  by_cases hc : (v.toUInt32 % 65536).toInt32 = v
  · rw [if_pos hc] at h; cases h
    refine ⟨rfl, ?_⟩
    have h1 := pk_nc v
    rw [hc] at h1
    exact h1
  · rw [if_neg hc] at h; cases h
def zy (v : Int32) : Option Int32 := if v.toInt8.toInt32 = v then some v else none
theorem zy_in {v x : Int32} (h : zy v = some x) : x = v ∧ narrow .byte (.int v) = .int v := by
  unfold zy at h
  by_cases hc : v.toInt8.toInt32 = v
  · rw [if_pos hc] at h; cases h
    refine ⟨rfl, ?_⟩
    have h1 := pk_nb v
    rw [hc] at h1
    exact h1
  · rw [if_neg hc] at h; cases h
/-- one row's stretch into another -/
def acp (n0 n1 : Nat) (h : ST) (o0 o1 : Nat) (sp dp nn : Int32) : Option ST :=
  if (o0 ≠ o1 ∧ ¬ sp < 0 ∧ ¬ dp < 0 ∧ ¬ nn < 0 ∧ sp.toNatClampNeg + nn.toNatClampNeg ≤ n0 ∧ dp.toNatClampNeg + nn.toNatClampNeg ≤ n1) then some (upR h o1 (va_cpy (h o0) (h o1) sp.toNatClampNeg dp.toNatClampNeg nn.toNatClampNeg)) else none
theorem acp_in {n0 n1 : Nat} {h h' : ST} {o0 o1 : Nat} {sp dp nn : Int32} (e : acp n0 n1 h o0 o1 sp dp nn = some h') :
    (o0 ≠ o1 ∧ ¬ sp < 0 ∧ ¬ dp < 0 ∧ ¬ nn < 0 ∧ sp.toNatClampNeg + nn.toNatClampNeg ≤ n0 ∧ dp.toNatClampNeg + nn.toNatClampNeg ≤ n1) ∧ h' = upR h o1 (va_cpy (h o0) (h o1) sp.toNatClampNeg dp.toNatClampNeg nn.toNatClampNeg) := by
  unfold acp at e
  by_cases hc : o0 ≠ o1 ∧ ¬ sp < 0 ∧ ¬ dp < 0 ∧ ¬ nn < 0 ∧ sp.toNatClampNeg + nn.toNatClampNeg ≤ n0 ∧ dp.toNatClampNeg + nn.toNatClampNeg ≤ n1
  · rw [if_pos hc] at e; exact ⟨hc, (Option.some.inj e).symm⟩
  · rw [if_neg hc] at e; cases e
/-- a state out of an array of states -/
def bst (o : Nat) (i : Int32) : Option Nat := if ¬ (i < 0 ∨ 40 ≤ i.toNatClampNeg) then some (o + 1 + 4 * i.toNatClampNeg) else none
theorem bst_in {o f : Nat} {i : Int32} (ho : o < 395) (hk : KC o = (23, 40)) (e : bst o i = some f) : f < 395 ∧ KC f = (7, 0) ∧ vp_in i 40 ∧ o + 1 + 4 * i.toNatClampNeg = f := by
  unfold bst at e
  by_cases hc : ¬ (i < 0 ∨ 40 ≤ i.toNatClampNeg)
  · rw [if_pos hc] at e; cases e
    have h9 := ly_23 ho hk (Nat.not_le.mp fun q => hc (Or.inr q))
    exact ⟨h9.1, h9.2, hc, rfl⟩
  · rw [if_neg hc] at e; cases e
theorem av23 {g : GE} {o f : Nat} {i v : Int32} (e : o + 1 + 4 * i.toNatClampNeg = f) : aval g true 23 o i.toNatClampNeg v = .ref (gA g f) := by subst e; rfl
section VS
variable {p : Program} {l : Launch} {e : Env} {D1 K1 : Nat} {s : State} {m : MethodId} {args : Array Value} {below : List Frame} {meth : Method} {c : Code} {Q : State → Prop} {KD : Nat → Nat × Nat} {n : Nat} {g : GE} {B nL k : Nat} {h : ST} {pc : Nat} {lv : List (Nat × Value)} {st : List Value} {cc : ByteArray} {own : String}
theorem v_sgetV (F : Fx p s m args meth c cc nL own n g B) {kn idx : Nat} (hs0 : kn < SN) (hlk : Cond.fieldLink own idx "java/lang/String" "value" "[B" ∈ TBG) (hdg : decode cc pc = .ok (.getfield idx, 3))
    (kk : V p l e D1 K1 s m args below meth c Q KD n g B nL k h (pc + 3) lv (.ref (gV g kn) :: st)) : V p l e D1 K1 s m args below meth c Q KD n g B nL k h pc lv (.ref (gK g kn) :: st) := by
  intro ls H locs hl hw hs
  obtain ⟨cf, k9, fi, f, cell, h1, h2, h3, h4, h5, h6⟩ := (F.2.2.2.2.2.2.1.1.1 kn hs0).2.2.1.kept hs.S.2.1
  exact W.getf F.1 F.2.1 F.2.2.2.1 (F.w hlk) h1 h2 h3 h4 h5 rfl rfl hdg (kk ls H locs hl hw hs)
theorem v_sgetC (F : Fx p s m args meth c cc nL own n g B) {kn idx : Nat} (hs0 : kn < SN) (hlk : Cond.fieldLink own idx "java/lang/String" "coder" "B" ∈ TBG) (hdg : decode cc pc = .ok (.getfield idx, 3))
    (kk : V p l e D1 K1 s m args below meth c Q KD n g B nL k h (pc + 3) lv (.int 0 :: st)) : V p l e D1 K1 s m args below meth c Q KD n g B nL k h pc lv (.ref (gK g kn) :: st) := by
  intro ls H locs hl hw hs
  obtain ⟨cf, k9, fi, f, cell, h1, h2, h3, h4, h5, h6⟩ := (F.2.2.2.2.2.2.1.1.1 kn hs0).2.1.kept hs.S.2.1
  exact W.getf F.1 F.2.1 F.2.2.2.1 (F.w hlk) h1 h2 h3 h4 h5 rfl rfl hdg (kk ls H locs hl hw hs)
theorem v_gst (F : Fx p s m args meth c cc nL own n g B) {C nm d : String} {v : Value} {idx : Nat} (hZ : va_Z C nm d v (AW n g s.heap.size) s s.heap) (hlk : Cond.fieldLink own idx C nm d ∈ TBG) (hdg : decode cc pc = .ok (.getstatic idx, 3))
    (kk : V p l e D1 K1 s m args below meth c Q KD n g B nL k h (pc + 3) lv (v :: st)) : V p l e D1 K1 s m args below meth c Q KD n g B nL k h pc lv st := by
  intro ls H locs hl hw hs
  obtain ⟨cf, kf, fi, f, a, cell, h1, h2, h3, h4, h5, h6, h7, h8⟩ := hZ
  exact W.gets F.1 F.2.1 F.2.2.2.1 (F.w hlk) h1 h2 h3 h4 (by rw [hs.S.2.1 a (Array.getElem?_eq_some_iff.mp h5).1 h8]; exact h5) (fun e => by rw [e] at h6; cases h6) h7 rfl hdg (kk ls H locs hl hw hs)
theorem v_gstC (F : Fx p s m args meth c cc nL own n g B) {idx : Nat} (hlk : Cond.fieldLink own idx "java/lang/String" "COMPACT_STRINGS" "Z" ∈ TBG) (hdg : decode cc pc = .ok (.getstatic idx, 3))
    (kk : V p l e D1 K1 s m args below meth c Q KD n g B nL k h (pc + 3) lv (.int 1 :: st)) : V p l e D1 K1 s m args below meth c Q KD n g B nL k h pc lv st := v_gst F F.2.2.2.2.2.2.1.2.1 hlk hdg kk
theorem v_gstX (F : Fx p s m args meth c cc nL own n g B) {idx : Nat} (hlk : Cond.fieldLink own idx "jdk/internal/util/Preconditions" "SIOOBE_FORMATTER" "Ljava/util/function/BiFunction;" ∈ TBG) (hdg : decode cc pc = .ok (.getstatic idx, 3))
    (kk : ∀ v : Value, (v = .null ∨ ∃ t, v = .ref t) → V p l e D1 K1 s m args below meth c Q KD n g B nL k h (pc + 3) lv (v :: st)) : V p l e D1 K1 s m args below meth c Q KD n g B nL k h pc lv st := by
  rcases F.2.2.2.2.2.2.1.2.2.2.2 with hZ | ⟨t, hZ⟩
  · exact v_gst F hZ hlk hdg (kk .null (Or.inl rfl))
  · exact v_gst F hZ hlk hdg (kk (.ref t) (Or.inr ⟨t, rfl⟩))
theorem v_ldcSW (F : Fx p s m args meth c cc nL own n g B) {idx j : Nat} {tx : String} (hc : (own, idx, tx, j) ∈ SK) (hdg : decode cc pc = .ok (.ldc_w idx, 3))
    (kk : V p l e D1 K1 s m args below meth c Q KD n g B nL k h (pc + 3) lv (.ref (gK g j) :: st)) : V p l e D1 K1 s m args below meth c Q KD n g B nL k h pc lv st := by
  intro ls H locs hl hw hs T hT X
  obtain ⟨t, a1, b1⟩ := kk ls H locs hl hw hs T hT X
  have hZ := F.2.2.2.2.2.1.2.2.2.1 _ hc
  exact ⟨t, X.ldcStringW F.1 (own := own) (text := tx) (index := idx) (a := gK g j) F.2.2.2.1 hZ.1 hZ.2 (g := F0 m pc ls st) rfl (by rw [F.2.1]; exact hdg) t a1, b1⟩
theorem v_sblen (F : Fx p s m args meth c cc nL own n g B) {kn : Nat} (hs0 : kn < SN) (hdg : decode cc pc = .ok (.arraylength, 1))
    (kk : V p l e D1 K1 s m args below meth c Q KD n g B nL k h (pc + 1) lv (.int (Int32.ofNat (SL.getD kn 0)) :: st)) : V p l e D1 K1 s m args below meth c Q KD n g B nL k h pc lv (.ref (gV g kn) :: st) := by
  intro ls H locs hl hw hs
  obtain ⟨cell, h1, h2, h3, h4, h5, h6, h7⟩ := (F.2.2.2.2.2.2.1.1.1 kn hs0).2.2.2.kept hs.S.2.1
  exact W.alen (n := Int32.ofNat (SL.getD kn 0)) F.1 F.2.1 h1 h2 h5 rfl rfl hdg (kk ls H locs hl hw hs)
theorem v_sbald (F : Fx p s m args meth c cc nL own n g B) {kn : Nat} {i x : Int32} (hs0 : kn < SN) (hdg : decode cc pc = .ok (.baload, 1)) (hr : rb kn i = some x)
    (kk : V p l e D1 K1 s m args below meth c Q KD n g B nL k h (pc + 1) lv (.int x :: st)) : V p l e D1 K1 s m args below meth c Q KD n g B nL k h pc lv (.int i :: .ref (gV g kn) :: st) := by
  intro ls H locs hl hw hs
  obtain ⟨hin, hx⟩ := rb_in hr
  obtain ⟨cell, h1, h2, h3, h4, h5, h6, h7⟩ := (F.2.2.2.2.2.2.1.1.1 kn hs0).2.2.2.kept hs.S.2.1
  have hlt : i.toNatClampNeg < SL.getD kn 0 := Nat.not_le.mp fun q => hin (Or.inr q)
  refine W.bald (v := .int x) F.1 F.2.1 h1 h2 h3 (fun q => ?_) ?_ rfl rfl hdg (kk ls H locs hl hw hs)
  · rcases q with q | q
    · exact hin (Or.inl q)
    · exact hin (Or.inr (Nat.le_trans h4 q))
  · rw [h6 _ hlt]
    exact congrArg (fun z => some (Value.int z)) hx
/-- a method of a String constant -/
theorem v_callStr (F : Fx p s m args meth c cc nL own n g B) {idx kn : Nat} {y : MethodName} {bytes : ByteArray} {maxL : Nat} {ret : Option FieldType} {na d : Nat} {As st0 : List Value} {r : Int32} (cl : CLV own idx y bytes maxL ret na) (hdg : decode cc pc = .ok (.invokevirtual idx, 3)) (hM : CT l y bytes maxL ret d KD n g B (.ref (gK g kn) :: As) h (some (.int r)) h) (hs0 : kn < SN) (hc : y.cls = "java/lang/String") (hn : As.length = na) (hst : st0 = As.reverse ++ .ref (gK g kn) :: st) (hW : (st.map fun v => v.category).sum ≤ 8) (hd : d + 1 ≤ D1) (hkk : k ≤ K1)
    (kk : V p l e D1 K1 s m args below meth c Q KD n g B nL k h (pc + 3) lv (.int r :: st)) : V p l e D1 K1 s m args below meth c Q KD n g B nL k h pc lv st0 := by
  intro ls H locs hl hw hs
  have hcell : ∃ cellB : Cell, H[gK g kn]? = some cellB ∧ cellB.vm.isStatics = false ∧ s.vm.findClass y.cls = some cellB.cls := by
    obtain ⟨cell, h1, h2, h3, -⟩ := (F.2.2.2.2.2.2.1.1.1 kn hs0).1.kept hs.S.2.1
    exact ⟨cell, h1, h2, by rw [hc]; exact h3⟩
  exact v_after (va_runV (As := As) (rest := st) (C := y.cls) ⟨F.1, F.2.1, F.2.2.1, F.2.2.2.1, F.2.2.2.2.1⟩ hM ⟨cl.1.callB F hd, F.w cl.2.1, F.w cl.2.2⟩ ⟨PC.blind, hcell, F.pre hw hs _⟩ rfl hn hl.1 hst (by show 2 * 0 + _ ≤ 8; omega) hdg ⟨hkk, by show 6 * k + 0 ≤ 6 * K1; omega⟩) hl hs kk
/-- a private static method of a nest mate -/
theorem v_callSN (F : Fx p s m args meth c cc nL own n g B) {idx : Nat} {host : String} {y : MethodName} {bytes : ByteArray} {maxL : Nat} {ret : Option FieldType} {na d : Nat} {As st0 : List Value} {r : Int32} {h' : ST}
    (hl0 : Cond.methodLinkNest own idx y host ∈ NW) (cl : Cond.initialized y.cls ∈ TBG ∧ Cond.code y bytes maxL ret ∈ TBG ∧ maxL ≤ 45 ∧ Cond.static y ∈ TBG) (cy : y.cls ≠ "java/lang/invoke/MethodHandle" ∧ y.cls ≠ "java/lang/invoke/VarHandle" ∧ (parseMethodDescriptor y.desc).map (fun d => d.parameters.length) = some na) (hdg : decode cc pc = .ok (.invokestatic idx, 3)) (hM : CT l y bytes maxL ret d KD n g B As h (some (.int r)) h') (hn : As.length = na) (hst : st0 = As.reverse ++ st) (hW : (st.map fun v => v.category).sum ≤ 8) (hd : d + 1 ≤ D1) (hkk : k ≤ K1)
    (kk : V p l e D1 K1 s m args below meth c Q KD n g B nL k h' (pc + 3) lv (.int r :: st)) : V p l e D1 K1 s m args below meth c Q KD n g B nL k h pc lv st0 := by
  intro ls H locs hl hw hs
  have cn : va_CN (RM D1 K1) s args own idx y host bytes maxL ret (Cond.code y bytes maxL ret :: TBG) (RM d 0) 0 0 na := va_cnB na F.2.2.2.2.1 (goodT cl.2.1) rfl rfl rfl (F.2.2.2.2.2.1.2.2.1 _ hl0) (F.w cl.1) cy ⟨hd, by show 8 + (maxL + 11) + 200 * d ≤ 200 * D1; have := cl.2.2.1; omega⟩
  exact v_after (va_runSN (As := As) (rest := st) ⟨F.1, F.2.1, F.2.2.1, F.2.2.2.1, F.2.2.2.2.1⟩ hM ⟨cn, F.w cl.2.2.2, trivial⟩ ⟨PC.blind, F.pre hw hs _⟩ rfl hn hl.1 hst (by show 2 * 0 + _ ≤ 8; omega) hdg ⟨hkk, by show 6 * k + 0 ≤ 6 * K1; omega⟩) hl hs kk
theorem v_copy (F : Fx p s m args meth c cc nL own n g B) {idx o0 o1 n0 n1 : Nat} {sp dp nn : Int32} {h' : ST} (hlk : Cond.methodLink own idx arraycopyName ∈ TBG) (hw1 : Cond.native arraycopyName ∈ TBG ∧ Cond.static arraycopyName ∈ TBG ∧ Cond.initialized "java/lang/System" ∈ TBG) (hdg : decode cc pc = .ok (.invokestatic idx, 3))
    (ho0 : o0 < n) (hk0 : KD o0 = (20, n0)) (ho1 : o1 < n) (hk1 : KD o1 = (20, n1)) (hr : acp n0 n1 h o0 o1 sp dp nn = some h') (hD : 1 ≤ D1) (hW : (st.map fun v => v.category).sum ≤ 8)
    (kk : V p l e D1 K1 s m args below meth c Q KD n g B nL k h' (pc + 3) lv st) : V p l e D1 K1 s m args below meth c Q KD n g B nL k h pc lv (.int nn :: .int dp :: .ref (gA g o1) :: .int sp :: .ref (gA g o0) :: st) := by
  intro ls H locs hl hw hs
  obtain ⟨⟨hne, h1, h2, h3, h4, h5⟩, rfl⟩ := acp_in hr
  have nz : ∀ z : Int32, ¬ z < 0 → z.toInt = (z.toNatClampNeg : Int) := by
    intro z hz
    have hz0 : (0 : Int) ≤ z.toInt := by
      have := Int32.not_lt.mp hz
      simpa using Int32.le_iff_toInt_le.mp this
    show z.toInt = ((z.toInt.toNat : Nat) : Int)
    omega
  intro T hT X
  have hc0 := (hw.1 o0 ho0).2 (by rw [hk0]; show 20 ≤ 20; decide)
  rw [hk0] at hc0
  have hc1 := (hw.1 o1 ho1).2 (by rw [hk1]; show 20 ≤ 20; decide)
  rw [hk1] at hc1
  have hc0 : H[gA g o0]? = some (arrV (gR g 20) n0 (fun j => .int (h o0 j))) := hc0
  have hc1 : H[gA g o1]? = some (arrV (gR g 20) n1 (fun j => .int (h o1 j))) := hc1
  obtain ⟨-, k0, hq0, cm0, hkk0⟩ := (F.2.2.2.2.2.1.2.1 20 (by decide) (by decide)).1 n0 (fun j => .int (h o0 j))
  obtain ⟨-, k1, hq1, cm1, hkk1⟩ := (F.2.2.2.2.2.1.2.1 20 (by decide) (by decide)).1 n1 (fun j => .int (h o1 j))
  obtain ⟨vm', X', step⟩ := X.arraycopy F.1 F.2.2.2.1 (F.w hlk) (F.w hw1.1) (F.w hw1.2.1) (F.w hw1.2.2) (src := gA g o0) (dst := gA g o1) (cs := arrV (gR g 20) n0 (fun j => .int (h o0 j))) (cd := arrV (gR g 20) n1 (fun j => .int (h o1 j))) (srcPos := sp) (destPos := dp) (n := nn) (by rw [hT]; exact hc0) (by rw [hT]; exact hc1)
    (fun _ h => by cases h) (fun _ h => by cases h) (fun h => by cases h) (fun h => by cases h) hq0 hq1 hkk0 hkk1 (by simp [tyA]) h1 h2 h3
    (by rw [nz sp h1, nz nn h3]; show ¬ _ > ((arrV (gR g 20) n0 (fun j => .int (h o0 j))).slots.size : Int); rw [arrV_size]; omega)
    (by rw [nz dp h2, nz nn h3]; show ¬ _ > ((arrV (gR g 20) n1 (fun j => .int (h o1 j))).slots.size : Int); rw [arrV_size]; omega)
    (fun vm₁ _ i hi => by
      have e : (arrV (gR g 20) n0 (fun j => Value.int (h o0 j))).slots.getD (sp.toNatClampNeg + i) .null = .int (h o0 (sp.toNatClampNeg + i)) := by
        rw [Array.getD_eq_getD_getElem?, arrV_read _ _ (by omega)]
        rfl
      refine ⟨?_, ?_⟩
      · rw [e]
        rfl
      · rw [e]
        exact trivial)
    (g := F0 m pc ls (.int nn :: .int dp :: .ref (gA g o1) :: .int sp :: .ref (gA g o0) :: st)) rfl (by show ls.size = _; rw [hl.1]; exact F.2.2.1.symm) (rest := st) rfl (by rw [F.2.1]; exact hdg) hD (by show 2 * 0 + _ + _ ≤ 200 * D1; have h9 : nativeFrameWords "java/lang/System" "arraycopy" 5 = 7 := rfl; rw [h9]; omega)
  have e1 : copied (arrV (gR g 20) n0 (fun j => .int (h o0 j))) (arrV (gR g 20) n1 (fun j => .int (h o1 j))) sp dp nn = arrV (gR g 20) n1 (fun j => .int (va_cpy (h o0) (h o1) sp.toNatClampNeg dp.toNatClampNeg nn.toNatClampNeg j)) := va_copied (fun z => .int z) _ _ _ _ h4
  rw [e1] at X' step
  have hl9 : gA g o1 < H.size := (Array.getElem?_eq_some_iff.mp hc1).1
  have hheap : ((T.setVm vm').setCell (gA g o1) (arrV (gR g 20) n1 (fun j => .int (va_cpy (h o0) (h o1) sp.toNatClampNeg dp.toNatClampNeg nn.toNatClampNeg j)))).heap = H.setIfInBounds (gA g o1) (arrV (gR g 20) n1 (fun j => .int (va_cpy (h o0) (h o1) sp.toNatClampNeg dp.toNatClampNeg nn.toNatClampNeg j))) := by rw [← hT]; rfl
  have oq : ∀ q : Nat, q ≠ gA g o1 → (H.setIfInBounds (gA g o1) (arrV (gR g 20) n1 (fun j => .int (va_cpy (h o0) (h o1) sp.toNatClampNeg dp.toNatClampNeg nn.toNatClampNeg j))))[q]? = H[q]? := fun q hq => by simp [Array.getElem?_setIfInBounds, Ne.symm hq]
  have hW' : WO KD n g zT (upR h o1 (va_cpy (h o0) (h o1) sp.toNatClampNeg dp.toNatClampNeg nn.toNatClampNeg)) (H.setIfInBounds (gA g o1) (arrV (gR g 20) n1 (fun j => .int (va_cpy (h o0) (h o1) sp.toNatClampNeg dp.toNatClampNeg nn.toNatClampNeg j)))) := by
    refine hw.put ho1 (fun i hi => upR_n hi) oq ⟨fun h9 => absurd h9 (by rw [hk1]; show ¬ 20 < 20; decide), fun _ => ?_⟩
    rw [hk1, upR_s]
    simp [Array.getElem?_setIfInBounds, hl9]
    rfl
  obtain ⟨t, a1, b1⟩ := kk ls _ _ hl hW' ⟨by simp; exact hs.1, fun q g1 g2 => by rw [oq q (g2 o1 ho1)]; exact hs.2.1 q g1 g2, fun q hq => by
      rcases List.mem_append.mp hq with h | h
      · exact hs.2.2 q h
      · obtain ⟨z, -, hz⟩ := List.mem_map.mp h
        rw [← hz]
        exact ⟨o1, ho1, rfl⟩⟩ _ hheap X'
  exact ⟨t, step t a1, b1⟩
end VS
theorem acpW : Cond.native arraycopyName ∈ TBG ∧ Cond.static arraycopyName ∈ TBG ∧ Cond.initialized "java/lang/System" ∈ TBG := ⟨tw_455, tw_454, tw_23⟩
theorem shorterW : Cond.initialized yX10_shorter.cls ∈ TBG ∧ Cond.code yX10_shorter cX10_shorter 2 (some .int) ∈ TBG ∧ 2 ≤ 45 ∧ Cond.static yX10_shorter ∈ TBG := ⟨tw_1, tw_917, by decide, tw_916⟩
