/-! ===== the law from its entry to its loop ===== -/
theorem dv_9 : ∀ k, k < 15 → ∀ (g : GE) (i : Nat), defaultValue (tyX10 k) = fval g false (FT 9 k) i 0 := by
  intro k hk
  match k, hk with
  | 0, _ => intro g i; rfl
  | 1, _ => intro g i; rfl
  | 2, _ => intro g i; rfl
  | 3, _ => intro g i; rfl
  | 4, _ => intro g i; rfl
  | 5, _ => intro g i; rfl
  | 6, _ => intro g i; rfl
  | 7, _ => intro g i; rfl
  | 8, _ => intro g i; rfl
  | 9, _ => intro g i; rfl
  | 10, _ => intro g i; rfl
  | 11, _ => intro g i; rfl
  | 12, _ => intro g i; rfl
  | 13, _ => intro g i; rfl
  | 14, _ => intro g i; rfl
  | k + 15, hk => exact absurd hk (by omega)
theorem dv_10 : ∀ k, k < 63 → ∀ (g : GE) (i : Nat), defaultValue (tyX11 k) = fval g false (FT 10 k) i 0 := by
  intro k hk
  match k, hk with
  | 0, _ => intro g i; rfl
  | 1, _ => intro g i; rfl
  | 2, _ => intro g i; rfl
  | 3, _ => intro g i; rfl
  | 4, _ => intro g i; rfl
  | 5, _ => intro g i; rfl
  | 6, _ => intro g i; rfl
  | 7, _ => intro g i; rfl
  | 8, _ => intro g i; rfl
  | 9, _ => intro g i; rfl
  | 10, _ => intro g i; rfl
  | 11, _ => intro g i; rfl
  | 12, _ => intro g i; rfl
  | 13, _ => intro g i; rfl
  | 14, _ => intro g i; rfl
  | 15, _ => intro g i; rfl
  | 16, _ => intro g i; rfl
  | 17, _ => intro g i; rfl
  | 18, _ => intro g i; rfl
  | 19, _ => intro g i; rfl
  | 20, _ => intro g i; rfl
  | 21, _ => intro g i; rfl
  | 22, _ => intro g i; rfl
  | 23, _ => intro g i; rfl
  | 24, _ => intro g i; rfl
  | 25, _ => intro g i; rfl
  | 26, _ => intro g i; rfl
  | 27, _ => intro g i; rfl
  | 28, _ => intro g i; rfl
  | 29, _ => intro g i; rfl
  | 30, _ => intro g i; rfl
  | 31, _ => intro g i; rfl
  | 32, _ => intro g i; rfl
  | 33, _ => intro g i; rfl
  | 34, _ => intro g i; rfl
  | 35, _ => intro g i; rfl
  | 36, _ => intro g i; rfl
  | 37, _ => intro g i; rfl
  | 38, _ => intro g i; rfl
  | 39, _ => intro g i; rfl
  | 40, _ => intro g i; rfl
  | 41, _ => intro g i; rfl
  | 42, _ => intro g i; rfl
  | 43, _ => intro g i; rfl
  | 44, _ => intro g i; rfl
  | 45, _ => intro g i; rfl
  | 46, _ => intro g i; rfl
  | 47, _ => intro g i; rfl
  | 48, _ => intro g i; rfl
  | 49, _ => intro g i; rfl
  | 50, _ => intro g i; rfl
  | 51, _ => intro g i; rfl
  | 52, _ => intro g i; rfl
  | 53, _ => intro g i; rfl
  | 54, _ => intro g i; rfl
  | 55, _ => intro g i; rfl
  | 56, _ => intro g i; rfl
  | 57, _ => intro g i; rfl
  | 58, _ => intro g i; rfl
  | 59, _ => intro g i; rfl
  | 60, _ => intro g i; rfl
  | 61, _ => intro g i; rfl
  | 62, _ => intro g i; rfl
  | k + 63, hk => exact absurd hk (by omega)
theorem nwk_L_8 : NWK "DustParishLaw" 8 9 "DustParish" 15 := ⟨TX10, tyX10, rfl, tw_26, tw_27, tw_1, lyw_9, tyX10_ok, by decide, rfl, dv_9⟩
theorem nwk_L_101 : NWK "DustParishLaw" 101 10 "DustParishModel" 63 := ⟨TX11, tyX11, rfl, tw_1252, tw_1253, tw_12, lyw_10, tyX11_ok, by decide, rfl, dv_10⟩
theorem ci_L_100 : CLK "DustParishLaw" 100 yX10_init cX10_init 1 none 0 ∧ Cond.instanceMethod yX10_init ∈ TBG := ⟨⟨tw_28, tw_1, tw_30, by decide, cy_yX10_init.1, cy_yX10_init.2.1, cy_yX10_init.2.2⟩, tw_29⟩
theorem ci_L_103 : CLK "DustParishLaw" 103 yX11_init cX11_init 1 none 0 ∧ Cond.instanceMethod yX11_init ∈ TBG := ⟨⟨tw_1254, tw_12, tw_1256, by decide, cy_yX11_init.1, cy_yX11_init.2.1, cy_yX11_init.2.2⟩, tw_1255⟩
def z0 : ST := fun _ _ => 0
def hc0 : ST := (fX10_init z0).getD z0
def hm0 : ST := (fX11_init z0).getD z0
set_option maxRecDepth 100000 in
theorem hc0_some : (fX10_init z0).isSome = true := by decide +kernel
set_option maxRecDepth 100000 in
theorem hm0_some : (fX11_init z0).isSome = true := by decide +kernel
theorem hc0_ok : fX10_init z0 = some hc0 := by
  have h := hc0_some
  unfold hc0
  cases e : fX10_init z0 with
  | none => rw [e] at h; cases h
  | some y => rfl
theorem hm0_ok : fX11_init z0 = some hm0 := by
  have h := hm0_some
  unfold hm0
  cases e : fX11_init z0 with
  | none => rw [e] at h; cases h
  | some y => rfl
set_option maxRecDepth 100000 in
theorem hc0_out : hc0 395 0 = 0 := by decide +kernel
set_option maxRecDepth 100000 in
theorem hc0_refs : (hc0 0 3).toNatClampNeg = 2 ∧ (hc0 0 4).toNatClampNeg = 20 ∧ (hc0 38 2).toNatClampNeg < 395 ∧ (hc0 40 7).toNatClampNeg < 395 := by decide +kernel
theorem ft_1 : ∀ i : Nat, i < 395 → ∀ k : Nat, k < 20 → FT (KC i).1 k ≠ 1 ∨ (i = 0 ∧ k = 3) ∨ (i = 0 ∧ k = 4) ∨ (i = 38 ∧ k = 2) ∨ (i = 40 ∧ k = 7) := by decide +kernel
def tgN (i t : Nat) : Nat := match t with
  | 0 => 0
  | 1 => 0
  | t + 2 => if t < 1000 then i + t else t - 1000
theorem ft_2 : ∀ i : Nat, i < 395 → ∀ k : Nat, k < 20 → tgN i (FT (KC i).1 k) ≠ 395 := by decide +kernel
theorem nf_20 : ∀ i : Nat, i < 395 → nF (KC i).1 ≤ 20 ∨ ¬ (KC i).1 < 20 := by decide +kernel
theorem kcq_23 : ∀ i : Nat, i < 395 → (KC i).1 ≠ 23 ∨ ((i = 48 ∨ i = 220) ∧ (KC i).2 = 40) := by decide +kernel
theorem kc_le : ∀ i : Nat, i < 395 → (KC i).1 < 24 := by decide +kernel
theorem fval_map {dC : Nat → ClassId} {dI : Nat → Nat → Nat} {dR : Nat → ClassId} {dA dA' dK dV : Nat → Nat} (hA : ∀ i, i ≠ 395 → dA' i = dA i) {t o : Nat} {v : Int32} (h1 : t = 1 → v.toNatClampNeg ≠ 395) (h2 : tgN o t ≠ 395) : fval (dC, dI, dR, dA, dK, dV) true t o v = fval (dC, dI, dR, dA', dK, dV) true t o v := by
  match t, h1, h2 with
  | 0, _, _ => rfl
  | 1, h1, _ => exact congrArg Value.ref (hA _ (h1 rfl)).symm
  | t + 2, _, h2 => exact congrArg Value.ref (hA _ h2).symm
theorem WO_remap {dC : Nat → ClassId} {dI : Nat → Nat → Nat} {dR : Nat → ClassId} {dA dA' dK dV : Nat → Nat} (hA : ∀ i, i ≠ 395 → dA' i = dA i) {h : ST} {H : Heap} (h1 : ∀ i, i < 395 → ∀ k, k < 20 → FT (KC i).1 k = 1 → (h i k).toNatClampNeg ≠ 395) (w : WO KC 395 (dC, dI, dR, dA, dK, dV) zT h H) (hr : H[dA' 395]? = some (arrV (dR 22) 1 (fun j => .long (h 395 j).toInt64))) (hd : ∀ i, i < 395 → dA i ≠ dA' 395) : WO KW 396 (dC, dI, dR, dA', dK, dV) zT h H := by
  refine ⟨fun i hi => ?_, fun i j hi hj e => ?_⟩
  · by_cases h9 : i = 395
    · subst h9
      refine ⟨fun q => absurd q (by decide), fun _ => ?_⟩
      rw [KW_395]
      exact hr
    · have hi : i < 395 := by omega
      have hc := w.1 i hi
      have ea : dA' i = dA i := hA i h9
      unfold CE at hc ⊢
      rw [KW_lt hi]
      show ((KC i).1 < 20 → t_OB (dA' i) _ _ _ H _) ∧ (20 ≤ (KC i).1 → H[dA' i]? = _)
      rw [ea]
      refine ⟨fun q => (hc.1 q).to (fun k hk => fval_map hA (fun e1 => h1 i hi k (by rcases nf_20 i hi with h8 | h8 <;> omega) e1) (ft_2 i hi k (by rcases nf_20 i hi with h8 | h8 <;> omega))), fun q => ?_⟩
      refine (hc.2 q).trans (congrArg some (arrV_congr (fun j hj => ?_)))
      have hk := kc_le i hi
      rcases (show (KC i).1 = 20 ∨ (KC i).1 = 21 ∨ (KC i).1 = 22 ∨ (KC i).1 = 23 by omega) with q9 | q9 | q9 | q9
      · rw [q9]; rfl
      · rw [q9]; rfl
      · rw [q9]; rfl
      · obtain ⟨q8, q7⟩ := (kcq_23 i hi).resolve_left (fun h => h q9)
        rw [q9]
        rw [q7] at hj
        exact congrArg Value.ref (hA _ (by omega)).symm
  · by_cases h9 : i = 395
    · by_cases h8 : j = 395
      · omega
      · subst h9
        exact absurd (show dA j = dA' 395 from (hA j h8).symm.trans (show dA' j = dA' 395 from e.symm)) (hd j (by omega))
    · by_cases h8 : j = 395
      · subst h8
        exact absurd (show dA i = dA' 395 from (hA i h9).symm.trans (show dA' i = dA' 395 from e)) (hd i (by omega))
      · exact w.2 i j (by omega) (by omega) (show dA i = dA j from (hA i h9).symm.trans ((show dA' i = dA' j from e).trans (hA j h8)))
section LS
variable {p : Program} {l : Launch} {e : Env} {s : State} {m : MethodId} {args : Array Value} {below : List Frame} {meth : Method} {c : Code} {Q : State → Prop} {H : Heap} {locs : List Loc} {cells slots : Nat} {pc : Nat} {ls : Array Slot} {st : List Value} {g : GE} {KD : Nat → Nat × Nat}
theorem s_new (hx : p.tables.exec = Jvm.exec) (hb : c.code = cL_law) (hown : s.vm.findClass "DustParishLaw" = some m.cls) (hts : ∀ w ∈ TBG, w.before args s = true) (hE : EV g s) {ci idx N b0 : Nat} {C : String} (hga : ∀ i, gA g i = b0 + i) (hz : H.size = b0) (w : NWK "DustParishLaw" idx ci C N) (hdg : decode cL_law pc = .ok (.new idx, 3)) (hk : KD 0 = (ci, 0)) (hcells : cells + 1 ≤ 601024) (hslots : slots + N ≤ 7293034)
    (kk : ∀ H1 : Heap, WO KD 1 g (zw zT 0 0) z0 H1 → H1.size = b0 + 1 → (∀ q : Nat, q < b0 → H1[q]? = H[q]?) → W p l e room_1 s m args below meth c H1 locs (cells + 1) (slots + N) Q (F0 m (pc + 3) ls (.ref (gA g 0) :: st))) : W p l e room_1 s m args below meth c H locs cells slots Q (F0 m pc ls st) := by
  obtain ⟨T, tf, h1, h2, h3, h4, h5, h6, h7, h8, h9⟩ := w
  have hKn := hE.1 ci _ h1
  refine W.newcK hx hb hown (hts _ h2) (hts _ h3) (hts _ h4) rfl hdg hcells hslots hKn.2.1 hz fun H1 kC hkC e1 z1 o1 => ?_
  have h0 : gA g 0 = b0 := hga 0
  rw [← h0]
  refine kk H1 ⟨fun i hi => ?_, fun i j hi hj _ => by omega⟩ (by rw [z1]) o1
  have hi : i = 0 := by omega
  subst hi
  refine ⟨fun _ => ?_, fun h9 => absurd h9 (by rw [hk]; show ¬ 20 ≤ ci; omega)⟩
  rw [hk]
  show t_OB (gA g 0) (gC g ci) (nF ci) (gI g ci) H1 _
  rw [h8]
  refine (u_born tf hts h5 hKn hkC (by rw [h0]; exact e1) h6).to (fun k hk9 => ?_)
  exact h9 k hk9 g 0
theorem s_ctor (hx : p.tables.exec = Jvm.exec) (hb : c.code = cL_law) (hml : c.maxLocals = 7) (hown : s.vm.findClass "DustParishLaw" = some m.cls) (hts : ∀ w ∈ TBG, w.before args s = true) {idx d kc ks b0 maxL : Nat} {y : MethodName} {bytes : ByteArray} {z : Nat → Nat → Bool} {h : ST} {Qc : Array Value → State → Outcome → State → Prop} (cl : CLK "DustParishLaw" idx y bytes maxL none 0 ∧ Cond.instanceMethod y ∈ TBG) (hy : y.name = "<init>") (hdg : decode cL_law pc = .ok (.invokespecial idx, 3))
    (hQ : ∀ a s o t, Qc a s o t → o = .returned none) (hM : Met l y (Cond.code y bytes maxL none :: TBG) (RN d kc ks) (PN KD g b0 [.ref (gA g 0)] 1 z h) Qc kc ks (fun q => b0 ≤ q)) (hl : ls.size = 7) (hW : (st.map fun v => v.category).sum ≤ 8) (hd : d ≤ 300) (hpre : ∀ U : State, U.heap = H → s.WarmedH U.vm → PN KD g b0 [.ref (gA g 0)] 1 z h [Value.ref (gA g 0)].toArray U) (hc : cells + kc ≤ 601024) (hk : slots + ks ≤ 7293034)
    (kk : ∀ (st₀ t : State) (L : List Loc) (H1 : Heap), st₀.heap = H → t.heap = H1 → Qc [Value.ref (gA g 0)].toArray st₀ (.returned none) t → (∀ q ∈ L, b0 ≤ q.base) → W p l e room_1 s m args below meth c H1 (locs ++ L) (cells + kc) (slots + ks) Q (F0 m (pc + 3) ls st)) : W p l e room_1 s m args below meth c H locs cells slots Q (F0 m pc ls (.ref (gA g 0) :: st)) := by
  obtain ⟨⟨c1, c2, c3, c4, c5, c6, c7⟩, c8⟩ := cl
  have cb : CallB room_1 s args "DustParishLaw" idx y bytes maxL none (Cond.code y bytes maxL none :: TBG) (RN d kc ks) kc ks 0 := callB_of 0 hts (goodT c3) rfl rfl rfl (hts _ c2) (hts _ c1) ⟨c5, c6, c7⟩ ⟨by show d + 1 ≤ 2048; omega, by show 8 + (maxL + 11) + 200 * d ≤ 84000; omega⟩
  have hrun := va_runI (l := l) (p := p) (e := e) (below := below) (meth := meth) (locs := locs) (cells := cells) (slots := slots) (R := room_1) (As := []) (rest := st) (g := F0 m pc ls (.ref (gA g 0) :: st)) ⟨hx, hb, hml, hown, hts⟩ hM ⟨cb, hy, hts _ c8⟩ ⟨PN.blind, hpre⟩ rfl rfl hl rfl (by show 2 * 0 + _ ≤ 8; omega) hdg ⟨hc, hk⟩
  intro T hT X
  obtain ⟨v, st₀, t, T', L, h0, X', hL, e1, e2, hq, stp⟩ := hrun T hT X
  have hv : v = none := by have h9 := hQ _ _ _ _ hq; injection h9
  subst hv
  obtain ⟨t2, a1, b1⟩ := kk st₀ t L T'.heap h0 e1.symm hq hL T' rfl X'
  exact ⟨t2, stp t2 a1, b1⟩
end LS
