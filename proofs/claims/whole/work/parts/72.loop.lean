/-! ===== parish: signs between parts ===== -/
theorem OKX.mono {g : Nat} {B : Nat → Nat} {L : Nat} {h t : ST} {st : Nat} {S : List Int32} {d nc l k k' D D' tb tb' : Nat} {NX NX' : Nat → Nat → Nat → List Int32 → Prop} {Y : Option ST} (x : OKX g B L h t st S d nc l k D tb NX Y) (hk : k' ≤ k) (hD : D ≤ D') (htb : tb ≤ tb') (hN : ∀ a b c T, NX a b c T → NX' a b c T) : OKX g B L h t st S d nc l k' D' tb' NX' Y := by
  obtain ⟨h', t', kd', st', en', T, nc', m, o1, o2, o3, o4, o5, o6, ⟨o7, o8, o9, o10, o11⟩, o12, o13, o14, o15⟩ := x
  exact ⟨h', t', kd', st', en', T, nc', m, o1, o2, o3, o4, o5, o6, ⟨o7, o8, o9, o10, by omega⟩, fun y hy => Nat.le_trans hk (o12 y hy), o13.mono hD, o14, hN _ _ _ _ o15⟩
theorem opStep {g : Nat} {B : Nat → Nat} {L : Nat} {h t : ST} {kd st en d nc l s q : Nat} {T S : List Int32} {x : Int32} (p : PR g B L h t kd st en) (w : WTs g h (T ++ S)) (w79 : (T ++ S).length ≤ 79) (cr : CodeR g h t T nc) (hn : nc + T.length ≤ 700) (h4 : h 40 4 = 0) (hd : h 40 2 = nI d) (d9 : d < 100) (hl : l ≤ 700) (c41 : sq B kd st 41 = false) (c59 : sq B kd st 59 = false) (sk : fX6_signAtHand h = some x) (hx : ¬ x = 0) (sx : sg x = s) (s1 : 1 ≤ s) (hq : q = if s = 4 then 5 else s) (hT : ∀ y, y ∈ T → q ≤ sg y) (hS : ∀ y u, S = y :: u → sg y < q) (hS4 : s = 4 → ∀ y u, S = y :: u → sg y ≠ 4) :
    ∃ h' t' kd' st' en', fX6_read_21 (h, nI l) = some (.inl (h', nI (l + 1))) ∧ fX11_stepOn t = some t' ∧ PR g B L h' t' kd' st' en' ∧ WTs g h' (x :: S) ∧ CodeR g h' t' [] (nc + T.length) ∧ h' 40 2 = nI d ∧ h' 40 4 = 1 ∧ (if 2 < s then h' 40 5 = 0 else h' 40 5 = 1 ∧ h' 40 3 = 0) ∧ en ≤ st' ∧ EFr g h t h' t' (nc + T.length) := by
  have g2 := p.2.2.2.2
  have n1 : ¬ (1 : Int32) = 0 := by decide
  have s6 := sg_7 x
  have q7 : q ≤ 7 ∧ 1 ≤ q := by rw [hq]; by_cases z : s = 4; rw [if_pos z]; omega; rw [if_neg z]; omega
  have s41 : fX9_isSign h 41 = some 0 := (signC p.1 p.2.1 (v := 41) (by decide)).trans (by rw [c41]; rfl)
  have s59 : fX9_isSign h 59 = some 0 := (signC p.1 p.2.1 (v := 59) (by decide)).trans (by rw [c59]; rfl)
  obtain ⟨y, r1, r2, r3, r4, r5, r6, r7, r8⟩ := relC g2 (s := q) q7.2 q7.1 w hT hS (by omega) cr.1 hn
  have yk : ∀ i, i ≠ 40 → i ≠ g + 12 → i ≠ g + 14 → y i = h i := fun i a b c => r6 i (by simp only [List.mem_cons, List.not_mem_nil, or_false]; omega)
  -- what is wanted next
  obtain ⟨z, ez⟩ : ∃ z, z = (if 2 < s then up2 (up2 y 40 4 1) 40 5 0 else up2 (up2 (up2 (up2 y 40 4 1) 40 5 0) 40 5 1) 40 3 0) := ⟨_, rfl⟩
  have zk : ∀ i, i ≠ 40 → z i = y i := fun i hi => by
    rw [ez]
    by_cases c : 2 < s
    · rw [if_pos c, up2_n hi, up2_n hi]
    · rw [if_neg c, up2_n hi, up2_n hi, up2_n hi, up2_n hi]
  have zj : ∀ j, j ≠ 3 → j ≠ 4 → j ≠ 5 → z 40 j = y 40 j := fun j a b c => by
    rw [ez]
    by_cases k : 2 < s
    · rw [if_pos k, up2_sn c, up2_sn b]
    · rw [if_neg k, up2_sn a, up2_sn c, up2_sn c, up2_sn b]
  have z4 : z 40 4 = 1 := by
    rw [ez]
    by_cases k : 2 < s
    · rw [if_pos k, up2_sn (by decide), up2_ss]
    · rw [if_neg k, up2_sn (by decide), up2_sn (by decide), up2_sn (by decide), up2_ss]
  have z5 : if 2 < s then z 40 5 = 0 else z 40 5 = 1 ∧ z 40 3 = 0 := by
    rw [ez]
    by_cases k : 2 < s
    · rw [if_pos k, if_pos k, up2_ss]
    · rw [if_neg k, if_neg k]
      exact ⟨by rw [up2_sn (by decide), up2_ss], by rw [up2_ss]⟩
  have wz : WTs g z S := ⟨by rw [zj 7 (by decide) (by decide) (by decide)]; exact r2.1, by rw [zj 1 (by decide) (by decide) (by decide)]; exact r2.2.1, by rw [zk 41 (by decide)]; exact r2.2.2⟩
  have lS : S.length < 80 := by simp only [List.length_append] at w79; omega
  obtain ⟨v, v1, v2, v3, v4⟩ := holdC wz lS x
  have vk : ∀ i, i ≠ 40 → i ≠ 41 → v i = y i := fun i a b => by rw [v3 i (by simp only [List.mem_cons, List.not_mem_nil, or_false]; omega), zk i a]
  have vh : ∀ i, i ≠ 40 → i ≠ 41 → i ≠ g + 12 → i ≠ g + 14 → v i = h i := fun i a b c d => by rw [vk i a b, yk i a c d]
  have vj : ∀ j, j ≠ 1 → v 40 j = z 40 j := fun j hj => v4 j (by simp only [List.mem_cons, List.not_mem_nil, or_false]; exact hj)
  have rsn : fX6_readSign h = some (0, v) := by
    have e62 : fX6_readSign_62 y x (nI s) = some (0, v) := by
      unfold fX6_readSign_62 fX6_readSign_78
      by_cases k : 2 < s
      · rw [if_pos k] at ez
        rw [if_pos (show 2 < nI s from nI_lt (a := 2) k (by omega))]
        unfold fX6_wantPart
        rw [pw_s, bnd_s, pw_s, bnd_s, bnd_s, ← ez, v1, bnd_s]
      · rw [if_neg k] at ez
        rw [if_neg (show ¬ 2 < nI s from nI_nlt (a := 2) (by omega) (by decide))]
        unfold fX6_wantNot fX6_wantPart
        rw [pw_s, bnd_s, pw_s, bnd_s, bnd_s, pw_s, bnd_s, pw_s, bnd_s, bnd_s, ← ez, v1, bnd_s]
    have e44 : fX6_readSign_44 h x (nI s) (nI q) = some (0, v) := by
      unfold fX6_readSign_44
      rw [r1, bnd_s]
      by_cases k : s = 4
      · have sw : ∃ u, fX6_strengthWaiting y = some u ∧ ¬ u = 4 := by
          unfold fX6_strengthWaiting fX6_strengthWaiting_25
          cases hS' : S with
          | nil =>
            rw [hS'] at r2
            rw [r2.2.1, if_pos (show nI ([] : List Int32).length ≤ 0 by decide)]
            exact ⟨0, rfl, by decide⟩
          | cons a u =>
            rw [hS'] at r2 lS
            have l2 : y 40 1 = nI (u.length + 1) := r2.2.1
            have l3 : y 41 u.length = a := r2.2.2.1
            have lu : u.length < 80 := by simp only [List.length_cons] at lS; omega
            have sa := sg_7 a
            rw [l2, if_neg (nI_nle (by omega) (by omega)), nI_pred, rd_k (n := 80) lu, bnd_s, l3, sgC, bnd_s]
            exact ⟨_, rfl, fun e => hS4 k a u hS' ((nI_eq (a := sg a) (b := 4) (by omega) (by decide)).mp e)⟩
        obtain ⟨u, u1, u2⟩ := sw
        rw [if_pos (show nI s = 4 by rw [k]; rfl), u1, bnd_s, if_neg u2]; exact e62
      · rw [if_neg (show ¬ nI s = 4 from fun e => k ((nI_eq (a := s) (b := 4) (by omega) (by decide)).mp e))]; exact e62
    unfold fX6_readSign
    rw [s41, bnd_s, if_pos rfl, sk, bnd_s, if_neg hx, sgC, sx, bnd_s]
    by_cases k : s = 4
    · rw [if_pos k] at hq
      rw [if_pos (show nI s = 4 by rw [k]; rfl)]
      rw [hq] at e44; exact e44
    · rw [if_neg k] at hq
      rw [if_neg (show ¬ nI s = 4 from fun e => k ((nI_eq (a := s) (b := 4) (by omega) (by decide)).mp e))]
      rw [hq] at e44; exact e44
  have pv : PR g B L v t kd st en := p.kept (vh 1 (by omega) (by omega) (by omega) (by omega)) (vh 39 (by omega) (by omega) (by omega) (by omega)) (by rw [vh 38 (by omega) (by omega) (by omega) (by omega)]) rfl rfl
  obtain ⟨h6, t6, kd6, st6, en6, b1, b2, b3, b4, b5, b6, b7⟩ := pv.step
  refine ⟨h6, t6, kd6, st6, en6, ?_, b2, b3, ⟨?_, ?_, ?_⟩, ⟨?_, ?_, fun i hi => ?_, fun j hj => absurd hj (Nat.not_lt_zero j)⟩, ?_, ?_, ?_, b4, ?_⟩
  · have e61 : fX6_read_61 h (nI l) = some (.inl (h6, nI (l + 1))) := by
      unfold fX6_read_61
      rw [if_pos h4, rsn, bnd_s]
      exact read79 b1
    unfold fX6_read_21
    dsimp only
    rw [if_neg (show ¬ 700 < nI l from nI_nlt (a := 700) hl (by decide)), if_pos h4]
    by_cases c : h 40 2 = 0
    · rw [if_pos c, s59, bnd_s, if_pos rfl]; exact e61
    · rw [if_neg c]; exact e61
  · rw [b5 40 (by decide)]; exact v2.1
  · rw [b5 40 (by decide)]; exact v2.2.1
  · rw [b5 41 (by decide)]; exact v2.2.2
  · rw [b5 (g + 12) (by simp only [List.mem_cons, List.not_mem_nil, or_false]; omega), vk _ (by omega) (by omega)]; exact r3
  · rw [b6 3 (by decide)]; exact cr.2.1
  · rw [b5 (g + 14) (by simp only [List.mem_cons, List.not_mem_nil, or_false]; omega), vk _ (by omega) (by omega), b6 16 (by decide)]
    by_cases z : i < nc
    · rw [r4 i z]; exact cr.2.2.1 i z
    · have := r5 (i - nc) (by omega)
      rw [show nc + (i - nc) = i by omega] at this
      rw [this, cr.2.2.2 (i - nc) (by omega), show nc + (i - nc) = i by omega]
  · rw [b5 40 (by decide), vj 2 (by decide), zj 2 (by decide) (by decide) (by decide), r7 2 (by decide)]; exact hd
  · rw [b5 40 (by decide), vj 4 (by decide)]; exact z4
  · rw [b5 40 (by decide), vj 5 (by decide), vj 3 (by decide)]; exact z5
  · refine ⟨MG.of b6 b7 TKs_in, fun i _ => by rw [b6 16 (by decide)], fun i a b c e f => by rw [b5 i (by simp only [List.mem_cons, List.not_mem_nil, or_false]; omega), vh i b c e f], fun j hj => ?_, fun i a _ _ => b6 i (by simp only [List.mem_cons, List.not_mem_nil, or_false]; omega), fun j _ => by rw [b6 3 (by decide)]⟩
    rw [b5 (g + 12) (by simp only [List.mem_cons, List.not_mem_nil, or_false]; omega), vk _ (by omega) (by omega), r8 j hj]
theorem loopX {g : Nat} {B : Nat → Nat} {L : Nat} {b : ST → Option (ST ⊕ ST)} {sub : ST → Option ST} {S : List Int32} {d s k' D D' tb' : Nat} {NXi NXo : Nat → Nat → Nat → List Int32 → Prop}
    (hbad : ∀ t, ¬ t 0 26 = 0 → b t = some (.inr t))
    (hop : ∀ h t kd st en T, PR g B L h t kd st en → NXi kd st en T → (∃ x v, b t = bnd (fX11_stepOn t) (fun r9 => bnd (sub r9) fun r11 => bnd (fX11_lay r11 v) fun r13 => some (.inl r13)) ∧ kd ≠ 0 ∧ sq B kd st 41 = false ∧ sq B kd st 59 = false ∧ fX6_signAtHand h = some x ∧ ¬ x = 0 ∧ cmap v = x ∧ sg x = s ∧ v ≤ -20 ∧ ¬ v = -28) ∨ (b t = some (.inr t) ∧ NXo kd st en T))
    (hsub : ∀ h t kd st en nc l x, sg x = s → XI g B L h t kd st en (x :: S) d nc l → (if 2 < s then h 40 5 = 0 else h 40 5 = 1 ∧ h 40 3 = 0) → OKX g B L h t st (x :: S) d nc l k' D' tb' NXi (sub t) ∨ BDX g h t l (sub t))
    (hNX : ∀ a b c T x, NXi a b c T → sg x = s → NXi a b c (T ++ [x])) (hs1 : 1 ≤ s) (hs4 : s ≠ 4) (hk : s ≤ k') (hS : ∀ y u, S = y :: u → sg y < s) (hlen : S.length + tb' + 1 ≤ 79) (hDD : D' + 1 ≤ D) (d9 : d < 100)
    {h0 t0 : ST} {st0 nc0 l0 : Nat} (cs : CS t0) (hnl : nc0 ≤ st0) {t1 : ST} (start : OKX g B L h0 t0 st0 S d nc0 l0 s D (tb' + 1) NXi (some t1) ∨ BDX g h0 t0 l0 (some t1)) :
    ∃ r, lp FU b t1 = some r ∧ (OKX g B L h0 t0 st0 S d nc0 l0 s D (tb' + 1) NXo (some r) ∨ BDX g h0 t0 l0 (some r)) := by
  refine lp_meas (b := b) (fun t => OKX g B L h0 t0 st0 S d nc0 l0 s D (tb' + 1) NXi (some t) ∨ BDX g h0 t0 l0 (some t)) (fun t => if t 0 26 = 0 then 1000 - (t 0 24).toNatClampNeg else 0) ?_ ?_ start
  · by_cases c : t1 0 26 = 0
    · rw [if_pos c]; omega
    · rw [if_neg c]; omega
  rintro t (ok | bd)
  rotate_left
  · right
    obtain ⟨h2, m, c, h', t', e1, e2, e3, e4, e5, e6, e7⟩ := id bd
    have : t = t' := Option.some.inj e1
    refine ⟨t, hbad t (by rw [this, e5.2.1]; exact e5.1), Or.inr bd⟩
  obtain ⟨h', t', kd', st', en', T, nc', m, o1, o2, o3, o4, o5, ⟨o6, o7⟩, ⟨o8, o9, o10, o11, o12⟩, o13, o14, o15, o16⟩ := id ok
  have et : t = t' := Option.some.inj o1
  subst et
  have stL : st' ≤ L := Nat.le_trans o3.2.1.2.2.2.2.1.1 o3.2.1.2.2.2.2.1.2.1
  have L7 := o3.1.1
  have s24 : (t 0 24).toNatClampNeg = st' := by rw [o3.2.1.2.2.1.2, nI_clamp (by omega)]
  rcases hop h' t kd' st' en' T o3 o16 with ⟨x, v, p1, p2, p3, p4, p5, p6, p7, p8, p9, p10⟩ | ⟨p1, p2⟩
  rotate_left
  · right
    exact ⟨t, p1, Or.inl ⟨h', t, kd', st', en', T, nc', m, rfl, o2, o3, o4, o5, ⟨o6, o7⟩, ⟨o8, o9, o10, o11, o12⟩, o13, o14, o15, p2⟩⟩
  left
  have sten := o3.2.1.2.2.2.2.2.2.1 p2
  have len : (T ++ S).length ≤ 79 := by simp only [List.length_append]; omega
  obtain ⟨h1, t2, kd1, st1, en1, q1, q2, q3, q4, q5, q6, q7, q8, q9, q10⟩ := opStep (q := s) (l := l0 + m) o3 o4 len o5 (by omega) o7 o6 d9 (by omega) p3 p4 p5 p6 p8 hs1 (by rw [if_neg hs4]) o13 hS (fun z => absurd z hs4)
  have st1L : st1 ≤ L := Nat.le_trans q3.2.1.2.2.2.2.1.1 q3.2.1.2.2.2.2.1.2.1
  have E1 : EFr g h0 t0 h1 t2 nc0 := o15.tr q10 (by omega)
  have stp1 : stp fX6_read_21 (m + 1) (h0, nI l0) (h1, nI (l0 + (m + 1))) := stp_tr o2 (stp_1 q1)
  rcases hsub h1 t2 kd1 st1 en1 (nc' + T.length) (l0 + (m + 1)) x p8 ⟨q3, q4, q5, q6, q7, by omega, by omega, E1.cs cs⟩ q8 with ok2 | bd2
  · obtain ⟨h3, t3, kd3, st3, en3, T3, nc3, m3, w1, w2, w3, w4, w5, ⟨w6, w7⟩, ⟨w8, w9, w10, w11, w12⟩, w13, w14, w15, w16⟩ := ok2
    have st3L : st3 ≤ L := Nat.le_trans w3.2.1.2.2.2.2.1.1 w3.2.1.2.2.2.2.1.2.1
    have lay := layM (t := t3) w3.2.2.1 w5.2.1 (show nc3 + T3.length < 700 by omega) v
    obtain ⟨t4, m4⟩ : ∃ t4, t4 = up2 (up2 t3 16 (700 + (nc3 + T3.length)) v) 3 13 (nI (nc3 + T3.length + 1)) := ⟨_, rfl⟩
    rw [← m4] at lay
    have k0 : t4 0 = t3 0 := by rw [m4, up2_n (by decide), up2_n (by decide)]
    have k16 : t4 16 = upd (t3 16) (700 + (nc3 + T3.length)) v := by rw [m4, up2_n (by decide), up2_s]
    have s24' : (t4 0 24).toNatClampNeg = st3 := by rw [k0, w3.2.1.2.2.1.2, nI_clamp (by omega)]
    have P4 : PR g B L h3 t4 kd3 st3 en3 := w3.kept rfl rfl rfl k0 (by rw [m4, up2_n (by decide), up2_n (by decide)])
    refine ⟨t4, ?_, Or.inl ⟨h3, t4, kd3, st3, en3, T3 ++ [x], nc3, m + 1 + m3, rfl, ?_, P4, ?_, ⟨w5.1, ?_, fun i hi => ?_, fun j hj => ?_⟩, ⟨w6, w7⟩, ⟨?_, ?_, ?_, by omega, ?_⟩, fun y hy => ?_, ?_, ?_, hNX _ _ _ _ _ w16 p8⟩, ?_⟩
    · rw [p1, q2, bnd_s, w1, bnd_s, lay, bnd_s]
    · rw [← Nat.add_assoc]
      have := stp_tr stp1 w2
      rw [show l0 + (m + 1) + m3 = l0 + (m + 1) + m3 from rfl] at this
      exact this
    · rw [List.append_assoc]; exact w4
    · rw [m4, up2_ss, List.length_append]; rfl
    · rw [k16, upd_n (by omega)]; exact w5.2.2.1 i hi
    · rw [k16]
      rw [List.length_append] at hj
      have hj' : j < T3.length + 1 := hj
      by_cases e : j = T3.length
      · subst e
        rw [upd_s, p7, List.getD_eq_getElem?_getD, List.getElem?_append_right (Nat.le_refl _), Nat.sub_self]; rfl
      · rw [upd_n (by omega), List.getD_eq_getElem?_getD, List.getElem?_append_left (by omega), ← List.getD_eq_getElem?_getD]
        exact w5.2.2.2 j (by omega)
    · omega
    · rw [List.length_append]; show nc3 + (T3.length + 1) + st0 ≤ nc0 + st3; omega
    · rw [List.length_append]; show nc0 < nc3 + (T3.length + 1); omega
    · rw [List.length_append]; show T3.length + 1 ≤ tb' + 1; omega
    · rcases List.mem_append.mp hy with z | z
      · exact Nat.le_trans hk (w13 y z)
      · rw [List.mem_singleton.mp z, p8]; exact Nat.le_refl _
    · rw [List.length_append]
      show Seg (t4 16) nc0 (nc3 + (T3.length + 1)) D
      have a1 : Seg (t4 16) nc0 (nc' + T.length) D := o14.cong (fun j _ hj => by rw [k16, upd_n (by omega), w15.2.1 j hj, q10.2.1 j hj])
      have a2 : Seg (t4 16) (nc' + T.length) (nc3 + T3.length) D' := w14.cong (fun j _ hj => by rw [k16, upd_n (by omega)])
      have := a1.two a2 (by omega) (by omega) (x := v) (by rw [k16, upd_s]) p9 p10
      rw [show nc3 + (T3.length + 1) = nc3 + T3.length + 1 by omega]
      exact this.mono (by omega)
    · refine (E1.tr w15 (by omega)).tr (m := nc0) ?_ (Nat.le_refl _)
      refine ⟨?_, fun i hi => by rw [k16, upd_n (by omega)], fun i _ _ _ _ _ => rfl, Fs.rf, fun i a b c => by rw [m4, up2_n b, up2_n c], ?_⟩
      · rw [m4]; exact (MG.rf.up (by decide) (by decide) (by unfold hfz; simp)).up (by decide) (by decide) (by unfold hfz; simp)
      · rw [m4]; exact (Fs.rf.un (by decide)).up (by decide)
    · rw [if_pos (show t4 0 26 = 0 by rw [k0]; exact w3.2.2.1), if_pos o3.2.2.1, s24, s24']; omega
  · have bdd := bd2.pre stp1 E1.kg E1.1
    obtain ⟨a2, a3, a4, a5, a6, z1, z2, z3, z4, z5, z6, z7⟩ := id bdd
    have n26 : ¬ a6 0 26 = 0 := by rw [z5.2.1]; exact z5.1
    refine ⟨a6, ?_, Or.inr ⟨a2, a3, a4, a5, a6, rfl, z2, z3, z4, z5, z6, z7⟩, ?_⟩
    · rw [p1, q2, bnd_s, z1, bnd_s, layW n26, bnd_s]
    · rw [if_neg n26, if_pos o3.2.2.1, s24]; omega
