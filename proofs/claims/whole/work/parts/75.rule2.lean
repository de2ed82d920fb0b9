/-! ===== parish: tests, and, or, a whole rule ===== -/
theorem top_rep {S : List Int32} {i b : Nat} (hb : 3 < b) (top : ∀ y u, S = y :: u → sg y < 3) : ∀ y u, List.replicate i (-13 : Int32) ++ S = y :: u → sg y < b := by
  intro y u e
  cases i with
  | zero =>
    have := top y u (by simpa using e)
    omega
  | succ i =>
    rw [List.replicate_succ, List.cons_append] at e
    injection e with e1 _
    rw [← e1, show sg (-13) = 3 by decide]; exact hb
theorem top_rep4 {S : List Int32} {i : Nat} (top : ∀ y u, S = y :: u → sg y < 3) : ∀ y u, List.replicate i (-13 : Int32) ++ S = y :: u → sg y ≠ 4 := fun y u e => by
  have := top_rep (b := 4) (by decide) top y u e
  omega
theorem notX {R : ST → Int32 → Option ST} {g : Nat} {B : Nat → Nat} {L d : Nat} (hR : ExprC R g B L (d + 1)) (hW : ∀ t a, ¬ t 0 26 = 0 → R t a = some t) (d5 : d ≤ 5) {h t : ST} {kd st en nc l : Nat} {S : List Int32} (x : XI g B L h t kd st en S d nc l) (hS : S.length ≤ 12 * d + 2) (h5 : h 40 5 = 1) (h3 : h 40 3 = 0) (top : ∀ y u, S = y :: u → sg y < 3) :
    OKX g B L h t st S d nc l 3 (29 - 5 * d) 9 (fun kd' st' _ T => nxN B kd' st' T) (fX11_readNot R t (nI d)) ∨ BDX g h t l (fX11_readNot R t (nI d)) := by
  have n1 : ¬ bz true = 0 := by decide
  have z1 : bz false = 0 := rfl
  have ncst := x.2.2.2.2.2.1
  obtain ⟨⟨t1, q⟩, r1, r2⟩ := notsR (R := R) d5 x hS h5 h3 (nI d)
  -- what is left, with a fault told
  have tailW : ∀ (t' : ST) (n : Nat), ¬ t' 0 26 = 0 → n ≤ 100 → (bnd (fX11_isMarked t' 60) fun r14 => if r14 = 0 then bnd (fX11_isMarked t' 61) fun r31 => if r31 = 0 then fX11_readNot_94 R t' (nI n) else fX11_readNot_63 R t' (nI d) (nI n) else fX11_readNot_63 R t' (nI d) (nI n)) = some t' := fun t' n h26 hn => by
    rw [signW h26, bnd_s, if_pos rfl, signW h26, bnd_s, if_pos rfl]; exact notsW h26 hn
  have head : ∀ (n : Nat) Z, q = nI n → (bnd (fX11_readSum R t1 (nI d)) fun r12 => bnd (fX11_isMarked r12 60) fun r14 => if r14 = 0 then bnd (fX11_isMarked r12 61) fun r31 => if r31 = 0 then fX11_readNot_94 R r12 (nI n) else fX11_readNot_63 R r12 (nI d) (nI n) else fX11_readNot_63 R r12 (nI d) (nI n)) = Z → fX11_readNot R t (nI d) = Z := fun n Z eq e => by
    unfold fX11_readNot
    rw [r1, bnd_s]
    dsimp only
    rw [eq]; exact e
  rcases r2 with ⟨i, h1, kd1, st1, en1, i6, rq, X1, e5, e11, sp, sl, E1⟩ | ⟨bd, rq⟩
  rotate_left
  · right
    dsimp only at bd rq
    obtain ⟨h2, m, c, h', t', a1, a2, a3, a4, a5, a6, a7⟩ := id bd
    have es : t1 = t' := Option.some.inj a1
    subst es
    have n26 : ¬ t1 0 26 = 0 := by rw [a5.2.1]; exact a5.1
    have Y : fX11_readNot R t (nI d) = some t1 := head 7 _ rq (by rw [sumW n26, bnd_s]; exact tailW t1 7 n26 (by decide))
    rw [Y]; exact bd
  dsimp only at rq X1 E1
  have lrep : (List.replicate i (-13 : Int32)).length = i := List.length_replicate
  have nc1 := X1.2.2.2.2.2.1
  obtain ⟨t2, y1, y2⟩ := XY.val (sumX hR hW d5 X1 (by rw [List.length_append, lrep]; omega) (Or.inr ⟨e5, e11⟩) (top_rep (by decide) top))
  rcases y2 with ok | bd
  rotate_left
  · right
    have bdd := bd.pre (t := t) sp E1.kg E1.1
    obtain ⟨h2, m, c, h', t', a1, a2, a3, a4, a5, a6, a7⟩ := id bdd
    have es : t2 = t' := Option.some.inj a1
    subst es
    have n26 : ¬ t2 0 26 = 0 := by rw [a5.2.1]; exact a5.1
    have Y : fX11_readNot R t (nI d) = some t2 := head i _ rq (by rw [y1, bnd_s]; exact tailW t2 i n26 (by omega))
    rw [Y]; exact bdd
  obtain ⟨h2, t2', kd2, st2, en2, T, nc2, m, o1, o2, o3, o4, o5, ⟨o6, o7⟩, ⟨o8, o9, o10, o11, o12⟩, o13, o14, o15, o16⟩ := ok
  have es : t2 = t2' := Option.some.inj o1
  subst es
  have L7 := o3.1.1
  have st2L : st2 ≤ L := Nat.le_trans o3.2.1.2.2.2.2.1.1 o3.2.1.2.2.2.2.1.2.1
  have E2 : EFr g h t h2 t2 nc := E1.tr o15 (Nat.le_refl _)
  have sp2 : stp fX6_read_21 (i + m) (h, nI l) (h2, nI (l + (i + m))) := by rw [← Nat.add_assoc]; exact stp_tr sp o2
  have s60 : fX11_isMarked t2 60 = some (bz (sq B kd2 st2 60)) := signM o3.1 o3.2.1 o3.2.2.1 (v := 60) (by decide)
  have s61 : fX11_isMarked t2 61 = some (bz (sq B kd2 st2 61)) := signM o3.1 o3.2.1 o3.2.2.1 (v := 61) (by decide)
  by_cases none : sq B kd2 st2 60 = false ∧ sq B kd2 st2 61 = false
  · left
    obtain ⟨r, w1, w2, w3, w4, w5⟩ := notsLay (R := R) (nc0 := nc) (i := i) o3 o5 i6 (by omega) (by omega) o14
    have Y : fX11_readNot R t (nI d) = some r := head i _ rq (by rw [y1, bnd_s, s60, none.1, bnd_s, if_pos z1, s61, none.2, bnd_s, if_pos z1]; exact w1)
    rw [Y]
    have ln : (T ++ List.replicate i (-13 : Int32)).length = T.length + i := by rw [List.length_append, lrep]
    refine ⟨h2, r, kd2, st2, en2, T ++ List.replicate i (-13), nc2, i + m, rfl, sp2, w2, ?_, w3, ⟨o6, o7⟩, ⟨by omega, ?_, ?_, by omega, ?_⟩, fun y hy => ?_, w4.mono (by omega), E2.tr w5 (by omega), o16, fun z => ?_⟩
    · rw [List.append_assoc]; exact o4
    · rw [ln]; omega
    · rw [ln]; omega
    · rw [ln]; omega
    · rcases List.mem_append.mp hy with z | z
      · exact Nat.le_trans (by decide) (o13 y z)
      · rw [List.eq_of_mem_replicate z]; decide
    · rcases z with z | z
      · rw [none.1] at z; exact absurd z (by decide)
      · rw [none.2] at z; exact absurd z (by decide)
  -- a test
  obtain ⟨xo, v, c41, c59, kne, sk, xo0, cx, sx, v20, v28, mdl⟩ : ∃ xo v, sq B kd2 st2 41 = false ∧ sq B kd2 st2 59 = false ∧ kd2 ≠ 0 ∧ fX6_signAtHand h2 = some xo ∧ ¬ xo = 0 ∧ cmap v = xo ∧ sg xo = 4 ∧ v ≤ -20 ∧ ¬ v = -28 ∧ ∀ Z, (bnd (fX11_stepOn t2) fun r20 => bnd (fX11_readSum R r20 (nI d)) fun r22 => bnd (fX11_lay r22 v) fun r24 => fX11_readNot_94 R r24 (nI i)) = Z → fX11_readNot R t (nI d) = Z := by
    have kk := signK o3 o16.2.1 o16.2.2 o16.1.1 o16.1.2
    cases c60 : sq B kd2 st2 60
    · have c61 : sq B kd2 st2 61 = true := by
        cases z : sq B kd2 st2 61
        · exact absurd ⟨c60, z⟩ none
        · rfl
      refine ⟨-12, -25, noSign c61 (by decide), noSign c61 (by decide), by have := sq_k c61; omega, ?_, by decide, by decide, by decide, by decide, by decide, fun Z e => head i _ rq ?_⟩
      · rw [kk, c60, c61, if_neg (by decide), if_pos rfl]
      · rw [y1, bnd_s, s60, c60, bnd_s, if_pos z1, s61, c61, bnd_s, if_neg n1]
        unfold fX11_readNot_63 fX11_readNot_79
        rw [s60, c60, bnd_s, if_pos z1]; exact e
    · refine ⟨-11, -24, noSign c60 (by decide), noSign c60 (by decide), by have := sq_k c60; omega, ?_, by decide, by decide, by decide, by decide, by decide, fun Z e => head i _ rq ?_⟩
      · rw [kk, c60, if_pos rfl]
      · rw [y1, bnd_s, s60, c60, bnd_s, if_neg n1]
        unfold fX11_readNot_63 fX11_readNot_79
        rw [s60, c60, bnd_s, if_neg n1]; exact e
  have sten2 := o3.2.1.2.2.2.2.2.2.1 kne
  obtain ⟨h3', t3, kd3, st3, en3, q1, q2, q3, q4, q5, q6, q7, q8, q9, q10⟩ := opStep (q := 5) (s := 4) (l := l + (i + m)) o3 o4 (by simp only [List.length_append, lrep]; omega) o5 (by omega) o7 o6 (by omega) (by omega) c41 c59 sk xo0 sx (by decide) (by decide) o13 (top_rep (by decide) top) (fun _ => top_rep4 top)
  rw [if_pos (by decide)] at q8
  have E3 : EFr g h t h3' t3 nc := E2.tr q10 (by omega)
  have sp3 : stp fX6_read_21 (i + m + 1) (h, nI l) (h3', nI (l + (i + m + 1))) := stp_tr sp2 (stp_1 q1)
  obtain ⟨t4, f1, f2⟩ := XY.val (sumX hR hW d5 (nc := nc2 + T.length) (l := l + (i + m + 1)) ⟨q3, q4, q5, q6, q7, by omega, by omega, E3.cs x.2.2.2.2.2.2.2⟩ (by simp only [List.length_cons, List.length_append, lrep]; omega) (Or.inl q8) (fun y u e => by injection e with e1 _; rw [← e1, sx]; decide))
  rcases f2 with ok | bd
  rotate_left
  · right
    have bdd := bd.pre (t := t) sp3 E3.kg E3.1
    obtain ⟨b2, b3, b4, b5, b6, a1, a2, a3, a4, a5, a6, a7⟩ := id bdd
    have es : t4 = b6 := Option.some.inj a1
    subst es
    have n26 : ¬ t4 0 26 = 0 := by rw [a5.2.1]; exact a5.1
    have Y : fX11_readNot R t (nI d) = some t4 := mdl _ (by rw [q2, bnd_s, f1, bnd_s, layW n26, bnd_s]; exact notsW n26 (by omega))
    rw [Y]; exact bdd
  left
  obtain ⟨h4, t4', kd4, st4, en4, T4, nc4, m4, u1, u2, u3, u4, u5, ⟨u6, u7⟩, ⟨u8, u9, u10, u11, u12⟩, u13, u14, u15, u16⟩ := ok
  have es : t4 = t4' := Option.some.inj u1
  subst es
  have st4L : st4 ≤ L := Nat.le_trans u3.2.1.2.2.2.2.1.1 u3.2.1.2.2.2.2.1.2.1
  have lay := layM (t := t4) u3.2.2.1 u5.2.1 (show nc4 + T4.length < 700 by omega) v
  obtain ⟨t5, m5⟩ : ∃ t5, t5 = up2 (up2 t4 16 (700 + (nc4 + T4.length)) v) 3 13 (nI (nc4 + T4.length + 1)) := ⟨_, rfl⟩
  rw [← m5] at lay
  have k0 : t5 0 = t4 0 := by rw [m5, up2_n (by decide), up2_n (by decide)]
  have k16 : t5 16 = upd (t4 16) (700 + (nc4 + T4.length)) v := by rw [m5, up2_n (by decide), up2_s]
  have P5 : PR g B L h4 t5 kd4 st4 en4 := u3.kept rfl rfl rfl k0 (by rw [m5, up2_n (by decide), up2_n (by decide)])
  have l1 : (T4 ++ [xo]).length = T4.length + 1 := by rw [List.length_append]; rfl
  have C5 : CodeR g h4 t5 (T4 ++ [xo]) nc4 := by
    refine ⟨u5.1, ?_, fun a ha => ?_, fun j hj => ?_⟩
    · rw [m5, up2_ss, l1]; rfl
    · rw [k16, upd_n (by omega)]; exact u5.2.2.1 a ha
    · rw [l1] at hj
      rw [k16]
      by_cases e : j = T4.length
      · subst e
        rw [upd_s, cx, List.getD_eq_getElem?_getD, List.getElem?_append_right (Nat.le_refl _), Nat.sub_self]; rfl
      · rw [upd_n (by omega), List.getD_eq_getElem?_getD, List.getElem?_append_left (by omega), ← List.getD_eq_getElem?_getD]
        exact u5.2.2.2 j (by omega)
  have S5 : Seg (t5 16) nc (nc4 + (T4 ++ [xo]).length) (29 - 5 * d) := by
    rw [l1]
    have a1 : Seg (t5 16) nc (nc2 + T.length) (28 - 5 * d) := o14.cong (fun j _ hj => by rw [k16, upd_n (by omega), u15.2.1 j hj, q10.2.1 j hj])
    have a2 : Seg (t5 16) (nc2 + T.length) (nc4 + T4.length) (28 - 5 * d) := u14.cong (fun j _ hj => by rw [k16, upd_n (by omega)])
    have := a1.two a2 (by omega) (by omega) (x := v) (by rw [k16, upd_s]) v20 v28
    rw [show nc4 + (T4.length + 1) = nc4 + T4.length + 1 by omega]
    exact this.mono (by omega)
  obtain ⟨r, w1, w2, w3, w4, w5⟩ := notsLay (R := R) (nc0 := nc) (i := i) P5 C5 i6 (by rw [l1]; omega) (by rw [l1]; omega) S5
  have Y : fX11_readNot R t (nI d) = some r := mdl _ (by rw [q2, bnd_s, f1, bnd_s, lay, bnd_s]; exact w1)
  rw [Y]
  have ln : (T4 ++ [xo] ++ List.replicate i (-13 : Int32)).length = T4.length + 1 + i := by rw [List.length_append, lrep, l1]
  have E5 : EFr g h t h4 t5 nc := by
    refine (E3.tr u15 (by omega)).tr (m := nc) ?_ (Nat.le_refl _)
    refine ⟨?_, fun a ha => by rw [k16, upd_n (by omega)], fun a _ _ _ _ _ => rfl, Fs.rf, fun a p q s => by rw [m5, up2_n q, up2_n s], ?_⟩
    · rw [m5]; exact (MG.rf.up (by decide) (by decide) (by unfold hfz; simp)).up (by decide) (by decide) (by unfold hfz; simp)
    · rw [m5]; exact (Fs.rf.un (by decide)).up (by decide)
  refine ⟨h4, r, kd4, st4, en4, T4 ++ [xo] ++ List.replicate i (-13), nc4, i + m + 1 + m4, rfl, stp_tr sp3 ?_, w2, ?_, w3, ⟨u6, u7⟩, ⟨by omega, ?_, ?_, by omega, ?_⟩, fun y hy => ?_, w4, E5.tr w5 (by rw [l1]; omega), u16, fun _ => ?_⟩
  · have : l + (i + m + 1 + m4) = l + (i + m + 1) + m4 := by omega
    rw [this]; exact u2
  · rw [List.append_assoc, List.append_assoc]; exact u4
  · rw [ln]; omega
  · rw [ln]; omega
  · rw [ln]; omega
  · rcases List.mem_append.mp hy with z | z
    · rcases List.mem_append.mp z with z | z
      · exact Nat.le_trans (by decide) (u13 y z)
      · rw [List.mem_singleton.mp z, sx]; decide
    · rw [List.eq_of_mem_replicate z]; decide
  · exact ⟨T4, xo, List.replicate i (-13), by rw [List.append_assoc]; rfl, u13, sx⟩
