/-! ===== parish: and, or, a whole rule by its depth ===== -/
theorem notLW {R : ST → Int32 → Option ST} {t : ST} (h : ¬ t 0 26 = 0) (a b : Int32) : fX11_readNot_2 R a (t, b) = some (.inr (t, b)) := by
  unfold fX11_readNot_2
  dsimp only
  rw [wordW h, bnd_s, if_pos rfl]
theorem notW {R : ST → Int32 → Option ST} {t : ST} (h : ¬ t 0 26 = 0) (a : Int32) : fX11_readNot R t a = some t := by
  unfold fX11_readNot
  rw [lp_1 (b := fX11_readNot_2 R a) (notLW h a 0), bnd_s]
  dsimp only
  rw [sumW h, bnd_s, signW h, bnd_s, if_pos rfl, signW h, bnd_s, if_pos rfl]
  exact notsW (n := 0) h (by decide)
theorem andLW {R : ST → Int32 → Option ST} {t : ST} (h : ¬ t 0 26 = 0) (a : Int32) : fX11_readAnd_5 R a t = some (.inr t) := by
  unfold fX11_readAnd_5
  rw [wordW h, bnd_s, if_pos rfl]
theorem andW {R : ST → Int32 → Option ST} {t : ST} (h : ¬ t 0 26 = 0) (a : Int32) : fX11_readAnd R t a = some t := by
  unfold fX11_readAnd
  rw [notW h, bnd_s, lp_1 (b := fX11_readAnd_5 R a) (andLW h a), bnd_s]
theorem orLW {R : ST → Int32 → Option ST} {t : ST} (h : ¬ t 0 26 = 0) (a : Int32) : fX11_readExpression_67 R a t = some (.inr t) := by
  unfold fX11_readExpression_67
  rw [wordW h, bnd_s, if_pos rfl]
theorem orW {R : ST → Int32 → Option ST} {t : ST} (h : ¬ t 0 26 = 0) (a : Int32) : fX11_readExpression_62 R t a = some t := by
  unfold fX11_readExpression_62
  rw [andW h, bnd_s, lp_1 (b := fX11_readExpression_67 R a) (orLW h a), bnd_s]
theorem W4.app {T : List Int32} {x : Int32} (h : W4 T) : W4 (T ++ [x]) := by
  obtain ⟨P, y, Q, e, h1, h2⟩ := h
  exact ⟨P, y, Q ++ [x], by rw [e, List.append_assoc, List.cons_append], h1, h2⟩
theorem nxN.app {B : Nat → Nat} {kd st : Nat} {T : List Int32} {x : Int32} (h : nxN B kd st T) : nxN B kd st (T ++ [x]) := ⟨h.1, fun q => (h.2 q).app⟩
theorem sq_w {B : Nat → Nat} {kd st b : Nat} (h : kd = 1) : sq B kd st b = false := by
  unfold sq
  rw [h]; rfl
theorem andX {R : ST → Int32 → Option ST} {g : Nat} {B : Nat → Nat} {L d : Nat} (hR : ExprC R g B L (d + 1)) (hW : ∀ t a, ¬ t 0 26 = 0 → R t a = some t) (d5 : d ≤ 5) {h t : ST} {kd st en nc l : Nat} {S : List Int32} (x : XI g B L h t kd st en S d nc l) (hS : S.length ≤ 12 * d + 1) (h5 : h 40 5 = 1) (h3 : h 40 3 = 0) (top : ∀ y u, S = y :: u → sg y < 2) :
    OKX g B L h t st S d nc l 2 (30 - 5 * d) 10 (fun kd' st' en' T => nxA B kd' st' en' T) (fX11_readAnd R t (nI d)) ∨ BDX g h t l (fX11_readAnd R t (nI d)) := by
  obtain ⟨t1, e1, s1⟩ := XY.val (notX hR hW d5 x (by omega) h5 h3 (fun y u e => Nat.lt_of_lt_of_le (top y u e) (by decide)))
  have n1 : ¬ bz true = 0 := by decide
  have z1 : bz false = 0 := rfl
  obtain ⟨r, r1, r2⟩ := loopX (b := fX11_readAnd_5 R (nI d)) (sub := fun r => fX11_readNot R r (nI d)) (s := 2) (k' := 3) (D := 30 - 5 * d) (D' := 29 - 5 * d) (tb' := 9) (NXi := fun kd' st' _ T => nxN B kd' st' T) (NXo := fun kd' st' en' T => nxA B kd' st' en' T) (fun t h => andLW h _)
    (by
      intro h t kd st en T p nx
      have wm := wordM p.1 p.2.1 p.2.2.1 (k := 18) (by decide)
      have sk := signK p nx.1.2.1 nx.1.2.2 nx.1.1.1 nx.1.1.2
      cases b : (decide (kd = 1) && wq B 18 st en)
      · right
        refine ⟨?_, nx, b⟩
        unfold fX11_readAnd_5
        rw [wm, b, bnd_s, if_pos z1]
      · left
        have kd1 : kd = 1 := by rw [Bool.and_eq_true, decide_eq_true_eq] at b; exact b.1
        refine ⟨-14, -26, ?_, by omega, sq_w kd1, sq_w kd1, ?_, by decide, by decide, by decide, by decide, by decide⟩
        · unfold fX11_readAnd_5
          rw [wm, b, bnd_s, if_neg n1]
        · rw [sk, sq_w kd1, sq_w kd1, b, if_neg (show ¬ false = true by decide), if_neg (show ¬ false = true by decide), if_pos rfl])
    (by
      intro h t kd st en nc l y sy xi w
      rw [if_neg (by decide)] at w
      exact notX hR hW d5 xi (by simp only [List.length_cons]; omega) w.1 w.2 (fun z u e => by injection e with e1 _; rw [← e1, sy]; decide))
    (fun _ _ _ _ _ nx _ => nx.app) (by decide) (by decide) (by decide) top (by omega) (by omega) (by omega) x.2.2.2.2.2.2.2 x.2.2.2.2.2.1 (s1.imp (fun o => o.mono (by decide) (by omega) (by decide) (fun _ _ _ _ q => q)) id)
  have Y : fX11_readAnd R t (nI d) = some r := by
    unfold fX11_readAnd
    rw [e1, bnd_s, r1, bnd_s]
  rw [Y]; exact r2
theorem orX {R : ST → Int32 → Option ST} {g : Nat} {B : Nat → Nat} {L d : Nat} (hR : ExprC R g B L (d + 1)) (hW : ∀ t a, ¬ t 0 26 = 0 → R t a = some t) (d5 : d ≤ 5) {h t : ST} {kd st en nc l : Nat} {S : List Int32} (x : XI g B L h t kd st en S d nc l) (hS : S.length ≤ 12 * d) (h5 : h 40 5 = 1) (h3 : h 40 3 = 0) (top : ∀ y u, S = y :: u → sg y < 1) :
    OKX g B L h t st S d nc l 1 (31 - 5 * d) 11 (fun kd' st' en' T => nxO B kd' st' en' T ∧ d ≤ 5) (fX11_readExpression_62 R t (nI d)) ∨ BDX g h t l (fX11_readExpression_62 R t (nI d)) := by
  obtain ⟨t1, e1, s1⟩ := XY.val (andX hR hW d5 x (by omega) h5 h3 (fun y u e => Nat.lt_of_lt_of_le (top y u e) (by decide)))
  have n1 : ¬ bz true = 0 := by decide
  have z1 : bz false = 0 := rfl
  obtain ⟨r, r1, r2⟩ := loopX (b := fX11_readExpression_67 R (nI d)) (sub := fun r => fX11_readAnd R r (nI d)) (s := 1) (k' := 2) (D := 31 - 5 * d) (D' := 30 - 5 * d) (tb' := 10) (NXi := fun kd' st' en' T => nxA B kd' st' en' T) (NXo := fun kd' st' en' T => nxO B kd' st' en' T ∧ d ≤ 5) (fun t h => orLW h _)
    (by
      intro h t kd st en T p nx
      have wm := wordM p.1 p.2.1 p.2.2.1 (k := 19) (by decide)
      have sk := signK p nx.1.1.2.1 nx.1.1.2.2 nx.1.1.1.1 nx.1.1.1.2
      cases b : (decide (kd = 1) && wq B 19 st en)
      · right
        refine ⟨?_, ⟨nx, b⟩, d5⟩
        unfold fX11_readExpression_67
        rw [wm, b, bnd_s, if_pos z1]
      · left
        have kd1 : kd = 1 := by rw [Bool.and_eq_true, decide_eq_true_eq] at b; exact b.1
        refine ⟨-15, -27, ?_, by omega, sq_w kd1, sq_w kd1, ?_, by decide, by decide, by decide, by decide, by decide⟩
        · unfold fX11_readExpression_67
          rw [wm, b, bnd_s, if_neg n1]
        · rw [sk, sq_w kd1, sq_w kd1, nx.2, b, if_neg (show ¬ false = true by decide), if_neg (show ¬ false = true by decide), if_neg (show ¬ false = true by decide), if_pos rfl])
    (by
      intro h t kd st en nc l y sy xi w
      rw [if_neg (by decide)] at w
      exact andX hR hW d5 xi (by simp only [List.length_cons]; omega) w.1 w.2 (fun z u e => by injection e with e1 _; rw [← e1, sy]; decide))
    (fun _ _ _ _ _ nx _ => ⟨nx.1.app, nx.2⟩) (by decide) (by decide) (by decide) top (by omega) (by omega) (by omega) x.2.2.2.2.2.2.2 x.2.2.2.2.2.1 (s1.imp (fun o => o.mono (by decide) (by omega) (by decide) (fun _ _ _ _ q => q)) id)
  have Y : fX11_readExpression_62 R t (nI d) = some r := by
    unfold fX11_readExpression_62
    rw [e1, bnd_s, r1, bnd_s]
  rw [Y]; exact r2
theorem exprW {t : ST} (h : ¬ t 0 26 = 0) (dd : Nat) (a : Int32) : fX11_readExpression (dd + 1) t a = some t := by
  show fX11_readExpression_b (fX11_readExpression dd) t a = some t
  unfold fX11_readExpression_b
  rw [if_neg h]
theorem exprX {g : Nat} {B : Nat → Nat} {L : Nat} : ∀ dd d, d ≤ 6 → 7 ≤ d + dd → ExprC (fX11_readExpression dd) g B L d
  | 0, d, d6, h7 => by omega
  | dd + 1, d, d6, h7 => by
    intro h t kd st en S nc l x h5 h3 hS top
    obtain ⟨p, w, cr, hd, h4, n1, n2, cs⟩ := id x
    have L7 := p.1.1
    have stL : st ≤ L := Nat.le_trans p.2.1.2.2.2.2.1.1 p.2.1.2.2.2.2.1.2.1
    have k7 := p.2.1.2.2.2.2.1.2.2
    have kc : h 39 0 = nI kd := p.2.1.2.2.2.1.1
    have km : t 0 22 = nI kd := p.2.1.2.2.2.1.2
    have e1 : nI kd = 1 ↔ kd = 1 := nI_eq (b := 1) (by omega) (by decide)
    have e2 : nI kd = 2 ↔ kd = 2 := nI_eq (b := 2) (by omega) (by decide)
    have b1 : ¬ bz true = 0 := by decide
    have z1 : bz false = 0 := rfl
    have s40 : fX9_isSign h 40 = some (bz (sq B kd st 40)) := signC p.1 p.2.1 (v := 40) (by decide)
    have m40 : fX11_isMarked t 40 = some (bz (sq B kd st 40)) := signM p.1 p.2.1 p.2.2.1 (v := 40) (by decide)
    show OKX g B L h t st S d nc l 1 (31 - 5 * d) 11 (fun kd' st' en' T => nxO B kd' st' en' T ∧ d ≤ 5) (fX11_readExpression_b (fX11_readExpression dd) t (nI d)) ∨ BDX g h t l (fX11_readExpression_b (fX11_readExpression dd) t (nI d))
    have fault : ∀ (c : Int32), ¬ c = 0 → fX6_readPart h = some (c, h) → (∀ t', fX11_wrong t c = some t' → ¬ t' 0 26 = 0 → fX11_readExpression_b (fX11_readExpression dd) t (nI d) = some t') → BDX g h t l (fX11_readExpression_b (fX11_readExpression dd) t (nI d)) := fun c hc rp md => by
      obtain ⟨t', y1, y2, y3, y4⟩ := wrongM p hc
      have n26 : ¬ t' 0 26 = 0 := by rw [y2.2.1]; exact y2.1
      refine ⟨h, 0, c, h, t', md t' y1 n26, rfl, by omega, ?_, y2, KG.rf, MG.of y3 y4 W_in⟩
      rw [Nat.add_zero, readHead h4 (by omega) rp]
      exact read79n hc
    by_cases may : kd = 2 ∨ kd = 1 ∨ sq B kd st 40 = true
    rotate_left
    · right
      have k2 : ¬ kd = 2 := fun z => may (Or.inl z)
      have k1 : ¬ kd = 1 := fun z => may (Or.inr (Or.inl z))
      have c40 : sq B kd st 40 = false := by
        cases z : sq B kd st 40
        · rfl
        · exact absurd (Or.inr (Or.inr z)) may
      refine fault 1 (by decide) ?_ (fun t' y1 n26 => ?_)
      · unfold fX6_readPart
        rw [s40, c40, bnd_s, if_pos z1, kc, if_neg (fun z => k1 (e1.mp z)), if_neg (fun z => k2 (e2.mp z))]
      · unfold fX11_readExpression_b fX11_readExpression_38
        rw [if_pos p.2.2.1, km, if_neg (fun z => k2 (e2.mp z)), if_neg (fun z => k1 (e1.mp z)), m40, c40, bnd_s, if_pos z1, if_pos rfl, y1, bnd_s]
        exact orW n26 _
    have mdl : fX11_readExpression_b (fX11_readExpression dd) t (nI d) = if nI d = 6 then bnd (fX11_wrong t 2) fun r18 => fX11_readExpression_62 (fX11_readExpression dd) r18 (nI d) else fX11_readExpression_62 (fX11_readExpression dd) t (nI d) := by
      have e33 : fX11_readExpression_33 (fX11_readExpression dd) t (nI d) = if nI d = 6 then bnd (fX11_wrong t 2) fun r18 => fX11_readExpression_62 (fX11_readExpression dd) r18 (nI d) else fX11_readExpression_62 (fX11_readExpression dd) t (nI d) := by
        unfold fX11_readExpression_33 fX11_readExpression_38
        rw [if_neg (show ¬ (1 : Int32) = 0 by decide)]
      unfold fX11_readExpression_b
      rw [if_pos p.2.2.1, km]
      by_cases k2 : kd = 2
      · rw [if_pos (e2.mpr k2)]; exact e33
      · rw [if_neg (fun z => k2 (e2.mp z))]
        by_cases k1 : kd = 1
        · rw [if_pos (e1.mpr k1)]; exact e33
        · have c40 := (may.resolve_left k2).resolve_left k1
          rw [if_neg (fun z => k1 (e1.mp z)), m40, c40, bnd_s, if_neg b1]; exact e33
    by_cases c6 : d = 6
    · right
      refine fault 2 (by decide) ?_ (fun t' y1 n26 => ?_)
      · have e38 : ∀ q, fX6_readPart_38 h q = some (2, h) := fun q => by
          unfold fX6_readPart_38
          rw [if_neg (show ¬ h 40 2 < 6 by rw [hd, c6]; decide)]
        unfold fX6_readPart
        rw [s40, bnd_s]
        cases c40 : sq B kd st 40
        · rw [if_pos z1, kc]
          by_cases k1 : kd = 1
          · rw [if_pos (e1.mpr k1)]; exact e38 _
          · have k2 : kd = 2 := by
              rcases may with z | z | z
              · exact z
              · exact absurd z k1
              · rw [c40] at z; exact absurd z (by decide)
            rw [if_neg (fun z => k1 (e1.mp z)), if_pos (e2.mpr k2)]; exact e38 _
        · rw [if_neg b1]; exact e38 _
      · rw [mdl, if_pos (show nI d = 6 by rw [c6]; rfl), y1, bnd_s]
        exact orW n26 _
    · have d5 : d ≤ 5 := by omega
      obtain ⟨dd', rfl⟩ : ∃ q, dd = q + 1 := ⟨dd - 1, by omega⟩
      rw [mdl, if_neg (show ¬ nI d = 6 from fun z => c6 ((nI_eq (a := d) (b := 6) (by omega) (by decide)).mp z))]
      exact orX (exprX (dd' + 1) (d + 1) (by omega) (by omega)) (fun t a h => exprW h dd' a) d5 x hS h5 h3 top
