/-! ===== parish: all lines ===== -/
def LI (g : Nat) (B : Nat → Nat) (L : Nat) (h t : ST) (kd st en D : Nat) : Prop :=
  PR g B L h t kd st en ∧ (∃ nr nd nw nc nz, HF g h t nr nd nw nc nz) ∧ CS t ∧ (D < 16 ∧ ∀ j, j < 8 → 4 ≤ j → h 38 j = nI (D / 2 ^ (j - 4) % 2)) ∧ (D % 2 = 0 → t 3 10 = 0) ∧ (D / 8 % 2 = 0 → t 3 13 = 0)
def okT (T : List Nat) (D D' : Nat) : Prop := D' < 16 ∧ (∀ j, j < 8 → 4 ≤ j → (j ∈ T ∧ D' / 2 ^ (j - 4) % 2 = 1) ∨ (j ∉ T ∧ D' / 2 ^ (j - 4) % 2 = D / 2 ^ (j - 4) % 2)) ∧ (4 ∈ T → D' % 2 = 1) ∧ (4 ∉ T → D' % 2 = D % 2) ∧ (7 ∈ T → D' / 8 % 2 = 1) ∧ (7 ∉ T → D' / 8 % 2 = D / 8 % 2)
theorem ok_of {fl D D' : Nat} (h : D' < 16) (f3 : fl ≠ 3) (hj : ∀ j, j < 8 → 4 ≤ j → (j = fl ∧ D' / 2 ^ (j - 4) % 2 = 1) ∨ (j ≠ fl ∧ D' / 2 ^ (j - 4) % 2 = D / 2 ^ (j - 4) % 2)) : okT [3, fl] D D' := by
  have e4 : ∀ x : Nat, x / 2 ^ (4 - 4) % 2 = x % 2 := fun x => by show x / 1 % 2 = _; rw [Nat.div_one]
  have e7 : ∀ x : Nat, x / 2 ^ (7 - 4) % 2 = x / 8 % 2 := fun x => rfl
  have i4 : ∀ j, 4 ≤ j → (j ∈ [3, fl] ↔ j = fl) := fun j h4 => by
    simp only [List.mem_cons, List.not_mem_nil, or_false]
    omega
  have q4 := hj 4 (by decide) (by decide)
  have q7 := hj 7 (by decide) (by decide)
  rw [e4, e4] at q4
  rw [e7, e7] at q7
  refine ⟨h, fun j a b => ?_, fun m => ?_, fun m => ?_, fun m => ?_, fun m => ?_⟩
  · rw [i4 j b]; exact hj j a b
  · rw [i4 4 (by decide)] at m; omega
  · rw [i4 4 (by decide)] at m; omega
  · rw [i4 7 (by decide)] at m; omega
  · rw [i4 7 (by decide)] at m; omega
theorem ok0 (D : Nat) (h : D < 16) : okT [3] D D ∧ nI D ||| 0 = nI D := by
  refine ⟨⟨h, fun j a b => Or.inr ⟨?_, rfl⟩, fun m => ?_, fun _ => rfl, fun m => ?_, fun _ => rfl⟩, Int32.or_zero⟩
  · simp only [List.mem_cons, List.not_mem_nil, or_false]; omega
  · exact absurd m (by decide)
  · exact absurd m (by decide)
theorem bj4 (D : Nat) (h : D < 16) (j : Nat) (a : j < 8) (z : D % 2 = 0) (b : 4 ≤ j) : (j = 4 ∧ (D + 1) / 2 ^ (j - 4) % 2 = 1) ∨ (j ≠ 4 ∧ (D + 1) / 2 ^ (j - 4) % 2 = D / 2 ^ (j - 4) % 2) := by
  have : j = 4 ∨ j = 5 ∨ j = 6 ∨ j = 7 := by omega
  rcases this with rfl | rfl | rfl | rfl
  · exact Or.inl ⟨rfl, by show (D + 1) / 1 % 2 = 1; omega⟩
  · exact Or.inr ⟨by decide, by show (D + 1) / 2 % 2 = D / 2 % 2; omega⟩
  · exact Or.inr ⟨by decide, by show (D + 1) / 4 % 2 = D / 4 % 2; omega⟩
  · exact Or.inr ⟨by decide, by show (D + 1) / 8 % 2 = D / 8 % 2; omega⟩
theorem bj5 (D : Nat) (h : D < 16) (j : Nat) (a : j < 8) (z : D / 2 % 2 = 0) (b : 4 ≤ j) : (j = 5 ∧ (D + 2) / 2 ^ (j - 4) % 2 = 1) ∨ (j ≠ 5 ∧ (D + 2) / 2 ^ (j - 4) % 2 = D / 2 ^ (j - 4) % 2) := by
  have : j = 4 ∨ j = 5 ∨ j = 6 ∨ j = 7 := by omega
  rcases this with rfl | rfl | rfl | rfl
  · exact Or.inr ⟨by decide, by show (D + 2) / 1 % 2 = D / 1 % 2; omega⟩
  · exact Or.inl ⟨rfl, by show (D + 2) / 2 % 2 = 1; omega⟩
  · exact Or.inr ⟨by decide, by show (D + 2) / 4 % 2 = D / 4 % 2; omega⟩
  · exact Or.inr ⟨by decide, by show (D + 2) / 8 % 2 = D / 8 % 2; omega⟩
theorem bj6 (D : Nat) (h : D < 16) (j : Nat) (a : j < 8) (z : D / 4 % 2 = 0) (b : 4 ≤ j) : (j = 6 ∧ (D + 4) / 2 ^ (j - 4) % 2 = 1) ∨ (j ≠ 6 ∧ (D + 4) / 2 ^ (j - 4) % 2 = D / 2 ^ (j - 4) % 2) := by
  have : j = 4 ∨ j = 5 ∨ j = 6 ∨ j = 7 := by omega
  rcases this with rfl | rfl | rfl | rfl
  · exact Or.inr ⟨by decide, by show (D + 4) / 1 % 2 = D / 1 % 2; omega⟩
  · exact Or.inr ⟨by decide, by show (D + 4) / 2 % 2 = D / 2 % 2; omega⟩
  · exact Or.inl ⟨rfl, by show (D + 4) / 4 % 2 = 1; omega⟩
  · exact Or.inr ⟨by decide, by show (D + 4) / 8 % 2 = D / 8 % 2; omega⟩
theorem bj7 (D : Nat) (h : D < 16) (j : Nat) (a : j < 8) (z : D / 8 % 2 = 0) (b : 4 ≤ j) : (j = 7 ∧ (D + 8) / 2 ^ (j - 4) % 2 = 1) ∨ (j ≠ 7 ∧ (D + 8) / 2 ^ (j - 4) % 2 = D / 2 ^ (j - 4) % 2) := by
  have : j = 4 ∨ j = 5 ∨ j = 6 ∨ j = 7 := by omega
  rcases this with rfl | rfl | rfl | rfl
  · exact Or.inr ⟨by decide, by show (D + 8) / 1 % 2 = D / 1 % 2; omega⟩
  · exact Or.inr ⟨by decide, by show (D + 8) / 2 % 2 = D / 2 % 2; omega⟩
  · exact Or.inr ⟨by decide, by show (D + 8) / 4 % 2 = D / 4 % 2; omega⟩
  · exact Or.inl ⟨rfl, by show (D + 8) / 8 % 2 = 1; omega⟩
theorem bo4 : ∀ D, D < 16 → D % 2 = 0 → nI D ||| 1 = nI (D + 1) := by decide
theorem bo5 : ∀ D, D < 16 → D / 2 % 2 = 0 → nI D ||| 2 = nI (D + 2) := by decide
theorem bo6 : ∀ D, D < 16 → D / 4 % 2 = 0 → nI D ||| 4 = nI (D + 4) := by decide
theorem bo7 : ∀ D, D < 16 → D / 8 % 2 = 0 → nI D ||| 8 = nI (D + 8) := by decide
theorem ba4 : ∀ D, D < 16 → (1 &&& nI D = 0 ↔ D % 2 = 0) := by decide
theorem ba5 : ∀ D, D < 16 → (2 &&& nI D = 0 ↔ D / 2 % 2 = 0) := by decide
theorem ba6 : ∀ D, D < 16 → (4 &&& nI D = 0 ↔ D / 4 % 2 = 0) := by decide
theorem ba7 : ∀ D, D < 16 → (8 &&& nI D = 0 ↔ D / 8 % 2 = 0) := by decide
theorem ok4 (D : Nat) (h : D < 16) : (D % 2 = 0 → okT [3, 4] D (D + 1) ∧ nI D ||| 1 = nI (D + 1)) ∧ (1 &&& nI D = 0 ↔ D % 2 = 0) := ⟨fun z => ⟨ok_of (by omega) (by decide) (fun j a b => bj4 D h j a z b), bo4 D h z⟩, ba4 D h⟩
theorem ok5 (D : Nat) (h : D < 16) : (D / 2 % 2 = 0 → okT [3, 5] D (D + 2) ∧ nI D ||| 2 = nI (D + 2)) ∧ (2 &&& nI D = 0 ↔ D / 2 % 2 = 0) := ⟨fun z => ⟨ok_of (by omega) (by decide) (fun j a b => bj5 D h j a z b), bo5 D h z⟩, ba5 D h⟩
theorem ok6 (D : Nat) (h : D < 16) : (D / 4 % 2 = 0 → okT [3, 6] D (D + 4) ∧ nI D ||| 4 = nI (D + 4)) ∧ (4 &&& nI D = 0 ↔ D / 4 % 2 = 0) := ⟨fun z => ⟨ok_of (by omega) (by decide) (fun j a b => bj6 D h j a z b), bo6 D h z⟩, ba6 D h⟩
theorem ok7 (D : Nat) (h : D < 16) : (D / 8 % 2 = 0 → okT [3, 7] D (D + 8) ∧ nI D ||| 8 = nI (D + 8)) ∧ (8 &&& nI D = 0 ↔ D / 8 % 2 = 0) := ⟨fun z => ⟨ok_of (by omega) (by decide) (fun j a b => bj7 D h j a z b), bo7 D h z⟩, ba7 D h⟩
/-- one line -/
def LX (g : Nat) (B : Nat → Nat) (L : Nat) (h t : ST) (st k : Nat) (X : Option ((ST × Int32) ⊕ ((ST × Int32) ⊕ ST))) (Y : Option (Int32 × ST)) : Prop :=
  (∃ h' t' kd' st' en' D', X = some (.inl (h', nI (k + 1))) ∧ Y = some (nI D', t') ∧ LI g B L h' t' kd' st' en' D' ∧ st < st' ∧ KG g h h' ∧ MG t t') ∨ ∃ c h' t' v, X = some (.inr (.inl (h', c))) ∧ Y = some (v, t') ∧ BD h' t' c ∧ KG g h h' ∧ MG t t'
theorem LG.next {g : Nat} {B : Nat → Nat} {L : Nat} {h t : ST} {kd st en D D' k : Nat} {T : List Nat} {v : Int32} {X : Option ((ST × Int32) ⊕ ((ST × Int32) ⊕ ST))} {Y : Option (Int32 × ST)} (y : LG g B L h t st T k v X Y) (x : LI g B L h t kd st en D) (hT : okT T D D') (hv : v = nI D') : LX g B L h t st k X Y := by
  obtain ⟨-, -, cs, ⟨d16, fl⟩, z10, z13⟩ := x
  rcases y with ⟨h', t', kd', st', en', nr, nd, nw, nc, nz, e1, e2, P, H, K, M, l, S, y1, y2, y3⟩ | ⟨c, h', t', e1, e2, bd, K, M⟩
  · left
    refine ⟨h', t', kd', st', en', D', e1, by rw [e2, hv], ⟨P, ⟨nr, nd, nw, nc, nz, H⟩, ?_, ⟨hT.1, fun j j8 j4 => ?_⟩, fun z => ?_, fun z => ?_⟩, l, K, M⟩
    · unfold CS
      rw [M.1 1 (by decide) (by decide), M.1 2 (by decide) (by decide)]; exact cs
    · rcases hT.2.1 j j8 j4 with ⟨a, b⟩ | ⟨a, b⟩
      · rw [b]; exact y3 j a (by omega)
      · rw [b, S j a]; exact fl j j8 j4
    · rcases y2 with q | q
      · have := hT.2.2.1 q
        omega
      · rw [q]
        by_cases c : 4 ∈ T
        · have := hT.2.2.1 c
          omega
        · exact z10 (by rw [← hT.2.2.2.1 c]; exact z)
    · rcases y1 with q | q
      · have := hT.2.2.2.2.1 q
        omega
      · rw [q]
        by_cases c : 7 ∈ T
        · have := hT.2.2.2.2.1 c
          omega
        · exact z13 (by rw [← hT.2.2.2.2.2 c]; exact z)
  · exact Or.inr ⟨c, h', t', v, e1, e2, bd, K, M⟩
theorem lineX {g : Nat} {B : Nat → Nat} {L : Nat} {h t : ST} {kd st en D : Nat} (x : LI g B L h t kd st en D) (k0 : kd ≠ 0) (k : Nat) : LX g B L h t st k (Lsg (fX4_readLine h) (nI k)) (fX11_readLine t (nI D)) := by
  obtain ⟨p, ⟨nr, nd, nw, nc, nz, hf⟩, cs, ⟨d16, fl⟩, z10, z13⟩ := id x
  obtain ⟨c1, c2, c3, c4, c5, c6, c7, c8, c9, c10, c0⟩ := lineC p
  obtain ⟨m7, m8, m9, m10, m0⟩ := lineM p (nI D)
  obtain ⟨h1, t1, kd1, st1, en1, s1, s2, -⟩ := p.step
  have f4 := fl 4 (by decide) (by decide)
  have f5 := fl 5 (by decide) (by decide)
  have f6 := fl 6 (by decide) (by decide)
  have f7 := fl 7 (by decide) (by decide)
  have lt2 : ∀ q, q % 2 = 0 ∨ q % 2 = 1 := fun q => by omega
  have two : ∀ q : Nat, q % 2 = 1 → ¬ nI (q % 2) = 0 := fun q e => by rw [e]; decide
  have zer : ∀ q : Nat, q % 2 = 0 → nI (q % 2) = 0 := fun q e => by rw [e]; rfl
  -- a line told a second time
  have again : ∀ q : Int32, ¬ q ≤ 0 → ¬ (q &&& nI D) = 0 → fX4_readLine h = some (5, h) → fX11_readLine t (nI D) = fX11_readLine_58 t (nI D) q → (∃ r, fX11_which t 1 3 = some r) → LX g B L h t st k (Lsg (fX4_readLine h) (nI k)) (fX11_readLine t (nI D)) := fun q q0 qn ec em ⟨r, er⟩ => by
    right
    obtain ⟨t2, w1, w2, w3, w4⟩ := wrongM p (c := 5) (by decide)
    have n26 : ¬ t2 0 26 = 0 := by rw [w2.2.1]; exact w2.1
    obtain ⟨t3, v1, v2, v3⟩ := lineW n26 (nI D) q
    refine ⟨5, h, t3, nI D ||| q, ?_, ?_, w2.kept rfl v2, KG.rf, (MG.of w3 w4 W_in).tr v3⟩
    · rw [ec]; exact Lsg_n (by decide)
    · rw [em]
      unfold fX11_readLine_58 fX11_readLine_79
      rw [er, bnd_s, if_neg qn, w1, bnd_s, if_neg q0, if_neg n26]; exact v1
  have special : ∀ q : Int32, ¬ q ≤ 0 → (q &&& nI D) = 0 → fX11_readLine t (nI D) = fX11_readLine_58 t (nI D) q → (∃ r, fX11_which t 1 3 = some r) → fX11_readLine t (nI D) = fX11_readLine_94 t1 (nI D) q := fun q q0 qn em ⟨r, er⟩ => by
    rw [em]
    unfold fX11_readLine_58 fX11_readLine_79
    rw [er, bnd_s, if_pos qn, if_neg q0, if_pos p.2.2.1, s2, bnd_s]
  have wh : ∀ j, 4 ≤ j → j ≤ 10 → wd B kd st en j = true → ∃ r, fX11_which t 1 3 = some r := fun j a b e => ⟨_, (lineW3 p cs).2 (fun i hi => wd_one e (by omega) (by omega) (by omega))⟩
  rcases lineK B kd st en with ⟨j, j1, j10, e⟩ | no
  rotate_left
  · have e := (lineM0 p cs (nI D) (fun q a b => no q (by omega) b)).2.2.2.2 (fun q a b => no q a (by omega))
    obtain ⟨t2, w1, w2, w3, w4⟩ := wrongM p (c := 1) (by decide)
    have n26 : ¬ t2 0 26 = 0 := by rw [w2.2.1]; exact w2.1
    refine Or.inr ⟨1, h, t2, nI D ||| 0, ?_, ?_, w2, KG.rf, MG.of w3 w4 W_in⟩
    · rw [c0 no]; exact Lsg_n (by decide)
    · rw [e, w1, bnd_s, show fX11_mark t2 59 = some t2 from markW n26 _, bnd_s]
  by_cases j7 : j < 7
  · have plain := lineM0 p cs (nI D) (fun q a b => wd_one e (by omega) (by omega) (by omega))
    obtain ⟨o1, o2⟩ := ok0 D d16
    have : j = 1 ∨ j = 2 ∨ j = 3 ∨ j = 4 ∨ j = 5 ∨ j = 6 := by omega
    rcases this with rfl | rfl | rfl | rfl | rfl | rfl
    · exact (((roomLine p hf k0 (k := 0) (by decide)).sign k (nI D ||| 0)).cast (by rw [c1 e]; rfl) (plain.1 0 (by decide) e)).next x o1 o2
    · exact (((roomLine p hf k0 (k := 1) (by decide)).sign k (nI D ||| 0)).cast (by rw [c2 e]; rfl) (plain.1 1 (by decide) e)).next x o1 o2
    · exact (((roomLine p hf k0 (k := 2) (by decide)).sign k (nI D ||| 0)).cast (by rw [c3 e]; rfl) (plain.1 2 (by decide) e)).next x o1 o2
    · exact (((doorLine p hf k0).sign k (nI D ||| 0)).cast (by rw [c4 e]) (plain.2.1 e)).next x o1 o2
    · exact (((windLine p hf k0).sign k (nI D ||| 0)).cast (by rw [c5 e]) (plain.2.2.1 e)).next x o1 o2
    · exact (((blowLine p hf k0).sign k (nI D ||| 0)).cast (by rw [c6 e]) (plain.2.2.2.1 e)).next x o1 o2
  have : j = 7 ∨ j = 8 ∨ j = 9 ∨ j = 10 := by omega
  rcases this with rfl | rfl | rfl | rfl
  · have o := ok4 D d16
    have f4' : h 38 4 = nI (D % 2) := by rw [f4]; show nI (D / 1 % 2) = _; rw [Nat.div_one]
    rcases lt2 D with z | z
    · have nc0 : nc = 0 := by
        have a := hf.1.2.2.2.2.1.1
        rw [z10 z] at a
        have b := hf.1.1.2.2.2.1
        exact ((nI_eq (a := 0) (b := nc) (by decide) (by omega)).mp a).symm
      subst nc0
      refine (((calLine p hf k0).sign k (nI D ||| 1)).cast ?_ ?_).next x (o.1 z).1 (o.1 z).2
      · rw [c7 e]
        unfold fX4_readCalendar
        rw [if_pos (by rw [f4']; exact zer D z)]
      · rw [special 1 (by decide) (o.2.mpr z) (m7 e) (wh 7 (by decide) (by decide) e), s2]
        unfold fX11_readLine_94
        rw [if_pos rfl, bnd_s]; rfl
    · refine again 1 (by decide) (fun q => by have := o.2.mp q; omega) ?_ (m7 e) (wh 7 (by decide) (by decide) e)
      rw [c7 e]
      unfold fX4_readCalendar
      rw [if_neg (by rw [f4']; exact two D z)]
  · have o := ok5 D d16
    have f5' : h 38 5 = nI (D / 2 % 2) := f5
    rcases lt2 (D / 2) with z | z
    · refine (((slotLine p hf k0 (fl := 5) (sl := 15) (ms := 11) (lo := 1) (hi := 30) (Or.inl ⟨rfl, rfl, rfl, rfl, rfl⟩)).sign k (nI D ||| 2)).cast ?_ ?_).next x (o.1 z).1 (o.1 z).2
      · rw [c8 e]
        unfold fX4_readEvery
        rw [if_pos (by rw [f5']; exact zer _ z)]; rfl
      · rw [special 2 (by decide) (o.2.mpr z) (m8 e) (wh 8 (by decide) (by decide) e), s2]
        unfold fX11_readLine_94
        rw [if_neg (by decide), if_pos rfl, bnd_s, bnd_as]
        simp only [bnd_as, bnd_s]; rfl
    · refine again 2 (by decide) (fun q => by have := o.2.mp q; omega) ?_ (m8 e) (wh 8 (by decide) (by decide) e)
      rw [c8 e]
      unfold fX4_readEvery
      rw [if_neg (by rw [f5']; exact two _ z)]
  · have o := ok6 D d16
    have f6' : h 38 6 = nI (D / 4 % 2) := f6
    rcases lt2 (D / 4) with z | z
    · refine (((slotLine p hf k0 (fl := 6) (sl := 16) (ms := 12) (lo := 0) (hi := 999) (Or.inr ⟨rfl, rfl, rfl, rfl, rfl⟩)).sign k (nI D ||| 4)).cast ?_ ?_).next x (o.1 z).1 (o.1 z).2
      · rw [c9 e]
        unfold fX4_readClean
        rw [if_pos (by rw [f6']; exact zer _ z)]; rfl
      · rw [special 4 (by decide) (o.2.mpr z) (m9 e) (wh 9 (by decide) (by decide) e), s2]
        unfold fX11_readLine_94
        rw [if_neg (by decide), if_neg (by decide), if_pos rfl, bnd_s, bnd_as]
        simp only [bnd_as, bnd_s]; rfl
    · refine again 4 (by decide) (fun q => by have := o.2.mp q; omega) ?_ (m9 e) (wh 9 (by decide) (by decide) e)
      rw [c9 e]
      unfold fX4_readClean
      rw [if_neg (by rw [f6']; exact two _ z)]
  · have o := ok7 D d16
    have f7' : h 38 7 = nI (D / 8 % 2) := f7
    rcases lt2 (D / 8) with z | z
    · have nz0 : nz = 0 := by
        have a := hf.1.2.2.2.2.2.2.2.1
        rw [z13 z] at a
        have b := hf.1.1.2.2.2.2
        exact ((nI_eq (a := 0) (b := nz) (by decide) (by omega)).mp a).symm
      subst nz0
      refine ((titheLine p hf k0 cs k (nI D ||| 8)).cast ?_ ?_).next x (o.1 z).1 (o.1 z).2
      · rw [c10 e, if_pos (by rw [f7']; exact zer _ z)]
      · rw [special 8 (by decide) (o.2.mpr z) (m10 e) (wh 10 (by decide) (by decide) e), s2]
        unfold fX11_readLine_94
        rw [if_neg (by decide), if_neg (by decide), if_neg (by decide), bnd_s]; rfl
    · refine again 8 (by decide) (fun q => by have := o.2.mp q; omega) ?_ (m10 e) (wh 10 (by decide) (by decide) e)
      rw [c10 e, if_neg (by rw [f7']; exact two _ z)]
theorem linesX {g : Nat} {B : Nat → Nat} {L : Nat} {h0 t0 : ST} : ∀ d F F' i h t kd st en D, i + d = 701 → d + 1 < F → d + 1 < F' → i ≤ st → LI g B L h t kd st en D → KG g h0 h → MG t0 t →
    ∃ x t', lp F fX4_read_42 (h, nI i) = some x ∧ lp F' fX11_parish_98 (t, nI D) = some t' ∧
      ((∃ h' kd' st' en' D', x = .inr h' ∧ LI g B L h' t' kd' st' en' D' ∧ KG g h0 h' ∧ MG t0 t') ∨ ∃ c h', x = .inl (h', c) ∧ BD h' t' c ∧ KG g h0 h' ∧ MG t0 t')
  | 0, F, F', i, h, t, kd, st, en, D, hd, hF, hF', hi, x, K, M => by
    have := x.1.1.1
    have := Nat.le_trans x.1.2.1.2.2.2.2.1.1 x.1.2.1.2.2.2.2.1.2.1
    omega
  | d + 1, F, F', i, h, t, kd, st, en, D, hd, hF, hF', hi, x, K, M => by
    obtain ⟨F, rfl⟩ : ∃ q, F = q + 1 := ⟨F - 1, by omega⟩
    obtain ⟨F', rfl⟩ : ∃ q, F' = q + 2 := ⟨F' - 2, by omega⟩
    have p := x.1
    have L7 := p.1.1
    have stL := Nat.le_trans p.2.1.2.2.2.2.1.1 p.2.1.2.2.2.2.1.2.1
    have k4 := p.2.1.2.2.2.2.1.2.2
    have kc : h 39 0 = nI kd := p.2.1.2.2.2.1.1
    have km : t 0 22 = nI kd := p.2.1.2.2.2.1.2
    have l7 : ¬ 700 < nI i := nI_nlt (a := 700) (by omega) (by decide)
    by_cases c : kd = 0
    · have b1 : fX4_read_42 (h, nI i) = some (.inr (.inr h)) := by
        unfold fX4_read_42
        dsimp only
        rw [if_neg l7, if_pos (by rw [kc, c]; rfl)]
      have b2 : fX11_parish_98 (t, nI D) = some (.inr t) := by
        unfold fX11_parish_98
        dsimp only
        rw [if_pos p.2.2.1, if_pos (by rw [km, c]; rfl)]
      exact ⟨.inr h, t, lp_r b1, lp_r b2, Or.inl ⟨h, kd, st, en, D, rfl, x, K, M⟩⟩
    · have nz : ¬ nI kd = 0 := nI_ne0 (by omega) (by omega)
      have b1 : fX4_read_42 (h, nI i) = Lsg (fX4_readLine h) (nI i) := by
        unfold fX4_read_42
        dsimp only
        rw [if_neg l7, if_neg (by rw [kc]; exact nz)]; rfl
      have b2 : fX11_parish_98 (t, nI D) = bnd (fX11_readLine t (nI D)) fun r28 => some (.inl (r28.2, r28.1)) := by
        unfold fX11_parish_98
        dsimp only
        rw [if_pos p.2.2.1, if_neg (by rw [km]; exact nz)]
      rcases lineX x c i with ⟨h', t', kd', st', en', D', e1, e2, y, l, K', M'⟩ | ⟨c, h', t', v, e1, e2, bd, K', M'⟩
      · obtain ⟨q, u, q1, q2, q3⟩ := linesX d F (F' + 1) (i + 1) h' t' kd' st' en' D' (by omega) (by omega) (by omega) (by omega) y (K.tr K') (M.tr M')
        refine ⟨q, u, ?_, ?_, q3⟩
        · rw [lp_s (b1.trans e1)]; exact q1
        · rw [lp_s (b2.trans (by rw [e2, bnd_s]))]; exact q2
      · have n26 : ¬ t' 0 26 = 0 := by rw [bd.2.1]; exact bd.1
        have b3 : fX11_parish_98 (t', v) = some (.inr t') := by
          unfold fX11_parish_98
          dsimp only
          rw [if_neg n26]
        refine ⟨.inl (h', c), t', lp_r (b1.trans e1), ?_, Or.inr ⟨c, h', rfl, bd, K.tr K', M.tr M'⟩⟩
        rw [lp_s (b2.trans (by rw [e2, bnd_s])), lp_r b3]
