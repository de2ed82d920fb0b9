/-! ===== parish: a rule, read by both: what is to be shown ===== -/
def rs (row : Nat → Int32) (vals : Nat → Int32) : Nat → Nat → List Int32 → Option (List Int32)
  | 0, _, st => some st
  | k + 1, i, st => bnd (stepR vals (row (700 + i)) st) fun st' => rs row vals k (i + 1) st'
def Seg (row : Nat → Int32) (a b D : Nat) : Prop := ∀ vals stk, stk.length + D ≤ 40 → ∃ v, rs row vals (b - a) a stk = some (v :: stk)
theorem rs_add {row : Nat → Int32} {vals : Nat → Int32} : ∀ {a b i : Nat} {st : List Int32}, rs row vals (a + b) i st = bnd (rs row vals a i st) fun st' => rs row vals b (i + a) st'
  | 0, b, i, st => by rw [Nat.zero_add]; rfl
  | a + 1, b, i, st => by
    rw [show a + 1 + b = (a + b) + 1 by omega]
    show bnd (stepR vals (row (700 + i)) st) (fun st' => rs row vals (a + b) (i + 1) st') = bnd (bnd (stepR vals (row (700 + i)) st) fun st' => rs row vals a (i + 1) st') _
    cases stepR vals (row (700 + i)) st with
    | none => rfl
    | some u =>
      show rs row vals (a + b) (i + 1) u = bnd (rs row vals a (i + 1) u) _
      rw [rs_add, show i + 1 + a = i + (a + 1) by omega]
theorem rs_cong {row row' : Nat → Int32} {vals : Nat → Int32} : ∀ {k i : Nat} {st : List Int32}, (∀ j, i ≤ j → j < i + k → row' (700 + j) = row (700 + j)) → rs row' vals k i st = rs row vals k i st
  | 0, _, _, _ => rfl
  | k + 1, i, st, h => by
    show bnd (stepR vals (row' (700 + i)) st) (fun st' => rs row' vals k (i + 1) st') = bnd (stepR vals (row (700 + i)) st) (fun st' => rs row vals k (i + 1) st')
    rw [h i (Nat.le_refl _) (by omega)]
    congr 1
    funext u
    exact rs_cong (fun j a b => h j (by omega) (by omega))
theorem Seg.cong {row row' : Nat → Int32} {a b D : Nat} (s : Seg row a b D) (h : ∀ j, a ≤ j → j < b → row' (700 + j) = row (700 + j)) : Seg row' a b D := fun vals stk hk => by
  obtain ⟨v, e⟩ := s vals stk hk
  refine ⟨v, ?_⟩
  rw [rs_cong (row := row) (fun j x y => h j x (by omega))]
  exact e
theorem Seg.mono {row : Nat → Int32} {a b D E : Nat} (s : Seg row a b D) (h : D ≤ E) : Seg row a b E := fun vals stk hk => s vals stk (by omega)
/-- two values and a sign -/
theorem Seg.two {row : Nat → Int32} {a b c D E : Nat} (s1 : Seg row a b D) (s2 : Seg row b c E) (hab : a ≤ b) (hbc : b ≤ c) {x : Int32} (hx : row (700 + c) = x) (h20 : x ≤ -20) (h28 : ¬ x = -28) : Seg row a (c + 1) (max D (E + 1)) := fun vals stk hk => by
  obtain ⟨v, e1⟩ := s1 vals stk (by omega)
  obtain ⟨w, e2⟩ := s2 vals (v :: stk) (by simp only [List.length_cons]; omega)
  refine ⟨rk x v w, ?_⟩
  rw [show c + 1 - a = (b - a) + ((c - b) + 1) by omega, rs_add, e1, bnd_s, show a + (b - a) = b by omega, rs_add, e2, bnd_s, show b + (c - b) = c by omega]
  show bnd (stepR vals (row (700 + c)) (w :: v :: stk)) (fun st' => rs row vals 0 (c + 1) st') = _
  rw [hx]
  unfold stepR
  rw [if_pos h20, if_neg h28]
  rfl
theorem Seg.one {row : Nat → Int32} {a b D : Nat} (s : Seg row a b D) (hab : a ≤ b) (hx : row (700 + b) = -28) : Seg row a (b + 1) D := fun vals stk hk => by
  obtain ⟨v, e1⟩ := s vals stk hk
  refine ⟨(if v = 0 then 1 else 0), ?_⟩
  rw [show b + 1 - a = (b - a) + 1 by omega, rs_add, e1, bnd_s, show a + (b - a) = b by omega]
  show bnd (stepR vals (row (700 + b)) (v :: stk)) (fun st' => rs row vals 0 (b + 1) st') = _
  rw [hx]
  unfold stepR
  rw [if_pos (show (-28 : Int32) ≤ -20 by decide), if_pos rfl]
  rfl
theorem Seg.leaf {row : Nat → Int32} {a : Nat} {x : Int32} (hx : row (700 + a) = x) (h : ¬ x ≤ -20) (h2 : ¬ x < 0 ∨ -6 ≤ x) : Seg row a (a + 1) 1 := fun vals stk hk => by
  rw [show a + 1 - a = 0 + 1 by omega]
  show ∃ v, bnd (stepR vals (row (700 + a)) stk) (fun st' => rs row vals 0 (a + 1) st') = _
  rw [hx]
  unfold stepR
  rw [if_neg h, if_pos (show stk.length < 40 by omega)]
  by_cases c : x < 0
  · rw [if_pos c, if_pos (h2.resolve_left (fun z => z c))]
    exact ⟨_, rfl⟩
  · rw [if_neg c]
    exact ⟨_, rfl⟩
def CodeR (g : Nat) (h t : ST) (T : List Int32) (nc : Nat) : Prop := h (g + 12) 1 = nI nc ∧ t 3 13 = nI (nc + T.length) ∧ (∀ i, i < nc → h (g + 14) i = cmap (t 16 (700 + i))) ∧ ∀ j, j < T.length → T.getD j 0 = cmap (t 16 (700 + (nc + j)))
def EFr (g : Nat) (h t h' t' : ST) (n0 : Nat) : Prop := MG t t' ∧ (∀ i, i < n0 → t' 16 (700 + i) = t 16 (700 + i)) ∧ (∀ i, i ≠ 39 → i ≠ 40 → i ≠ 41 → i ≠ g + 12 → i ≠ g + 14 → h' i = h i) ∧ Fs (g + 12) [1] h h' ∧ (∀ i, i ≠ 0 → i ≠ 3 → i ≠ 16 → t' i = t i) ∧ Fs 3 [13] t t'
theorem EFr.rf {g : Nat} {h t : ST} {n : Nat} : EFr g h t h t n := ⟨MG.rf, fun _ _ => rfl, fun _ _ _ _ _ _ => rfl, Fs.rf, fun _ _ _ _ => rfl, Fs.rf⟩
theorem EFr.tr {g : Nat} {h t h1 t1 h2 t2 : ST} {n m : Nat} (a : EFr g h t h1 t1 n) (b : EFr g h1 t1 h2 t2 m) (hnm : n ≤ m) : EFr g h t h2 t2 n :=
  ⟨a.1.tr b.1, fun i hi => (b.2.1 i (by omega)).trans (a.2.1 i hi), fun i x1 x2 x3 x4 x5 => (b.2.2.1 i x1 x2 x3 x4 x5).trans (a.2.2.1 i x1 x2 x3 x4 x5), a.2.2.2.1.tr b.2.2.2.1, fun i x y z => (b.2.2.2.2.1 i x y z).trans (a.2.2.2.2.1 i x y z), a.2.2.2.2.2.tr b.2.2.2.2.2⟩
theorem EFr.kg {g : Nat} {h t h' t' : ST} {n : Nat} (a : EFr g h t h' t' n) : KG g h h' := fun i x y => a.2.2.1 i (by omega) (by omega) (by omega) (by omega) (by omega)
theorem EFr.cs {g : Nat} {h t h' t' : ST} {n : Nat} (a : EFr g h t h' t' n) (c : CS t) : CS t' := by
  unfold CS
  rw [a.2.2.2.2.1 1 (by decide) (by decide) (by decide), a.2.2.2.2.1 2 (by decide) (by decide) (by decide)]
  exact c
theorem EFr.st {g : Nat} {h t h' t' : ST} {n : Nat} (hg : g = 2 ∨ g = 20) (a : Fr [39] h h') (b : Fr [0] t t') (c : Fs 0 TKs t t') : EFr g h t h' t' n :=
  ⟨MG.of b c TKs_in, fun i _ => by rw [b 16 (by decide)], fun i x _ _ _ _ => a i (by simp only [List.mem_cons, List.not_mem_nil, or_false]; omega), Fs.of a (by simp only [List.mem_cons, List.not_mem_nil, or_false]; omega), fun i x _ _ => b i (by simp only [List.mem_cons, List.not_mem_nil, or_false]; omega), Fs.of b (by decide)⟩
/-- before a part -/
def XI (g : Nat) (B : Nat → Nat) (L : Nat) (h t : ST) (kd st en : Nat) (S : List Int32) (d nc l : Nat) : Prop := PR g B L h t kd st en ∧ WTs g h S ∧ CodeR g h t [] nc ∧ h 40 2 = nI d ∧ h 40 4 = 1 ∧ nc ≤ st ∧ l ≤ st ∧ CS t
/-- behind one -/
def OKX (g : Nat) (B : Nat → Nat) (L : Nat) (h t : ST) (st : Nat) (S : List Int32) (d nc l k D tb : Nat) (NX : Nat → Nat → Nat → List Int32 → Prop) (Y : Option ST) : Prop :=
  ∃ h' t' kd' st' en' T nc' m, Y = some t' ∧ stp fX6_read_21 m (h, nI l) (h', nI (l + m)) ∧ PR g B L h' t' kd' st' en' ∧ WTs g h' (T ++ S) ∧ CodeR g h' t' T nc' ∧ (h' 40 2 = nI d ∧ h' 40 4 = 0) ∧ (l + m ≤ st' ∧ nc' + T.length + st ≤ nc + st' ∧ nc < nc' + T.length ∧ st < st' ∧ T.length ≤ tb) ∧ (∀ x, x ∈ T → k ≤ sg x) ∧ Seg (t' 16) nc (nc' + T.length) D ∧ EFr g h t h' t' nc ∧ NX kd' st' en' T
def BDX (g : Nat) (h t : ST) (l : Nat) (Y : Option ST) : Prop :=
  ∃ h2 m c h' t', Y = some t' ∧ stp fX6_read_21 m (h, nI l) (h2, nI (l + m)) ∧ l + m ≤ 700 ∧ fX6_read_21 (h2, nI (l + m)) = some (.inr (.inr (.inl (h', c)))) ∧ BD h' t' c ∧ KG g h h' ∧ MG t t'
theorem BDX.pre {g : Nat} {h t h1 t1 : ST} {l m : Nat} {Y : Option ST} (b : BDX g h1 t1 (l + m) Y) (s : stp fX6_read_21 m (h, nI l) (h1, nI (l + m))) (k : KG g h h1) (mm : MG t t1) : BDX g h t l Y := by
  obtain ⟨h2, m2, c, h', t', e1, e2, e3, e4, e5, e6, e7⟩ := b
  refine ⟨h2, m + m2, c, h', t', e1, ?_, by omega, ?_, e5, k.tr e6, mm.tr e7⟩
  · rw [← Nat.add_assoc]; exact stp_tr s e2
  · rw [← Nat.add_assoc]; exact e4
/-- the next token goes no sum, no product, no test but a second one, and nothing more on -/
def nxP (B : Nat → Nat) (kd st : Nat) : Prop := sq B kd st 42 = false ∧ sq B kd st 47 = false
def nxS (B : Nat → Nat) (kd st : Nat) : Prop := nxP B kd st ∧ sq B kd st 43 = false ∧ sq B kd st 45 = false
def W4 (T : List Int32) : Prop := ∃ P x Q, T = P ++ x :: Q ∧ (∀ y, y ∈ P → 5 ≤ sg y) ∧ sg x = 4
def nxN (B : Nat → Nat) (kd st : Nat) (T : List Int32) : Prop := nxS B kd st ∧ (sq B kd st 60 = true ∨ sq B kd st 61 = true → W4 T)
def nxA (B : Nat → Nat) (kd st en : Nat) (T : List Int32) : Prop := nxN B kd st T ∧ (decide (kd = 1) && wq B 18 st en) = false
def nxO (B : Nat → Nat) (kd st en : Nat) (T : List Int32) : Prop := nxA B kd st en T ∧ (decide (kd = 1) && wq B 19 st en) = false
def ExprC (R : ST → Int32 → Option ST) (g : Nat) (B : Nat → Nat) (L d : Nat) : Prop := ∀ h t kd st en S nc l, XI g B L h t kd st en S d nc l → h 40 5 = 1 → h 40 3 = 0 → S.length ≤ 12 * d → (∀ x u, S = x :: u → sg x < 1) →
  OKX g B L h t st S d nc l 1 (31 - 5 * d) 11 (fun kd' st' en' T => nxO B kd' st' en' T ∧ d ≤ 5) (R t (nI d)) ∨ BDX g h t l (R t (nI d))
theorem layM {t : ST} {n : Nat} (h26 : t 0 26 = 0) (e : t 3 13 = nI n) (hn : n < 700) (v : Int32) : fX11_lay t v = some (up2 (up2 t 16 (700 + n) v) 3 13 (nI (n + 1))) := by
  have r13 : ∀ (x : ST), rd 14 (x 3) 13 = some (x 3 13) := fun x => rd_k (n := 14) (k := 13) (by decide)
  have w13 : ∀ (x : ST) v, wr 14 x 3 13 v = some (up2 x 3 13 v) := fun x v => wr_k (n := 14) (k := 13) (by decide)
  have k : up2 t 16 (700 + n) v 3 13 = nI n := by rw [up2_n (by decide)]; exact e
  unfold fX11_lay
  rw [if_pos h26, r13, bnd_s, e, show (700 : Int32) + nI n = nI (700 + n) from nI_add 700 n, wr_k (n := 1400) (show 700 + n < 1400 by omega), bnd_s, r13, bnd_s, k, w13, bnd_s, nI_1]
theorem layW {t : ST} (h26 : ¬ t 0 26 = 0) (v : Int32) : fX11_lay t v = some t := by
  unfold fX11_lay
  rw [if_neg h26]
theorem markW {t : ST} (h26 : ¬ t 0 26 = 0) (v : Int32) : fX11_mark t v = some t := by
  unfold fX11_mark fX11_mark_20 fX11_mark_31
  rw [if_neg h26, if_neg h26]
theorem markY {g : Nat} {B : Nat → Nat} {L : Nat} {h t t1 : ST} {kd st en v : Nat} (p : PR g B L h t kd st en) (hv : v < 128) (c : sq B kd st v = true) (s : fX11_stepOn t = some t1) : fX11_mark t (nI v) = some t1 := by
  unfold fX11_mark fX11_mark_20 fX11_mark_31
  rw [if_pos p.2.2.1, signM p.1 p.2.1 p.2.2.1 hv, c, bnd_s, if_neg (show ¬ bz true = 0 by decide), if_pos p.2.2.1, s, bnd_s]
theorem markN {g : Nat} {B : Nat → Nat} {L : Nat} {h t : ST} {kd st en v : Nat} (p : PR g B L h t kd st en) (hv : v < 128) (c : sq B kd st v = false) : ∃ t', fX11_mark t (nI v) = some t' ∧ BD h t' 1 ∧ Fr [0] t t' ∧ Fs 0 [26, 27] t t' := by
  obtain ⟨t', t1, t2, t3, t4⟩ := wrongM p (c := 1) (by decide)
  have n26 : ¬ t' 0 26 = 0 := by rw [t2.2.1]; exact t2.1
  refine ⟨t', ?_, t2, t3, t4⟩
  unfold fX11_mark fX11_mark_20 fX11_mark_31
  rw [if_pos p.2.2.1, signM p.1 p.2.1 p.2.2.1 hv, c, bnd_s, if_pos (show bz false = 0 from rfl), t1, bnd_s, if_neg n26]
