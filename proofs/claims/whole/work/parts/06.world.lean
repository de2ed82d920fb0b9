/-! cells by numbers: what each holds is a row of ints; where it lies is a -/
abbrev ST : Type := Nat → Nat → Int32
/-- class ids, slots, array class ids, addresses of cells, of String constants, of their bytes -/
abbrev GE : Type := (Nat → ClassId) × (Nat → Nat → Nat) × (Nat → ClassId) × (Nat → Nat) × (Nat → Nat) × (Nat → Nat)
abbrev gC (g : GE) : Nat → ClassId := g.1
abbrev gI (g : GE) : Nat → Nat → Nat := g.2.1
abbrev gR (g : GE) : Nat → ClassId := g.2.2.1
abbrev gA (g : GE) : Nat → Nat := g.2.2.2.1
abbrev gK (g : GE) : Nat → Nat := g.2.2.2.2.1
abbrev gV (g : GE) : Nat → Nat := g.2.2.2.2.2
def upR (h : ST) (o : Nat) (f : Nat → Int32) : ST := fun i => if i = o then f else h i
def up2 (h : ST) (o k : Nat) (v : Int32) : ST := upR h o (upd (h o) k v)
theorem upR_s (h : ST) (o : Nat) (f : Nat → Int32) : upR h o f o = f := by simp [upR]
theorem upR_n {h : ST} {o i : Nat} {f : Nat → Int32} (n : i ≠ o) : upR h o f i = h i := by simp [upR, n]
theorem up2_s (h : ST) (o k : Nat) (v : Int32) : up2 h o k v o = upd (h o) k v := upR_s _ _ _
theorem up2_n {h : ST} {o i k : Nat} {v : Int32} (n : i ≠ o) : up2 h o k v i = h i := upR_n n
abbrev zT : Nat → Nat → Bool := fun _ _ => true
/-- what a slot holds: an int, a reference that changes, one that is made once -/
def fval (g : GE) (z : Bool) (t o : Nat) (v : Int32) : Value := match t with
  | 0 => .int v
  | 1 => if z then .ref (gA g v.toNatClampNeg) else .null
  | t + 2 => if z then .ref (gA g (if t < 1000 then o + t else t - 1000)) else .null
def aval (g : GE) (z : Bool) (kd o j : Nat) (v : Int32) : Value := match kd with
  | 20 => .int v
  | 21 => .int v
  | 22 => .long v.toInt64
  | 23 => if z then .ref (gA g (o + 1 + 4 * j)) else .null
  | _ => if z then .ref (gK g v.toNatClampNeg) else .null
def nF : Nat → Nat := fun c => match c with
  | 0 => 3
  | 1 => 20
  | 2 => 4
  | 3 => 8
  | 4 => 4
  | 5 => 8
  | 6 => 4
  | 7 => 6
  | 8 => 7
  | 9 => 15
  | _ => 63
def FTL : List (List Nat) := [
  [0, 0, 3],
  [0, 3, 4, 5, 6, 0, 7, 8, 0, 9, 10, 11, 12, 0, 13, 0, 0, 14, 18, 19],
  [3, 7, 169, 173],
  [3, 4, 1, 0, 0, 0, 0, 0],
  [3, 0, 4, 5],
  [3, 0, 0, 0, 0, 0, 1041, 1],
  [0, 3, 4, 5],
  [0, 0, 0, 3, 4, 5],
  [0, 0, 0, 0, 0, 0, 1003],
  [3, 0, 0, 1, 1, 40, 44, 216, 0, 388, 392, 393, 394, 395, 396],
  [3, 4, 0, 5, 6, 7, 8, 9, 10, 11, 12, 13, 14, 15, 16, 17, 18, 19, 20, 0, 0, 0, 0, 0, 0, 0, 0, 0, 0, 21, 22, 23, 24, 0, 0, 0, 0, 0, 25, 26, 27, 28, 29, 30, 31, 0, 32, 33, 34, 35, 36, 37, 38, 0, 0, 0, 0, 39, 40, 41, 42, 43, 44]]
def FT (c k : Nat) : Nat := (FTL.getD c []).getD k 0
def KLa : List (Nat × Nat) := [(9, 0), (21, 700), (1, 0), (20, 9), (20, 9), (20, 9), (20, 9), (20, 14), (20, 14), (20, 5), (20, 40), (20, 40), (20, 40), (20, 10), (4, 0), (20, 6), (20, 700), (20, 40), (20, 81), (20, 6), (1, 0), (20, 9), (20, 9), (20, 9), (20, 9), (20, 14), (20, 14), (20, 5), (20, 40), (20, 40), (20, 40), (20, 10), (4, 0), (20, 6), (20, 700), (20, 40), (20, 81), (20, 6), (3, 0), (8, 0), (5, 0), (20, 80), (2, 0), (7, 0), (20, 9), (20, 9), (20, 10), (0, 0), (23, 40)]
def KLs : List (Nat × Nat) := [(7, 0), (20, 9), (20, 9), (20, 10)]
def KLp : List (Nat × Nat) := [(6, 0), (20, 8), (20, 8), (20, 8), (20, 3), (2, 0), (7, 0), (20, 9), (20, 9), (20, 10), (0, 0), (23, 40)]
def KLe : List (Nat × Nat) := [(6, 0), (20, 8), (20, 8), (20, 8), (20, 3), (7, 0), (20, 9), (20, 9), (20, 10), (20, 5), (20, 5), (20, 9), (20, 4), (20, 4608)]
/-- the kinds of the cells of the class that is proved: 0 to 10 objects, 20 on arrays with their lengths -/
def KC (i : Nat) : Nat × Nat := if i < 49 then KLa.getD i (99, 0) else if i < 209 then KLs.getD ((i - 49) % 4) (99, 0) else if i < 221 then KLp.getD (i - 209) (99, 0) else if i < 381 then KLs.getD ((i - 221) % 4) (99, 0) else KLe.getD (i - 381) (99, 0)
def KMl : List (Nat × Nat) := [(10, 0), (24, 3), (24, 6), (20, 14), (20, 18), (20, 18), (20, 18), (20, 18), (20, 28), (20, 28), (20, 28), (20, 10), (20, 80), (20, 80), (20, 80), (20, 20), (20, 1400), (20, 3), (20, 700), (20, 9), (20, 9), (20, 10), (20, 1240), (20, 6), (20, 64), (20, 9), (20, 81), (20, 31), (20, 5), (20, 5), (20, 4608), (20, 4), (20, 9), (20, 8), (20, 8), (20, 8), (20, 31), (20, 31), (20, 1240), (20, 8), (20, 8), (20, 8), (20, 3)]
/-- .. and of the reference -/
def KM (i : Nat) : Nat × Nat := KMl.getD i (99, 0)
/-- links to private members of nest mates -/
def NW : List Cond := [(Jvm.Cond.methodLinkNest "DustParish" (22 : Nat) yX2_init "DustParish"), (Jvm.Cond.methodLinkNest "DustParish$Facts" (47 : Nat) yX5_init "DustParish"), (Jvm.Cond.methodLinkNest "DustParish" (41 : Nat) yX3_init "DustParish"), (Jvm.Cond.methodLinkNest "DustParish$Present" (9 : Nat) yX8_init "DustParish"), (Jvm.Cond.methodLinkNest "DustParish$Acts" (24 : Nat) yX8_init "DustParish"), (Jvm.Cond.methodLinkNest "DustParish$Present" (25 : Nat) yX7_init "DustParish"), (Jvm.Cond.methodLinkNest "DustParish" (55 : Nat) yX8_init "DustParish"), (Jvm.Cond.methodLinkNest "DustParish$Facts" (90 : Nat) yX10_shorter "DustParish")]
/-- String constants: class, entry, text, number -/
def SK : List (String × Nat × String × Nat) := [("DustParish$Tokens", 55, ";()+-*/<=", 0), ("DustParish$Reader", 80, "pew", 1), ("DustParish$Reader", 90, "chapel", 2), ("DustParish$Reader", 92, "attic", 3), ("DustParish$Reader", 94, "door", 4), ("DustParish$Reader", 99, "wind", 5), ("DustParish$Reader", 104, "blow", 6), ("DustParish$Reader", 109, "calendar", 7), ("DustParish$Reader", 114, "every", 8), ("DustParish$Reader", 119, "clean", 9), ("DustParish$Reader", 124, "tithe", 10), ("DustParish$RuleReader", 73, "not", 11), ("DustParish$RuleReader", 93, "dust", 12), ("DustParish$RuleReader", 95, "kind", 13), ("DustParish$RuleReader", 97, "owner", 14), ("DustParish$RuleReader", 99, "day", 15), ("DustParish$RuleReader", 101, "rich", 16), ("DustParish$RuleReader", 103, "brought", 17), ("DustParish$RuleReader", 123, "and", 18), ("DustParish$RuleReader", 125, "or", 19), ("DustParishModel", 11, "pew", 1), ("DustParishModel", 13, "chapel", 2), ("DustParishModel", 15, "attic", 3), ("DustParishModel", 21, "dust", 12), ("DustParishModel", 23, "kind", 13), ("DustParishModel", 25, "owner", 14), ("DustParishModel", 27, "day", 15), ("DustParishModel", 29, "rich", 16), ("DustParishModel", 31, "brought", 17), ("DustParishModel", 292, "calendar", 7), ("DustParishModel", 293, "every", 8), ("DustParishModel", 295, "clean", 9), ("DustParishModel", 297, "tithe", 10), ("DustParishModel", 264, "not", 11), ("DustParishModel", 272, "and", 18), ("DustParishModel", 277, "or", 19), ("DustParishModel", 305, "door", 4), ("DustParishModel", 310, "wind", 5), ("DustParishModel", 315, "blow", 6)]
def SN : Nat := 20
def SL : List Nat := [9, 3, 6, 5, 4, 4, 4, 8, 5, 5, 5, 3, 4, 4, 5, 3, 4, 7, 3, 2]
def SB : List (List Int32) := [[59, 40, 41, 43, 45, 42, 47, 60, 61], [112, 101, 119], [99, 104, 97, 112, 101, 108], [97, 116, 116, 105, 99], [100, 111, 111, 114], [119, 105, 110, 100], [98, 108, 111, 119], [99, 97, 108, 101, 110, 100, 97, 114], [101, 118, 101, 114, 121], [99, 108, 101, 97, 110], [116, 105, 116, 104, 101], [110, 111, 116], [100, 117, 115, 116], [107, 105, 110, 100], [111, 119, 110, 101, 114], [100, 97, 121], [114, 105, 99, 104], [98, 114, 111, 117, 103, 104, 116], [97, 110, 100], [111, 114]]
/-! ===== what holds at a method's start: tables, constants, the cells ===== -/
def CE (KD : Nat → Nat × Nat) (g : GE) (z : Nat → Nat → Bool) (h : ST) (i : Nat) (H : Heap) : Prop :=
  ((KD i).1 < 20 → t_OB (gA g i) (gC g (KD i).1) (nF (KD i).1) (gI g (KD i).1) H (fun k => fval g (z i k) (FT (KD i).1 k) i (h i k))) ∧
  (20 ≤ (KD i).1 → H[gA g i]? = some (arrV (gR g (KD i).1) (KD i).2 (fun j => aval g (z i j) (KD i).1 i j (h i j))))
def WO (KD : Nat → Nat × Nat) (n : Nat) (g : GE) (z : Nat → Nat → Bool) (h : ST) (H : Heap) : Prop :=
  (∀ i, i < n → CE KD g z h i H) ∧ ∀ i j, i < n → j < n → gA g i = gA g j → i = j
def tyA (k : Nat) : FieldType := match k with
  | 20 => .int
  | 21 => .byte
  | 22 => .long
  | 23 => .object "DustParish$State"
  | _ => .object "java/lang/String"
def xIA : String := "java/lang/IllegalArgumentException"
def xNS : String := "java/util/NoSuchElementException"
def CW : List Cond := [.castable xIA xIA, .castable xNS xNS, .declares ⟨"java/lang/RuntimeException", "<init>", "()V"⟩, .declares ⟨"java/lang/Exception", "<init>", "()V"⟩, .declares ⟨"java/lang/Throwable", "<init>", "()V"⟩]
theorem Nc_moved {C T : String} {u U : State} (hvm : u.vm.Alike U.vm) (h : va_Nc C T u) : va_Nc C T U := va_Nc.moved hvm h
def EV (g : GE) (s : State) : Prop :=
  (∀ (c : Nat) (q : vw_C), vwCl[c]? = some q → u_Kn s q.1 q.2.1 q.2.2 (gC g c) (gI g c)) ∧
  (∀ k, 20 ≤ k → k < 25 → ArrOfT s (gR g k) (tyA k) ∧ va_RA s (gR g k) (tyA k)) ∧
  (∀ w ∈ NW, va_Nw w s) ∧ (∀ q ∈ SK, vk_R q.1 q.2.1 q.2.2.1 (gK g q.2.2.2) s) ∧ (∀ w ∈ CW, va_Nw w s) ∧ va_Nc xIA xNS s
def EH (g : GE) (A : Nat → Prop) (s : State) (H : Heap) : Prop :=
  vk_S SN SL SB (gK g) (gV g) A s H ∧ va_Z "java/lang/String" "COMPACT_STRINGS" "Z" (.int 1) A s H ∧
  vx_Zq Bundle.tN "UNASSIGNED_STACK" Bundle.steD A s H ∧ vx_Zq Bundle.tN "SUPPRESSED_SENTINEL" Bundle.listD A s H ∧ va_Zq "jdk/internal/util/Preconditions" "SIOOBE_FORMATTER" "Ljava/util/function/BiFunction;" A s H
theorem EH.moved {g : GE} {A : Nat → Prop} {u U : State} {H : Heap} (hvm : u.vm.Alike U.vm) (h : EH g A u H) : EH g A U H := ⟨vk_S.moved hvm h.1, va_Z.moved hvm h.2.1, vx_Zq.moved hvm h.2.2.1, vx_Zq.moved hvm h.2.2.2.1, va_Zq.moved hvm h.2.2.2.2⟩
theorem EH.kept {g : GE} {A : Nat → Prop} {U : State} {H H1 : Heap} (h : EH g A U H) (hq : ∀ a : Nat, a < H.size → ¬ A a → H1[a]? = H[a]?) : EH g A U H1 := ⟨vk_S.kept h.1 hq, va_Z.kept h.2.1 hq, vx_Zq.kept h.2.2.1 hq, vx_Zq.kept h.2.2.2.1 hq, va_Zq.kept h.2.2.2.2 hq⟩
theorem EH.narrow {g : GE} {A B : Nat → Prop} {U : State} {H : Heap} (h : EH g A U H) (hAB : ∀ q, B q → A q) : EH g B U H := ⟨vk_S.narrow h.1 hAB, va_Z.narrow h.2.1 hAB, vx_Zq.narrow h.2.2.1 hAB, vx_Zq.narrow h.2.2.2.1 hAB, va_Zq.narrow h.2.2.2.2 hAB⟩
theorem EV.warm {g : GE} {s U : State} (hW : s.WarmedH U.vm) (h : EV g s) : EV g U :=
  ⟨fun c q hq => u_Kn_moved hW.alike (h.1 c q hq), fun k h1 h2 => ⟨arrOfT_moved hW.alike (h.2.1 k h1 h2).1, (h.2.1 k h1 h2).2.moved hW.alike⟩,
   fun w hw => by
     have h9 := h.2.2.1 w hw
     simp only [NW, List.mem_cons, List.not_mem_nil, or_false] at hw
     rcases hw with rfl | rfl | rfl | rfl | rfl | rfl | rfl | rfl <;> exact va_Nw.warmM hW h9,
   fun q hq => vk_R.warm hW (h.2.2.2.1 q hq), fun w hw => by
     have h9 := h.2.2.2.2.1 w hw
     simp only [CW, List.mem_cons, List.not_mem_nil, or_false] at hw
     rcases hw with rfl | rfl | rfl | rfl | rfl <;> first | exact va_Nw.warmC hW h9 | exact va_Nw.warmD hW h9, Nc_moved hW.alike h.2.2.2.2.2⟩
theorem EV.same {g : GE} {s U : State} (hv : U.vm = s.vm) (h : EV g s) : EV g U :=
  ⟨fun c q hq => u_Kn_moved (by rw [hv]; exact Vm.Alike.refl _) (h.1 c q hq), fun k h1 h2 => ⟨arrOfT_moved (by rw [hv]; exact Vm.Alike.refl _) (h.2.1 k h1 h2).1, (h.2.1 k h1 h2).2.moved (by rw [hv]; exact Vm.Alike.refl _)⟩,
   fun w hw => by
     have h9 := h.2.2.1 w hw
     simp only [NW, List.mem_cons, List.not_mem_nil, or_false] at hw
     rcases hw with rfl | rfl | rfl | rfl | rfl | rfl | rfl | rfl <;> exact va_Nw.same rfl hv.symm h9,
   fun q hq => vk_R.same hv (h.2.2.2.1 q hq), fun w hw => by
     have h9 := h.2.2.2.2.1 w hw
     simp only [CW, List.mem_cons, List.not_mem_nil, or_false] at hw
     rcases hw with rfl | rfl | rfl | rfl | rfl <;> exact va_Nw.same rfl hv.symm h9, Nc_moved (by rw [hv]; exact Vm.Alike.refl _) h.2.2.2.2.2⟩
def AW (n : Nat) (g : GE) (sz : Nat) : Nat → Prop := fun q => (∃ i, i < n ∧ q = gA g i) ∨ sz ≤ q
def BB (n : Nat) (g : GE) (B : Nat) (s : State) : Prop := (∀ i, i < n → B ≤ gA g i) ∧ B ≤ s.heap.size
def SV (n : Nat) (g : GE) (B : Nat) (H0 H : Heap) (locs : List Loc) : Prop := H0.size ≤ H.size ∧ (∀ q : Nat, q < H0.size → (∀ i, i < n → q ≠ gA g i) → H[q]? = H0[q]?) ∧ ∀ l ∈ locs, ∃ i, i < n ∧ l.base = gA g i
def WA (n : Nat) (g : GE) : Nat → Prop := fun q => ∃ i, i < n ∧ q = gA g i
def FR (n : Nat) (g : GE) (st t : State) : Prop := st.heap.size ≤ t.heap.size ∧ ∀ q : Nat, q < st.heap.size → (∀ i, i < n → q ≠ gA g i) → t.heap[q]? = st.heap[q]?
theorem SV.rf {n : Nat} {g : GE} {B : Nat} {H : Heap} : SV n g B H H [] := ⟨Nat.le_refl _, fun _ _ _ => rfl, fun _ h => by cases h⟩
theorem SV.S {n : Nat} {g : GE} {B : Nat} {H0 H : Heap} {locs : List Loc} (h : SV n g B H0 H locs) : va_S (AW n g H0.size) H0 H locs :=
  ⟨h.1, fun q h1 h2 => h.2.1 q h1 (fun i hi e => h2 (Or.inl ⟨i, hi, e⟩)), fun q hq => Or.inl (h.2.2 q hq)⟩
theorem SV.put {n : Nat} {g : GE} {B : Nat} {H0 H H1 : Heap} {locs : List Loc} {o k : Nat} (h : SV n g B H0 H locs) (ho : o < n) (z : H1.size = H.size) (oq : ∀ q : Nat, q ≠ gA g o → H1[q]? = H[q]?) : SV n g B H0 H1 (locs ++ [⟨gA g o, k⟩]) := by
  refine ⟨by rw [z]; exact h.1, fun q h1 h2 => ?_, fun q hq => ?_⟩
  · rw [oq q (h2 o ho)]
    exact h.2.1 q h1 h2
  · rcases List.mem_append.mp hq with h1 | h1
    · exact h.2.2 q h1
    · rw [List.mem_singleton.mp h1]
      exact ⟨o, ho, rfl⟩
theorem CE.kept {KD : Nat → Nat × Nat} {g : GE} {z : Nat → Nat → Bool} {h h1 : ST} {i : Nat} {H H1 : Heap} (w : CE KD g z h i H) (hq : H1[gA g i]? = H[gA g i]?) (he : h1 i = h i) : CE KD g z h1 i H1 :=
  ⟨fun k => by rw [he]; exact (w.1 k).kept hq, fun k => by rw [he, hq]; exact w.2 k⟩
theorem WO.put {KD : Nat → Nat × Nat} {n : Nat} {g : GE} {z : Nat → Nat → Bool} {h h1 : ST} {H H1 : Heap} {o : Nat} (w : WO KD n g z h H) (ho : o < n) (hn : ∀ i, i ≠ o → h1 i = h i) (oq : ∀ q : Nat, q ≠ gA g o → H1[q]? = H[q]?) (ce : CE KD g z h1 o H1) : WO KD n g z h1 H1 := by
  refine ⟨fun i hi => ?_, w.2⟩
  by_cases e : i = o
  · subst e; exact ce
  · exact (w.1 i hi).kept (oq _ (fun q => e (w.2 i o hi ho q))) (hn i e)
theorem WO.kept {KD : Nat → Nat × Nat} {n : Nat} {g : GE} {z : Nat → Nat → Bool} {h : ST} {H H1 : Heap} (w : WO KD n g z h H) (hq : ∀ i, i < n → H1[gA g i]? = H[gA g i]?) : WO KD n g z h H1 := ⟨fun i hi => (w.1 i hi).kept (hq i hi) rfl, w.2⟩
def Fx (p : Program) (s : State) (m : MethodId) (args : Array Value) (meth : Method) (c : Code) (cc : ByteArray) (nL : Nat) (own : String) (n : Nat) (g : GE) (B : Nat) : Prop :=
  p.tables.exec = Jvm.exec ∧ c.code = cc ∧ c.maxLocals = nL ∧ s.vm.findClass own = some m.cls ∧ (∀ w ∈ TBG, w.before args s = true) ∧ EV g s ∧ EH g (AW n g s.heap.size) s s.heap ∧ BB n g B s ∧ meth.locks = false
def RM (d k : Nat) : Room := { frames := d, cells := k, slots := 6 * k, locals := 200 * d }
/-- the machine, now at pc with these locals and this stack, the cells holding h, comes to a state with Q -/
def V (p : Program) (l : Launch) (e : Env) (D1 K1 : Nat) (s : State) (m : MethodId) (args : Array Value) (below : List Frame) (meth : Method) (c : Code) (Q : State → Prop) (KD : Nat → Nat × Nat) (n : Nat) (g : GE) (B nL k : Nat) (h : ST) (pc : Nat) (lv : List (Nat × Value)) (st : List Value) : Prop :=
  ∀ (ls : Array Slot) (H : Heap) (locs : List Loc), lv_has ls nL lv → WO KD n g zT h H → SV n g B s.heap H locs → W p l e (RM D1 K1) s m args below meth c H locs k (6 * k) Q (F0 m pc ls st)
/-! ===== calls: what the tables say ===== -/
/-- a field by its link: its class's number, its own -/
def FLK (own : String) (idx ci k : Nat) : Prop := ∃ q : vw_C, vwCl[ci]? = some q ∧ k < q.2.2 ∧ nF ci = q.2.2 ∧ ci < 20 ∧ Cond.fieldLink own idx (q.2.1 k).1 (q.2.1 k).2.1 (q.2.1 k).2.2.1 ∈ TBG ∧ (∀ w ∈ u_ws q.1 q.2.1 q.2.2, w ∈ TBG)
/-- .. that may be written -/
def PLK (ci k : Nat) (ty : FieldType) : Prop := ∃ (q : vw_C) (tf : Nat → FieldType), vwCl[ci]? = some q ∧ (q.2.1 k).2.2.2 = false ∧ tf k = ty ∧ (∀ j, j < q.2.2 → parseFieldDescriptor (q.2.1 j).2.2.1 = some (tf j)) ∧ (∀ a, a < q.2.2 → ∀ b, b < q.2.2 → a ≠ b → (q.2.1 a).2.1 ≠ (q.2.1 b).2.1)
def CLK (own : String) (idx : Nat) (y : MethodName) (bytes : ByteArray) (maxL : Nat) (ret : Option FieldType) (n : Nat) : Prop :=
  Cond.methodLink own idx y ∈ TBG ∧ Cond.initialized y.cls ∈ TBG ∧ Cond.code y bytes maxL ret ∈ TBG ∧ maxL ≤ 45 ∧ y.cls ≠ "java/lang/invoke/MethodHandle" ∧ y.cls ≠ "java/lang/invoke/VarHandle" ∧ (parseMethodDescriptor y.desc).map (fun d => d.parameters.length) = some n
def CLV (own : String) (idx : Nat) (y : MethodName) (bytes : ByteArray) (maxL : Nat) (ret : Option FieldType) (n : Nat) : Prop :=
  CLK own idx y bytes maxL ret n ∧ Cond.instanceMethod y ∈ TBG ∧ Cond.selects y.cls y y ∈ TBG
def CLS (own : String) (idx : Nat) (y : MethodName) (bytes : ByteArray) (maxL : Nat) (ret : Option FieldType) (n : Nat) : Prop :=
  CLK own idx y bytes maxL ret n ∧ Cond.static y ∈ TBG
theorem TBG_good {w : Cond} (h : w ∈ TBG) : (w.onTables && w.keeps) = true ∨ ∃ ty, w = .arrayClass ty := good_of_word (List.mem_filter.mp h).2
/-! ===== contracts ===== -/
def PC (KD : Nat → Nat × Nat) (n : Nat) (g : GE) (B : Nat) (av : List Value) (h : ST) : Array Value → State → Prop := fun v U => v = av.toArray ∧ WO KD n g zT h U.heap ∧ EV g U ∧ EH g (AW n g U.heap.size) U U.heap ∧ BB n g B U
def QO (KD : Nat → Nat × Nat) (n : Nat) (g : GE) (ov : Option Value) (h : ST) : Array Value → State → Outcome → State → Prop := fun _ st o t => o = .returned ov ∧ WO KD n g zT h t.heap ∧ FR n g st t
/-- the method y, called with av over the cells h, answers ov, and leaves h' -/
def CT (l : Launch) (y : MethodName) (bytes : ByteArray) (maxL : Nat) (ret : Option FieldType) (d : Nat) (KD : Nat → Nat × Nat) (n : Nat) (g : GE) (B : Nat) (av : List Value) (h : ST) (ov : Option Value) (h' : ST) : Prop :=
  Met l y (Cond.code y bytes maxL ret :: TBG) (RM d 0) (PC KD n g B av h) (QO KD n g ov h') 0 0 (WA n g)
theorem PC.blind {KD : Nat → Nat × Nat} {n : Nat} {g : GE} {B : Nat} {av : List Value} {h : ST} : FrameBlind (PC KD n g B av h) := by
  intro a U gg mk q
  obtain ⟨q1, q2, q3, q4, q5⟩ := q
  exact ⟨q1, q2, EV.same (s := U) (U := U.calling gg mk a) rfl q3, EH.moved (u := U) (U := U.calling gg mk a) (Vm.Alike.refl U.vm) q4, q5⟩
section VR
variable {p : Program} {l : Launch} {e : Env} {D1 K1 : Nat} {s : State} {m : MethodId} {args : Array Value} {below : List Frame} {meth : Method} {c : Code} {Q : State → Prop} {KD : Nat → Nat × Nat} {n : Nat} {g : GE} {B nL k : Nat} {h : ST} {pc : Nat} {lv : List (Nat × Value)} {st : List Value} {cc : ByteArray} {own : String}
/-- what a callee finds -/
theorem Fx.pre (F : Fx p s m args meth c cc nL own n g B) {H : Heap} {locs : List Loc} (hw : WO KD n g zT h H) (hs : SV n g B s.heap H locs) (av : List Value) : ∀ U : State, U.heap = H → s.WarmedH U.vm → PC KD n g B av h av.toArray U := by
  intro U hU hW
  refine ⟨rfl, by rw [hU]; exact hw, EV.warm hW F.2.2.2.2.2.1, ?_, F.2.2.2.2.2.2.2.1.1, by rw [hU]; exact Nat.le_trans F.2.2.2.2.2.2.2.1.2 hs.1⟩
  rw [hU]
  refine EH.moved hW.alike ((F.2.2.2.2.2.2.1.kept (fun a h1 h2 => hs.2.1 a h1 (fun i hi e => h2 (Or.inl ⟨i, hi, e⟩)))).narrow ?_)
  rintro q (h1 | h1)
  · exact Or.inl h1
  · exact Or.inr (Nat.le_trans hs.1 h1)
theorem Fx.w (F : Fx p s m args meth c cc nL own n g B) {w : Cond} (h : w ∈ TBG) : w.before args s = true := F.2.2.2.2.1 w h
theorem Fx.b (F : Fx p s m args meth c cc nL own n g B) {o : Nat} (h : o < n) : B ≤ gA g o := F.2.2.2.2.2.2.2.1.1 o h
theorem goodT {w : Cond} (h : w ∈ TBG) : GoodIn TBG (w :: TBG) := by
  intro v hv
  rcases List.mem_cons.mp hv with rfl | hv
  · exact ⟨h, TBG_good h⟩
  · exact ⟨hv, TBG_good hv⟩
/-- a call that has run, seen by V -/
theorem v_after {ov : Option Value} {h' : ST} {av : Array Value} {H : Heap} {locs : List Loc} {ls : Array Slot} {st0 : List Value}
    (hr : va_Run p l e (RM D1 K1) s m args below meth c H locs k (6 * k) 0 0 (F0 m pc ls st0) st (QO KD n g ov h' av) (WA n g)) (hl : lv_has ls nL lv) (hs : SV n g B s.heap H locs)
    (kk : V p l e D1 K1 s m args below meth c Q KD n g B nL k h' (pc + 3) lv (ov.toList ++ st)) : W p l e (RM D1 K1) s m args below meth c H locs k (6 * k) Q (F0 m pc ls st0) := by
  intro T hT X
  obtain ⟨v, st₀, t, T', L, h0, X', hL, e1, e2, ⟨ho, hw, hz, hk⟩, stp⟩ := hr T hT X
  cases ho
  rw [h0] at hz hk
  obtain ⟨t2, a1, b1⟩ := kk ls T'.heap (locs ++ L) hl (by rw [e1]; exact hw) ⟨Nat.le_trans hs.1 (by rw [e1]; exact hz), fun q h1 h2 => by rw [e1, hk q (Nat.lt_of_lt_of_le h1 hs.1) h2]; exact hs.2.1 q h1 h2, fun q hq => by
      rcases List.mem_append.mp hq with h9 | h9
      · exact hs.2.2 q h9
      · exact hL q h9⟩ T' rfl X'
  exact ⟨t2, stp t2 a1, b1⟩
theorem CLK.callB (F : Fx p s m args meth c cc nL own n g B) {idx : Nat} {y : MethodName} {bytes : ByteArray} {maxL : Nat} {ret : Option FieldType} {na d : Nat} (cl : CLK own idx y bytes maxL ret na) (hd : d + 1 ≤ D1) :
    CallB (RM D1 K1) s args own idx y bytes maxL ret (Cond.code y bytes maxL ret :: TBG) (RM d 0) 0 0 na := by
  obtain ⟨c1, c2, c3, c4, c5, c6, c7⟩ := cl
  exact callB_of na F.2.2.2.2.1 (goodT c3) rfl rfl rfl (F.w c2) (F.w c1) ⟨c5, c6, c7⟩ ⟨hd, by show 8 + (maxL + 11) + 200 * d ≤ 200 * D1; omega⟩
/-- an instance method of the same cells -/
theorem v_callV (F : Fx p s m args meth c cc nL own n g B) {idx o ci : Nat} {y : MethodName} {bytes : ByteArray} {maxL : Nat} {ret : Option FieldType} {na d : Nat} {As st0 : List Value} {ov : Option Value} {h' : ST}
    (cl : CLV own idx y bytes maxL ret na) (hdg : decode cc pc = .ok (.invokevirtual idx, 3)) (hM : CT l y bytes maxL ret d KD n g B (.ref (gA g o) :: As) h ov h') (ho : o < n) (hk : (KD o).1 = ci) (hc : (vwCl[ci]?).map (fun q => q.1) = some y.cls) (hci : ci < 20) (hn : As.length = na) (hst : st0 = As.reverse ++ .ref (gA g o) :: st) (hW : (st.map fun v => v.category).sum ≤ 8) (hd : d + 1 ≤ D1) (hkk : k ≤ K1)
    (kk : V p l e D1 K1 s m args below meth c Q KD n g B nL k h' (pc + 3) lv (ov.toList ++ st)) : V p l e D1 K1 s m args below meth c Q KD n g B nL k h pc lv st0 := by
  intro ls H locs hl hw hs
  have hcell : ∃ cellB : Cell, H[gA g o]? = some cellB ∧ cellB.vm.isStatics = false ∧ s.vm.findClass y.cls = some cellB.cls := by
    obtain ⟨cell, h1, h2, h3, -⟩ := (hw.1 o ho).1 (by rw [hk]; exact hci)
    cases hq : vwCl[ci]? with
    | none => rw [hq] at hc; cases hc
    | some q =>
      rw [hq] at hc
      have h9 : q.1 = y.cls := Option.some.inj hc
      refine ⟨cell, h1, by rw [h3]; rfl, ?_⟩
      rw [h2, hk, ← h9]
      exact (F.2.2.2.2.2.1.1 ci q hq).2.1
  exact v_after (va_runV (As := As) (rest := st) (C := y.cls) ⟨F.1, F.2.1, F.2.2.1, F.2.2.2.1, F.2.2.2.2.1⟩ hM ⟨cl.1.callB F hd, F.w cl.2.1, F.w cl.2.2⟩ ⟨PC.blind, hcell, F.pre hw hs _⟩ rfl hn hl.1 hst (by show 2 * 0 + _ ≤ 8; omega) hdg ⟨hkk, by show 6 * k + 0 ≤ 6 * K1; omega⟩) hl hs kk
/-- a static method over the same cells -/
theorem v_callS (F : Fx p s m args meth c cc nL own n g B) {idx : Nat} {y : MethodName} {bytes : ByteArray} {maxL : Nat} {ret : Option FieldType} {na d : Nat} {As st0 : List Value} {ov : Option Value} {h' : ST}
    (cl : CLS own idx y bytes maxL ret na) (hdg : decode cc pc = .ok (.invokestatic idx, 3)) (hM : CT l y bytes maxL ret d KD n g B As h ov h') (hn : As.length = na) (hst : st0 = As.reverse ++ st) (hW : (st.map fun v => v.category).sum ≤ 8) (hd : d + 1 ≤ D1) (hkk : k ≤ K1)
    (kk : V p l e D1 K1 s m args below meth c Q KD n g B nL k h' (pc + 3) lv (ov.toList ++ st)) : V p l e D1 K1 s m args below meth c Q KD n g B nL k h pc lv st0 := by
  intro ls H locs hl hw hs
  exact v_after (va_runS (As := As) (rest := st) ⟨F.1, F.2.1, F.2.2.1, F.2.2.2.1, F.2.2.2.2.1⟩ hM ⟨cl.1.callB F hd, F.w cl.2⟩ ⟨PC.blind, F.pre hw hs _⟩ rfl hn hl.1 hst (by show 2 * 0 + _ ≤ 8; omega) hdg ⟨hkk, by show 6 * k + 0 ≤ 6 * K1; omega⟩) hl hs kk
theorem v_callVi (F : Fx p s m args meth c cc nL own n g B) {idx o ci : Nat} {y : MethodName} {bytes : ByteArray} {maxL : Nat} {ret : Option FieldType} {na d : Nat} {As : List Value} {r : Int32} {h' : ST} {st0 : List Value} (cl : CLV own idx y bytes maxL ret na) (hdg : decode cc pc = .ok (.invokevirtual idx, 3)) (hM : CT l y bytes maxL ret d KD n g B (.ref (gA g o) :: As) h (some (.int r)) h') (ho : o < n) (hk : KD o = (ci, 0)) (hc : (vwCl[ci]?).map (fun q => q.1) = some y.cls ∧ ci < 20) (hn : As.length = na) (hst : st0 = As.reverse ++ .ref (gA g o) :: st) (hW : (st.map fun v => v.category).sum ≤ 8) (hd : d + 1 ≤ D1) (hkk : k ≤ K1)
    (kk : V p l e D1 K1 s m args below meth c Q KD n g B nL k h' (pc + 3) lv (.int r :: st)) : V p l e D1 K1 s m args below meth c Q KD n g B nL k h pc lv st0 := v_callV F cl hdg hM ho (congrArg Prod.fst hk) hc.1 hc.2 hn hst hW hd hkk kk
theorem v_callVv (F : Fx p s m args meth c cc nL own n g B) {idx o ci : Nat} {y : MethodName} {bytes : ByteArray} {maxL : Nat} {ret : Option FieldType} {na d : Nat} {As : List Value} {h' : ST} {st0 : List Value} (cl : CLV own idx y bytes maxL ret na) (hdg : decode cc pc = .ok (.invokevirtual idx, 3)) (hM : CT l y bytes maxL ret d KD n g B (.ref (gA g o) :: As) h none h') (ho : o < n) (hk : KD o = (ci, 0)) (hc : (vwCl[ci]?).map (fun q => q.1) = some y.cls ∧ ci < 20) (hn : As.length = na) (hst : st0 = As.reverse ++ .ref (gA g o) :: st) (hW : (st.map fun v => v.category).sum ≤ 8) (hd : d + 1 ≤ D1) (hkk : k ≤ K1)
    (kk : V p l e D1 K1 s m args below meth c Q KD n g B nL k h' (pc + 3) lv st) : V p l e D1 K1 s m args below meth c Q KD n g B nL k h pc lv st0 := v_callV F cl hdg hM ho (congrArg Prod.fst hk) hc.1 hc.2 hn hst hW hd hkk kk
theorem v_callSi (F : Fx p s m args meth c cc nL own n g B) {idx : Nat} {y : MethodName} {bytes : ByteArray} {maxL : Nat} {ret : Option FieldType} {na d : Nat} {As st0 : List Value} {r : Int32} {h' : ST} (cl : CLS own idx y bytes maxL ret na) (hdg : decode cc pc = .ok (.invokestatic idx, 3)) (hM : CT l y bytes maxL ret d KD n g B As h (some (.int r)) h') (hn : As.length = na) (hst : st0 = As.reverse ++ st) (hW : (st.map fun v => v.category).sum ≤ 8) (hd : d + 1 ≤ D1) (hkk : k ≤ K1)
    (kk : V p l e D1 K1 s m args below meth c Q KD n g B nL k h' (pc + 3) lv (.int r :: st)) : V p l e D1 K1 s m args below meth c Q KD n g B nL k h pc lv st0 := v_callS F cl hdg hM hn hst hW hd hkk kk
theorem v_callSv (F : Fx p s m args meth c cc nL own n g B) {idx : Nat} {y : MethodName} {bytes : ByteArray} {maxL : Nat} {ret : Option FieldType} {na d : Nat} {As st0 : List Value} {h' : ST} (cl : CLS own idx y bytes maxL ret na) (hdg : decode cc pc = .ok (.invokestatic idx, 3)) (hM : CT l y bytes maxL ret d KD n g B As h none h') (hn : As.length = na) (hst : st0 = As.reverse ++ st) (hW : (st.map fun v => v.category).sum ≤ 8) (hd : d + 1 ≤ D1) (hkk : k ≤ K1)
    (kk : V p l e D1 K1 s m args below meth c Q KD n g B nL k h' (pc + 3) lv st) : V p l e D1 K1 s m args below meth c Q KD n g B nL k h pc lv st0 := v_callS F cl hdg hM hn hst hW hd hkk kk
/-! ===== ends ===== -/
theorem V.fr {H : Heap} {locs : List Loc} (hs : SV n g B s.heap H locs) {t : State} (ht : t.heap = H) : FR n g s t := ⟨by rw [ht]; exact hs.1, fun q h1 h2 => by rw [ht]; exact hs.2.1 q h1 h2⟩
theorem v_iret (F : Fx p s m args meth c cc nL own n g B) {x r : Int32} {h' : ST} (hr : meth.sig.returnType = some .int) (hdg : decode cc pc = .ok (.ireturn, 1)) (he : x = r) (hh : h = h') (hkk : k ≤ K1) :
    V p l e D1 K1 s m args below meth c (MQ below (QO KD n g (some (.int r)) h') args s K1 (6 * K1) (WA n g)) KD n g B nL k h pc lv [.int x] := by
  subst he; subst hh
  intro ls H locs hl hw hs
  refine W.widen (k := K1) (n := 6 * K1) hkk (by omega) (W.iret F.1 F.2.1 hr (fun t ht _ => ⟨rfl, by rw [ht]; exact hw, V.fr hs ht⟩) hs.2.2 hdg (hlocks := F.2.2.2.2.2.2.2.2))
theorem v_zret (F : Fx p s m args meth c cc nL own n g B) {x r : Int32} {h' : ST} (hr : meth.sig.returnType = some .boolean) (hdg : decode cc pc = .ok (.ireturn, 1)) (hn : narrow .boolean (.int x) = .int x) (he : x = r) (hh : h = h') (hkk : k ≤ K1) :
    V p l e D1 K1 s m args below meth c (MQ below (QO KD n g (some (.int r)) h') args s K1 (6 * K1) (WA n g)) KD n g B nL k h pc lv [.int x] := by
  subst he; subst hh
  intro ls H locs hl hw hs
  refine W.widen (k := K1) (n := 6 * K1) hkk (by omega) (W.zret F.1 F.2.1 hr hn (fun t ht _ => ⟨rfl, by rw [ht]; exact hw, V.fr hs ht⟩) hs.2.2 hdg (hlocks := F.2.2.2.2.2.2.2.2))
theorem v_tret (F : Fx p s m args meth c cc nL own n g B) {ty : FieldType} {x r : Int32} {h' : ST} (hr : meth.sig.returnType = some ty) (hdg : decode cc pc = .ok (.ireturn, 1)) (hn : narrow ty (.int x) = .int x) (he : x = r) (hh : h = h') (hkk : k ≤ K1) :
    V p l e D1 K1 s m args below meth c (MQ below (QO KD n g (some (.int r)) h') args s K1 (6 * K1) (WA n g)) KD n g B nL k h pc lv [.int x] := by
  subst he; subst hh
  intro ls H locs hl hw hs
  refine W.widen (k := K1) (n := 6 * K1) hkk (by omega) (W.zret F.1 F.2.1 hr hn (fun t ht _ => ⟨rfl, by rw [ht]; exact hw, V.fr hs ht⟩) hs.2.2 hdg (hlocks := F.2.2.2.2.2.2.2.2))
theorem v_vret (F : Fx p s m args meth c cc nL own n g B) {h' : ST} (hr : meth.sig.returnType = none) (hdg : decode cc pc = .ok (.return_, 1)) (hh : h = h') (hkk : k ≤ K1) :
    V p l e D1 K1 s m args below meth c (MQ below (QO KD n g none h') args s K1 (6 * K1) (WA n g)) KD n g B nL k h pc lv [] := by
  subst hh
  intro ls H locs hl hw hs
  refine W.widen (k := K1) (n := 6 * K1) hkk (by omega) (W.vret F.1 F.2.1 hr (fun t ht _ => ⟨rfl, by rw [ht]; exact hw, V.fr hs ht⟩) hs.2.2 hdg (hlocks := F.2.2.2.2.2.2.2.2))
/-! ===== a contract out of its walk ===== -/
theorem CT.of {y : MethodName} {maxL : Nat} {ret : Option FieldType} {d : Nat} {av : List Value} {ov : Option Value} {h' : ST} (hy : plainName y.cls = true) (hm : (lg_sl av).length ≤ maxL)
    (body : ∀ (p : Program) (e : Env) (s : State) (m : MethodId) (below : List Frame) (meth : Method) (c : Code), meth.sig.returnType = ret → Fx p s m av.toArray meth c cc maxL y.cls n g B →
      V p l e d 0 s m av.toArray below meth c (MQ below (QO KD n g ov h') av.toArray s 0 (6 * 0) (WA n g)) KD n g B maxL 0 h 0 (lv_args 0 av) []) : CT l y cc maxL ret d KD n g B av h ov h' := by
  refine Met.ofW (cc := cc) (maxL := maxL) (ret := ret) hy rfl ?_
  intro p e s m args below meth c s₁ BL hml hv
  obtain ⟨rfl, hw, hE, hH, hB⟩ := hv
  have hts := atoms_spec (ws := Cond.code y cc maxL ret :: TBG) BL.pre
  have F : Fx p s m av.toArray meth c cc maxL y.cls n g B := ⟨BL.exec, BL.bytes, hml, findClass_of_methodNamed BL.named, fun w hw => hts w (List.mem_cons_of_mem _ hw), hE, hH, hB, BL.notSynchronized⟩
  have hl := lv_entry av (n := maxL) hm
  rw [lg_entry_eq]
  exact body p e s m below meth c BL.returns F _ _ _ hl hw SV.rf
/-! ===== locals ===== -/
def lset (lv : List (Nat × Value)) (i : Nat) (v : Value) : List (Nat × Value) := lv.filter (fun q => Nat.blt q.1 i && !(q.1 + 1 == i && q.2.category == 2)) ++ (i, v) :: lv.filter (fun q => Nat.blt i q.1)
theorem lset_has {ls : Array Slot} {i : Nat} {v : Value} (h : lv_has ls nL ((i, v) :: lv.filter (fun q => !(q.1 == i) && !(q.1 + 1 == i && q.2.category == 2)))) : lv_has ls nL (lset lv i v) := by
  refine ⟨h.1, h.2.1, fun q hq => ?_⟩
  have hb : ∀ a b : Nat, Nat.blt a b = true → a < b := fun a b h => Nat.le_of_ble_eq_true h
  simp only [lset, List.mem_append, List.mem_cons, List.mem_filter, Bool.and_eq_true] at hq
  rcases hq with ⟨h1, h2, h3⟩ | rfl | ⟨h1, h2⟩
  · refine h.2.2 q (List.mem_cons_of_mem _ (List.mem_filter.mpr ⟨h1, ?_⟩))
    have h4 := hb _ _ h2
    have h5 : (q.1 == i) = false := by simp; omega
    rw [h5]
    simpa using h3
  · exact h.2.2 _ List.mem_cons_self
  · refine h.2.2 q (List.mem_cons_of_mem _ (List.mem_filter.mpr ⟨h1, ?_⟩))
    have h4 := hb _ _ h2
    have h5 : (q.1 == i) = false := by simp; omega
    have h6 : (q.1 + 1 == i) = false := by simp; omega
    simp [h5, h6]
/-- fewer locals -/
theorem V.sub {lv' : List (Nat × Value)} (ks : List Nat) (hk : lv_pick lv ks = lv') (kk : V p l e D1 K1 s m args below meth c Q KD n g B nL k h pc lv' st) : V p l e D1 K1 s m args below meth c Q KD n g B nL k h pc lv st := fun ls H locs h1 h2 h3 => kk ls H locs (lv_sub h1 ks hk) h2 h3
theorem V_lv {lv' : List (Nat × Value)} (hk : lv = lv') (kk : V p l e D1 K1 s m args below meth c Q KD n g B nL k h pc lv' st) : V p l e D1 K1 s m args below meth c Q KD n g B nL k h pc lv st := hk ▸ kk
end VR
