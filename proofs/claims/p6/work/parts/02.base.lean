/-! The world of roles: every cell that the law's two constructors make has a number (its role), in the order of their making.
Shape g: how many, how many slots, kind (below 100: a class of vwCl; from 100 on: a row), length, references. Data d: ints, floats, longs, Words. -/
abbrev Bs : Type := Nat × (Nat → Nat)
def ad (B : Bs) (r : Nat) : Nat := if r < 100000 then B.1 + r else B.2 (r - 100000)
abbrev Gs : Type := Nat × Nat × (Nat → Nat) × (Nat → Nat) × (Nat → Nat → Option Nat)
abbrev Ds : Type := (Nat → Nat → Int32) × (Nat → Nat → UInt32) × (Nat → Nat → Int64) × (Nat → Nat → Option Nat)
def gN (g : Gs) : Nat := g.1
def gS (g : Gs) : Nat := g.2.1
def gK (g : Gs) : Nat → Nat := g.2.2.1
def gL (g : Gs) : Nat → Nat := g.2.2.2.1
def gR (g : Gs) : Nat → Nat → Option Nat := g.2.2.2.2
def dI (d : Ds) : Nat → Nat → Int32 := d.1
def dF (d : Ds) : Nat → Nat → UInt32 := d.2.1
def dL (d : Ds) : Nat → Nat → Int64 := d.2.2.1
def dW (d : Ds) : Nat → Nat → Option Nat := d.2.2.2
def sI (d : Ds) (r j : Nat) (v : Int32) : Ds := (va_up d.1 r (va_up (d.1 r) j v), d.2)
def sF (d : Ds) (r j : Nat) (v : UInt32) : Ds := (d.1, va_up d.2.1 r (va_up (d.2.1 r) j v), d.2.2)
def sL (d : Ds) (r j : Nat) (v : Int64) : Ds := (d.1, d.2.1, va_up d.2.2.1 r (va_up (d.2.2.1 r) j v), d.2.2.2)
def sW (d : Ds) (r j : Nat) (v : Option Nat) : Ds := (d.1, d.2.1, d.2.2.1, va_up d.2.2.2 r (va_up (d.2.2.2 r) j v))
def cI (d : Ds) (a b sp dp n : Nat) : Ds := (va_up d.1 b (va_cpy (d.1 a) (d.1 b) sp dp n), d.2)
def cF (d : Ds) (a b sp dp n : Nat) : Ds := (d.1, va_up d.2.1 b (va_cpy (d.2.1 a) (d.2.1 b) sp dp n), d.2.2)
def sR (g : Gs) (r j : Nat) (v : Nat) : Gs := (g.1, g.2.1, g.2.2.1, g.2.2.2.1, va_up g.2.2.2.2 r (va_up (g.2.2.2.2 r) j (some v)))
/-- a new cell: kind, length, slots -/
def nG (g : Gs) (k ln sl : Nat) : Gs := (g.1 + 1, g.2.1 + sl, va_up g.2.2.1 g.1 k, va_up g.2.2.2.1 g.1 ln, va_up g.2.2.2.2 g.1 (fun _ => none))
def nD (g : Gs) (d : Ds) : Ds := (va_up d.1 g.1 (fun _ => 0), va_up d.2.1 g.1 (fun _ => 0), va_up d.2.2.1 g.1 (fun _ => 0), va_up d.2.2.2 g.1 (fun _ => none))
def tyk (t : Nat) : FieldType := match t with
  | 0 => .byte
  | 1 => .float
  | 2 => .int
  | 3 => .long
  | 4 => .boolean
  | 5 => .object "KeyMatrix$Deed"
  | 6 => .object "KeyMatrix$Course"
  | _ => .object "KeyMatrix$Word"
def tys8 (cy : Nat → ClassId) : List (ClassId × FieldType) := [(cy 0, tyk 0), (cy 1, tyk 1), (cy 2, tyk 2), (cy 3, tyk 3), (cy 4, tyk 4), (cy 5, tyk 5), (cy 6, tyk 6), (cy 7, tyk 7)]
def fN (c : Nat) : Nat := match vwCl[c]? with
  | some q => q.2.2
  | none => 0
/-- is the field a reference? by its descriptor -/
def fR (c j : Nat) : Bool := match vwCl[c]? with
  | some q => !((q.2.1 j).2.2.1 == "I" || (q.2.1 j).2.2.1 == "Z")
  | none => false
def rv (B : Bs) (x : Option Nat) : Value := va_rf (x.map (ad B))
def fv (B : Bs) (g : Gs) (d : Ds) (r c j : Nat) : Value := if fR c j then rv B (gR g r j) else .int (dI d r j)
def ar (B : Bs) (g : Gs) (d : Ds) (r t : Nat) : vp_A := (gL g r, match t with
  | 1 => .inr (.inr (.inl (dF d r)))
  | 3 => .inr (.inl (dL d r))
  | 5 => .inr (.inr (.inr (.inr (fun i => (gR g r i).map (ad B)))))
  | 6 => .inr (.inr (.inr (.inr (fun i => (gR g r i).map (ad B)))))
  | 7 => .inr (.inr (.inr (.inr (fun i => (dW d r i).map (ad B)))))
  | _ => .inl (dI d r))
def fls (B : Bs) (g : Gs) (d : Ds) (r c : Nat) : List Value := (List.range (fN c)).map (fun j => fv B g d r c j)
def cel (B : Bs) (cy : Nat → ClassId) (g : Gs) (d : Ds) (r : Nat) : va_E := if gK g r < 100 then .inr (gK g r, fls B g d r (gK g r)) else .inl (cy (gK g r - 100), ar B g d r (gK g r - 100))
def wls (B : Bs) (cy : Nat → ClassId) (g : Gs) (d : Ds) : va_W := (List.range (gN g)).map (fun r => (ad B r, cel B cy g d r))
def WP (D : va_G) (cy : Nat → ClassId) (B : Bs) (g : Gs) (d : Ds) (H : Heap) : Prop := gN g ≤ 100000 ∧ va_P D vwCl (wls B cy g d) H
def wA (B : Bs) : Nat → Prop := fun q => B.1 ≤ q
abbrev chk (g : Gs) (r k : Nat) : Prop := r < gN g ∧ gK g r = k
/-- the constants of Word: their names in their order -/
def wnm (i : Nat) : String := (["BOARD", "DIODES", "SIX", "BOUNCE", "TERM", "CHORDING", "TWICE", "REPEAT", "KEY", "CHORD", "MACRO", "CODE", "MOD", "LAYER", "TOGGLE", "NOTHING", "BELOW", "HOLD", "DOUBLE", "PLAY"] : List String).getD i ""
/-- the fields of a Word that are numbers: their names, types and values -/
def wfn (j : Nat) : String := (["least", "most", "deed", "startsLine"] : List String).getD j ""
def wfd (j : Nat) : String := (["I", "I", "I", "Z"] : List String).getD j ""
def wfv (j i : Nat) : Int32 := (([([1, 0, 0, 1, 1, 1, 1, 1, 0, 0, 1, 1, 0, 1, 1, 0, 0, 1, 1, 0] : List Int32), ([4, 0, 0, 9, 99, 20, 40, 99, 3, 23, 200, 200, 7, 3, 3, 0, 0, 200, 200, 3] : List Int32), ([(-1), (-1), (-1), (-1), (-1), (-1), (-1), (-1), (-1), (-1), (-1), 0, 1, 2, 3, 4, 5, 6, 8, 9] : List Int32), ([0, 1, 1, 1, 1, 1, 1, 1, 1, 1, 1, 0, 0, 0, 0, 0, 0, 0, 0, 0] : List Int32)] : List (List Int32)).getD j []).getD i 0
/-- the texts of the constants of Word: how long, their bytes -/
def wsl (i : Nat) : Nat := (([5, 6, 3, 6, 4, 8, 5, 6, 3, 5, 5, 4, 3, 5, 6, 7, 5, 4, 6, 4] : List Nat)).getD i 0
def wsb (i j : Nat) : Int32 := ((([[98, 111, 97, 114, 100], [100, 105, 111, 100, 101, 115], [115, 105, 120], [98, 111, 117, 110, 99, 101], [116, 101, 114, 109], [99, 104, 111, 114, 100, 105, 110, 103], [116, 119, 105, 99, 101], [114, 101, 112, 101, 97, 116], [107, 101, 121], [99, 104, 111, 114, 100], [109, 97, 99, 114, 111], [99, 111, 100, 101], [109, 111, 100], [108, 97, 121, 101, 114], [116, 111, 103, 103, 108, 101], [110, 111, 116, 104, 105, 110, 103], [98, 101, 108, 111, 119], [104, 111, 108, 100], [100, 111, 117, 98, 108, 101], [112, 108, 97, 121]] : List (List Int32))).getD i []).getD j 0
/-- what stands of the texts: WORDS, the switches of String, each Word's text and its bytes -/
def SxT (B : Bs) (U : State) : Prop := va_Z "KeyMatrix$Tokens" "WORDS" "[LKeyMatrix$Word;" (.ref (ad B 100020)) (wA B) U U.heap ∧ va_T (.object "KeyMatrix$Word") (ad B 100020) 20 (fun j => .ref (ad B (100000 + j))) (wA B) U U.heap ∧ va_Z "java/lang/String" "COMPACT_STRINGS" "Z" (.int 1) (wA B) U U.heap ∧ (∃ v : Option Nat, va_Z "jdk/internal/util/Preconditions" "SIOOBE_FORMATTER" "Ljava/util/function/BiFunction;" (rv B v) (wA B) U U.heap) ∧ ∀ i, i < 20 → va_O "KeyMatrix$Word" (ad B (100000 + i)) (wA B) U U.heap ∧ va_OF "KeyMatrix$Word" "text" "Ljava/lang/String;" (.ref (ad B (100021 + i))) (ad B (100000 + i)) (wA B) U U.heap ∧ va_O "java/lang/String" (ad B (100021 + i)) (wA B) U U.heap ∧ va_OF "java/lang/String" "coder" "B" (.int 0) (ad B (100021 + i)) (wA B) U U.heap ∧ va_OF "java/lang/String" "value" "[B" (.ref (ad B (100041 + i))) (ad B (100021 + i)) (wA B) U U.heap ∧ va_T .byte (ad B (100041 + i)) (wsl i) (fun j => .int (wsb i j)) (wA B) U U.heap
def Sx (B : Bs) (U : State) : Prop := (∀ i, i < 20 → va_Z "KeyMatrix$Word" (wnm i) "LKeyMatrix$Word;" (.ref (ad B (100000 + i))) (wA B) U U.heap ∧ ∀ j, j < 4 → va_OF "KeyMatrix$Word" (wfn j) (wfd j) (.int (wfv j i)) (ad B (100000 + i)) (wA B) U U.heap) ∧ (∀ i j, i < 20 → j < 20 → ad B (100000 + i) = ad B (100000 + j) → i = j) ∧ va_AO "KeyMatrix$Deed" U ∧ va_AO "KeyMatrix$Course" U ∧ va_AO "KeyMatrix$Word" U ∧ SxT B U
theorem vp_in_dec (i : Int32) (n : Nat) (h : ¬ (i < 0 ∨ n ≤ i.toNatClampNeg)) : vp_in i n := h
/-! the words: those of the tables that a method's start may name; the nest's links beside them -/
def wl : List Cond := lw_tbl.filter goodWord
theorem wl_good {w : Cond} (h : w ∈ wl) : goodWord w = true := (List.mem_filter.mp h).2
theorem wl_in {w : Cond} (h : w ∈ wl) : w ∈ lw_tbl := (List.mem_filter.mp h).1
theorem mW {w : Cond} (h : w ∈ lw_tbl) (hg : goodWord w = true) : w ∈ wl := List.mem_filter.mpr ⟨h, hg⟩
theorem mT0 {w : Cond} (h : w ∈ k2_sels lw_privs) : w ∈ lw_tbl := List.mem_append_left _ h
theorem mT1 {w : Cond} (h : w ∈ tables_1_1) : w ∈ lw_tbl := List.mem_append_right _ (List.mem_append_left _ h)
theorem mT2 {w : Cond} (h : w ∈ tables_1_2) : w ∈ lw_tbl := List.mem_append_right _ (List.mem_append_right _ (List.mem_append_left _ h))
theorem mT3 {w : Cond} (h : w ∈ tables_1_3) : w ∈ lw_tbl := List.mem_append_right _ (List.mem_append_right _ (List.mem_append_right _ (List.mem_append_left _ h)))
theorem mT4 {w : Cond} (h : w ∈ tables_1_4) : w ∈ lw_tbl := List.mem_append_right _ (List.mem_append_right _ (List.mem_append_right _ (List.mem_append_right _ (List.mem_append_left _ h))))
theorem mT5 {w : Cond} (h : w ∈ tables_1_5) : w ∈ lw_tbl := List.mem_append_right _ (List.mem_append_right _ (List.mem_append_right _ (List.mem_append_right _ (List.mem_append_right _ (List.mem_append_left _ h)))))
theorem mT6 {w : Cond} (h : w ∈ tables_1_6) : w ∈ lw_tbl := List.mem_append_right _ (List.mem_append_right _ (List.mem_append_right _ (List.mem_append_right _ (List.mem_append_right _ (List.mem_append_right _ (List.mem_append_left _ h))))))
theorem mT7 {w : Cond} (h : w ∈ tables_1_7) : w ∈ lw_tbl := List.mem_append_right _ (List.mem_append_right _ (List.mem_append_right _ (List.mem_append_right _ (List.mem_append_right _ (List.mem_append_right _ (List.mem_append_right _ h))))))
def isN : Cond → Bool
  | .fieldLinkNest _ _ _ _ _ _ => true
  | .methodLinkNest _ _ _ _ => true
  | _ => false
def NzS (U : State) : Prop := ∀ w : Cond, w ∈ lw_tbl → isN w = true → va_Nw w U
theorem NzS.warm {s U : State} (hW : s.WarmedH U.vm) (h : NzS s) : NzS U := by
  intro w h1 h2
  have h3 := h w h1 h2
  cases w <;> first | exact va_Nw.warmF hW h3 | exact va_Nw.warmM hW h3 | cases h2
theorem NzS.same {s U : State} (hv : s.vm = U.vm) (h : NzS s) : NzS U := by
  intro w h1 h2
  have h3 := h w h1 h2
  cases w <;> first | exact va_Nw.same rfl hv h3 | cases h2
theorem sub_of {big : List Cond} (ws : List Cond) (ps : List Nat) (hp : ws = ps.filterMap (fun i => big[i]?)) : ∀ w ∈ ws, w ∈ big := by
  intro w hw
  rw [hp] at hw
  obtain ⟨i, -, hi⟩ := List.mem_filterMap.mp hw
  exact List.mem_of_getElem? hi
/-! the combinators of the pure functions -/
def gd {β : Type} (c : Prop) [Decidable c] (x : Option β) : Option β := if c then x else none
def bd {α β : Type} (a : α) (f : α → Option β) : Option β := f a
def ob {α β : Type} (x : Option α) (f : α → Option β) : Option β := match x with
  | some a => f a
  | none => none
def cb {α β : Type} (x : Option (α × Ds)) (f : α → Ds → Option β) : Option β := match x with
  | some a => f a.1 a.2
  | none => none
def cv {β : Type} (x : Option (Unit × Ds)) (f : Ds → Option β) : Option β := match x with
  | some a => f a.2
  | none => none
theorem cb_s {α β : Type} {x : Option (α × Ds)} {f : α → Ds → Option β} {y : β} (h : cb x f = some y) : ∃ (a : α) (b : Ds), x = some (a, b) ∧ f a b = some y := by
  cases x with
  | none => cases h
  | some a => exact ⟨a.1, a.2, rfl, h⟩
theorem cv_s {β : Type} {x : Option (Unit × Ds)} {f : Ds → Option β} {y : β} (h : cv x f = some y) : ∃ (b : Ds), x = some ((), b) ∧ f b = some y := by
  cases x with
  | none => cases h
  | some a => exact ⟨a.2, rfl, h⟩
theorem cb_t {α β : Type} (a : α) (b : Ds) (f : α → Ds → Option β) : cb (some (a, b)) f = f a b := rfl
theorem cv_t {β : Type} (a : Unit) (b : Ds) (f : Ds → Option β) : cv (some (a, b)) f = f b := rfl
theorem gd_s {β : Type} {c : Prop} [Decidable c] {x : Option β} {y : β} (h : gd c x = some y) : c ∧ x = some y := by
  unfold gd at h
  split at h
  · exact ⟨‹c›, h⟩
  · cases h
theorem bd_s {α β : Type} {a : α} {f : α → Option β} {y : β} (h : bd a f = some y) : ∃ z, z = a ∧ f z = some y := ⟨a, rfl, h⟩
theorem ob_s {α β : Type} {x : Option α} {f : α → Option β} {y : β} (h : ob x f = some y) : ∃ a, x = some a ∧ f a = some y := by
  cases x with
  | none => cases h
  | some a => exact ⟨a, rfl, h⟩
theorem it_s {β : Type} {c : Prop} [Decidable c] {x z : Option β} {y : β} (hc : c) (h : (if c then x else z) = some y) : x = some y := by rwa [if_pos hc] at h
theorem if_s {β : Type} {c : Prop} [Decidable c] {x z : Option β} {y : β} (hc : ¬ c) (h : (if c then x else z) = some y) : z = some y := by rwa [if_neg hc] at h
theorem gd_t {β : Type} {c : Prop} [Decidable c] {x : Option β} (h : c) : gd c x = x := if_pos h
theorem bd_t {α β : Type} (a : α) (f : α → Option β) : bd a f = f a := rfl
theorem ob_t {α β : Type} (a : α) (f : α → Option β) : ob (some a) f = f a := rfl
/-! the world's rows -/
theorem ad_lt {B : Bs} {r : Nat} (h : r < 100000) : ad B r = B.1 + r := if_pos h
theorem wls_at {B : Bs} {cy : Nat → ClassId} {g : Gs} {d : Ds} {r : Nat} (h : r < gN g) : (wls B cy g d)[r]? = some (ad B r, cel B cy g d r) := by
  simp [wls, h]
theorem wls_in {B : Bs} {cy : Nat → ClassId} {g : Gs} {d : Ds} {k : Nat} {q : Nat × va_E} (h : (wls B cy g d)[k]? = some q) : k < gN g ∧ q = (ad B k, cel B cy g d k) := by
  have hl : k < gN g := by
    have := (List.getElem?_eq_some_iff.mp h).1
    simpa [wls] using this
  rw [wls_at hl] at h
  exact ⟨hl, (Option.some.inj h).symm⟩
theorem wls_D {B : Bs} {cy : Nat → ClassId} {g : Gs} {d : Ds} (h : gN g ≤ 100000) : va_D (wA B) (wls B cy g d) := by
  refine ⟨fun i j p q hi hj hpq => ?_, fun k q hk => ?_⟩
  · obtain ⟨h1, rfl⟩ := wls_in hi
    obtain ⟨h2, rfl⟩ := wls_in hj
    simp only [ad_lt (Nat.lt_of_lt_of_le h1 h), ad_lt (Nat.lt_of_lt_of_le h2 h)] at hpq
    omega
  · obtain ⟨h1, rfl⟩ := wls_in hk
    simp only [ad_lt (Nat.lt_of_lt_of_le h1 h)]
    exact Nat.le_add_right _ _
theorem wls_set {B : Bs} {cy : Nat → ClassId} {g g1 : Gs} {d d1 : Ds} {r : Nat} {e : va_E} (hr : r < gN g) (hg : gN g1 = gN g) (ho : ∀ x, x < gN g → x ≠ r → cel B cy g d x = cel B cy g1 d1 x) (he : cel B cy g1 d1 r = e) : (wls B cy g d).set r (ad B r, e) = wls B cy g1 d1 := by
  apply List.ext_getElem?
  intro k
  by_cases hk : k < gN g
  · rw [wls_at (g := g1) (by omega)]
    by_cases hkr : k = r
    · subst hkr
      rw [List.getElem?_set_self (by simpa [wls] using hk), he]
    · rw [List.getElem?_set_ne (Ne.symm hkr), wls_at hk, ho k hk hkr]
  · rw [List.getElem?_eq_none (by simp [wls]; omega), List.getElem?_eq_none (by simp [wls]; omega)]
theorem cel_o {B : Bs} {cy : Nat → ClassId} {g : Gs} {d : Ds} {r c : Nat} (h : gK g r = c) (hc : c < 100) : cel B cy g d r = .inr (c, fls B g d r c) := by
  subst h
  exact if_pos hc
theorem cel_a {B : Bs} {cy : Nat → ClassId} {g : Gs} {d : Ds} {r t : Nat} (h : gK g r = 100 + t) : cel B cy g d r = .inl (cy t, ar B g d r t) := by
  have h2 : ¬ gK g r < 100 := by omega
  have h3 : gK g r - 100 = t := by omega
  unfold cel
  rw [if_neg h2, h3]
theorem fls_at {B : Bs} {g : Gs} {d : Ds} {r c j : Nat} (h : j < fN c) : (fls B g d r c)[j]? = some (fv B g d r c j) := by simp [fls, h]
theorem fls_set {B : Bs} {g g1 : Gs} {d d1 : Ds} {r c j : Nat} {v : Value} (hj : j < fN c) (ho : ∀ x, x ≠ j → fv B g d r c x = fv B g1 d1 r c x) (he : fv B g1 d1 r c j = v) : (fls B g d r c).set j v = fls B g1 d1 r c := by
  apply List.ext_getElem?
  intro k
  by_cases hk : k < fN c
  · rw [fls_at hk]
    by_cases hkr : k = j
    · subst hkr
      rw [List.getElem?_set_self (by simpa [fls] using hk), he]
    · rw [List.getElem?_set_ne (Ne.symm hkr), fls_at hk, ho k hkr]
  · rw [List.getElem?_eq_none (by simp [fls]; omega), List.getElem?_eq_none (by simp [fls]; omega)]
theorem sI_o {B : Bs} {cy : Nat → ClassId} {g : Gs} {d : Ds} {r j x : Nat} {v : Int32} (h : x ≠ r) : cel B cy g d x = cel B cy g (sI d r j v) x := by
  have h1 : dI (sI d r j v) x = dI d x := by simp [dI, sI, va_up, h]
  have h2 : ∀ t, ar B g (sI d r j v) x t = ar B g d x t := by
    intro t
    unfold ar
    rw [h1]
    rfl
  have h3 : ∀ c, fls B g (sI d r j v) x c = fls B g d x c := by
    intro c
    unfold fls fv
    rw [h1]
  unfold cel
  rw [h2, h3]
theorem sF_o {B : Bs} {cy : Nat → ClassId} {g : Gs} {d : Ds} {r j x : Nat} {v : UInt32} (h : x ≠ r) : cel B cy g d x = cel B cy g (sF d r j v) x := by
  have h1 : dF (sF d r j v) x = dF d x := by simp [dF, sF, va_up, h]
  have h2 : ∀ t, ar B g (sF d r j v) x t = ar B g d x t := by
    intro t
    unfold ar
    rw [h1]
    rfl
  unfold cel
  rw [h2]
  rfl
theorem sL_o {B : Bs} {cy : Nat → ClassId} {g : Gs} {d : Ds} {r j x : Nat} {v : Int64} (h : x ≠ r) : cel B cy g d x = cel B cy g (sL d r j v) x := by
  have h1 : dL (sL d r j v) x = dL d x := by simp [dL, sL, va_up, h]
  have h2 : ∀ t, ar B g (sL d r j v) x t = ar B g d x t := by
    intro t
    unfold ar
    rw [h1]
    rfl
  unfold cel
  rw [h2]
  rfl
theorem sW_o {B : Bs} {cy : Nat → ClassId} {g : Gs} {d : Ds} {r j x : Nat} {v : Option Nat} (h : x ≠ r) : cel B cy g d x = cel B cy g (sW d r j v) x := by
  have h1 : dW (sW d r j v) x = dW d x := by simp [dW, sW, va_up, h]
  have h2 : ∀ t, ar B g (sW d r j v) x t = ar B g d x t := by
    intro t
    unfold ar
    rw [h1]
    rfl
  unfold cel
  rw [h2]
  rfl
theorem cI_o {B : Bs} {cy : Nat → ClassId} {g : Gs} {d : Ds} {a r sp dp n x : Nat} (h : x ≠ r) : cel B cy g d x = cel B cy g (cI d a r sp dp n) x := by
  have h1 : dI (cI d a r sp dp n) x = dI d x := by simp [dI, cI, va_up, h]
  have h2 : ∀ t, ar B g (cI d a r sp dp n) x t = ar B g d x t := by
    intro t
    unfold ar
    rw [h1]
    rfl
  have h3 : ∀ c, fls B g (cI d a r sp dp n) x c = fls B g d x c := by
    intro c
    unfold fls fv
    rw [h1]
  unfold cel
  rw [h2, h3]
theorem cF_o {B : Bs} {cy : Nat → ClassId} {g : Gs} {d : Ds} {a r sp dp n x : Nat} (h : x ≠ r) : cel B cy g d x = cel B cy g (cF d a r sp dp n) x := by
  have h1 : dF (cF d a r sp dp n) x = dF d x := by simp [dF, cF, va_up, h]
  have h2 : ∀ t, ar B g (cF d a r sp dp n) x t = ar B g d x t := by
    intro t
    unfold ar
    rw [h1]
    rfl
  unfold cel
  rw [h2]
  rfl
theorem sR_o {B : Bs} {cy : Nat → ClassId} {g : Gs} {d : Ds} {r j x v : Nat} (h : x ≠ r) : cel B cy g d x = cel B cy (sR g r j v) d x := by
  have h1 : gR (sR g r j v) x = gR g x := by simp [gR, sR, va_up, h]
  have h2 : ∀ t, ar B (sR g r j v) d x t = ar B g d x t := by
    intro t
    unfold ar
    rw [h1]
    rfl
  have h3 : ∀ c, fls B (sR g r j v) d x c = fls B g d x c := by
    intro c
    unfold fls fv
    rw [h1]
  have h4 : gK (sR g r j v) x = gK g x := rfl
  unfold cel
  rw [h2, h3, h4]

