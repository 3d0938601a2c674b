/-! THE FLAT MACHINE. All cells of the two objects have numbers (shL); what changes in them are whole numbers alone: I k i (ints and booleans: field i or place i of cell k) and J k i (longs). -/
def okW (w : Cond) : Bool := match w with
  | .fieldLinkNest _ _ _ _ _ _ => true
  | .methodLinkNest _ _ _ _ => true
  | w => w.onTables && w.keeps
def Keep (U : State) : Prop := ∀ w ∈ lw_tbl, okW w = true → w.before #[] U = true
theorem okW_tables {w : Cond} (h : okW w = true) : w.onTables = true := by
  cases w <;> first | rfl | (have h2 := h; unfold okW at h2; simp only [Bool.and_eq_true] at h2; exact h2.1)
theorem Keep.warm {s U : State} (hW : s.WarmedH U.vm) (h : Keep s) : Keep U := by
  intro w hw ho
  have h1 := h w hw ho
  cases w <;> first | exact va_Nw.warmF hW h1 | exact va_Nw.warmM hW h1 | exact word_at hW (Or.inl ho) h1
theorem Keep.same {s U : State} (hv : s.vm = U.vm) (h : Keep s) : Keep U := fun w hw ho => va_tabs (okW_tables ho) hv (h w hw ho)
/-- a word of the tables that stays -/
def tin (w : Cond) : Prop := w ∈ lw_tbl ∧ okW w = true
theorem tin.of {w : Cond} (i : Nat) (h : tables_1[i]? = some w) (ho : okW w = true) : tin w := ⟨List.mem_append_right _ (List.mem_of_getElem? h), ho⟩
theorem tin.ofP {w : Cond} (i : Nat) (h : (k2_sels lw_privs)[i]? = some w) (ho : okW w = true) : tin w := ⟨List.mem_append_left _ (List.mem_of_getElem? h), ho⟩
theorem Keep.use {s : State} (h : Keep s) {w : Cond} (hw : tin w) (args : Array Value) : w.before args s = true := va_tabs (okW_tables hw.2) rfl (h w hw.1 hw.2)
-- the cells
abbrev Shp : Type := (Nat × List (Option Nat)) ⊕ (Nat × Nat × Nat × Nat)
def shL : List Shp := [.inl (9, [some 1, some 3, some 6, some 8, some 38, some 45, some 52, some 55, some 116]),
  .inl (8, [some 2, none, none, none, none, none, none]),
  .inr (0, 160, 0, 0),
  .inl (0, [some 4, some 5, none, none, none]),
  .inr (0, 120, 0, 0),
  .inr (1, 120, 0, 0),
  .inl (3, [some 7, none]),
  .inr (0, 12, 0, 0),
  .inl (7, [some 9, some 19, some 33, none, none]),
  .inl (1, [none, some 10, some 11, some 12]),
  .inr (0, 6, 0, 0),
  .inr (0, 6, 0, 0),
  .inr (5, 6, 13, 1),
  .inr (1, 64, 0, 0),
  .inr (1, 64, 0, 0),
  .inr (1, 64, 0, 0),
  .inr (1, 64, 0, 0),
  .inr (1, 64, 0, 0),
  .inr (1, 64, 0, 0),
  .inl (4, [none, none, some 20, some 22]),
  .inr (0, 10, 0, 0),
  .inl (0, []),
  .inr (4, 10, 23, 1),
  .inr (0, 12, 0, 0),
  .inr (0, 12, 0, 0),
  .inr (0, 12, 0, 0),
  .inr (0, 12, 0, 0),
  .inr (0, 12, 0, 0),
  .inr (0, 12, 0, 0),
  .inr (0, 12, 0, 0),
  .inr (0, 12, 0, 0),
  .inr (0, 12, 0, 0),
  .inr (0, 12, 0, 0),
  .inl (5, [none, none, some 34, some 35, some 36, some 37]),
  .inr (0, 16, 0, 0),
  .inr (0, 16, 0, 0),
  .inr (0, 16, 0, 0),
  .inr (0, 16, 0, 0),
  .inl (2, [some 39, some 40, some 41, some 42, some 43, some 44, none, none, none]),
  .inr (0, 12, 0, 0),
  .inr (0, 12, 0, 0),
  .inr (0, 12, 0, 0),
  .inr (0, 12, 0, 0),
  .inr (0, 12, 0, 0),
  .inr (0, 10, 0, 0),
  .inl (2, [some 46, some 47, some 48, some 49, some 50, some 51, none, none, none]),
  .inr (0, 12, 0, 0),
  .inr (0, 12, 0, 0),
  .inr (0, 12, 0, 0),
  .inr (0, 12, 0, 0),
  .inr (0, 12, 0, 0),
  .inr (0, 10, 0, 0),
  .inl (6, [some 53, some 54]),
  .inr (0, 12, 0, 0),
  .inr (0, 6, 0, 0),
  .inr (3, 2, 56, 30),
  .inl (7, [some 57, some 67, some 81, none, none]),
  .inl (1, [none, some 58, some 59, some 60]),
  .inr (0, 6, 0, 0),
  .inr (0, 6, 0, 0),
  .inr (5, 6, 61, 1),
  .inr (1, 64, 0, 0),
  .inr (1, 64, 0, 0),
  .inr (1, 64, 0, 0),
  .inr (1, 64, 0, 0),
  .inr (1, 64, 0, 0),
  .inr (1, 64, 0, 0),
  .inl (4, [none, none, some 68, some 70]),
  .inr (0, 10, 0, 0),
  .inl (0, []),
  .inr (4, 10, 71, 1),
  .inr (0, 12, 0, 0),
  .inr (0, 12, 0, 0),
  .inr (0, 12, 0, 0),
  .inr (0, 12, 0, 0),
  .inr (0, 12, 0, 0),
  .inr (0, 12, 0, 0),
  .inr (0, 12, 0, 0),
  .inr (0, 12, 0, 0),
  .inr (0, 12, 0, 0),
  .inr (0, 12, 0, 0),
  .inl (5, [none, none, some 82, some 83, some 84, some 85]),
  .inr (0, 16, 0, 0),
  .inr (0, 16, 0, 0),
  .inr (0, 16, 0, 0),
  .inr (0, 16, 0, 0),
  .inl (7, [some 87, some 97, some 111, none, none]),
  .inl (1, [none, some 88, some 89, some 90]),
  .inr (0, 6, 0, 0),
  .inr (0, 6, 0, 0),
  .inr (5, 6, 91, 1),
  .inr (1, 64, 0, 0),
  .inr (1, 64, 0, 0),
  .inr (1, 64, 0, 0),
  .inr (1, 64, 0, 0),
  .inr (1, 64, 0, 0),
  .inr (1, 64, 0, 0),
  .inl (4, [none, none, some 98, some 100]),
  .inr (0, 10, 0, 0),
  .inl (0, []),
  .inr (4, 10, 101, 1),
  .inr (0, 12, 0, 0),
  .inr (0, 12, 0, 0),
  .inr (0, 12, 0, 0),
  .inr (0, 12, 0, 0),
  .inr (0, 12, 0, 0),
  .inr (0, 12, 0, 0),
  .inr (0, 12, 0, 0),
  .inr (0, 12, 0, 0),
  .inr (0, 12, 0, 0),
  .inr (0, 12, 0, 0),
  .inl (5, [none, none, some 112, some 113, some 114, some 115]),
  .inr (0, 16, 0, 0),
  .inr (0, 16, 0, 0),
  .inr (0, 16, 0, 0),
  .inr (0, 16, 0, 0),
  .inr (2, 2, 0, 0),
  .inl (10, [some 118, some 119, some 120, some 121, some 122, some 123, some 124, some 125, some 126, some 127, some 128, some 129, some 130, some 131, some 132, some 133, some 134, none, some 135, some 136, some 137, some 138, some 139, some 140, some 141, none, none, none, none, none, none, some 142, none, none, some 143, none, none, none, some 144, none, some 145, some 146, some 147, none, none]),
  .inr (0, 3, 0, 0),
  .inr (0, 18, 0, 0),
  .inr (0, 2160, 0, 0),
  .inr (0, 18, 0, 0),
  .inr (0, 3, 0, 0),
  .inr (0, 30, 0, 0),
  .inr (2, 30, 0, 0),
  .inr (0, 360, 0, 0),
  .inr (0, 3, 0, 0),
  .inr (0, 48, 0, 0),
  .inr (0, 48, 0, 0),
  .inr (0, 48, 0, 0),
  .inr (0, 48, 0, 0),
  .inr (2, 48, 0, 0),
  .inr (0, 3, 0, 0),
  .inr (0, 3, 0, 0),
  .inr (2, 3, 0, 0),
  .inr (0, 12, 0, 0),
  .inr (0, 12, 0, 0),
  .inr (0, 12, 0, 0),
  .inr (0, 12, 0, 0),
  .inr (0, 12, 0, 0),
  .inr (0, 10, 0, 0),
  .inr (0, 160, 0, 0),
  .inr (0, 64, 0, 0),
  .inr (0, 120, 0, 0),
  .inr (2, 4096, 0, 0),
  .inr (0, 4096, 0, 0),
  .inr (0, 12, 0, 0),
  .inr (0, 16, 0, 0)]
def shT (k : Nat) : Shp := shL.getD k (.inr (0, 0, 0, 0))
/-- whether a number is a cell's: one without a shape is nobody's -/
def liv (k : Nat) : Bool := match shT k with
  | .inl (_, []) => false
  | _ => true
def wix (k : Nat) : Nat := ((List.range k).filter liv).length
theorem wix_s (k : Nat) : wix (k + 1) = wix k + (liv k).toNat := by
  unfold wix
  rw [List.range_succ, List.filter_append, List.length_append]
  cases h : liv k <;> simp [h]
theorem flt_get {n k : Nat} (h : k < n) (hp : liv k = true) : ((List.range n).filter liv)[wix k]? = some k := by
  induction n with
  | zero => exact absurd h (Nat.not_lt_zero _)
  | succ n ih =>
    rw [List.range_succ, List.filter_append]
    by_cases e : k = n
    · subst e
      have e1 : [k].filter liv = [k] := by simp [hp]
      rw [List.getElem?_append_right (show ((List.range k).filter liv).length ≤ wix k from Nat.le_refl _), e1]
      unfold wix
      rw [Nat.sub_self]
      rfl
    · have h2 := ih (by omega)
      rw [List.getElem?_append_left (List.getElem?_eq_some_iff.mp h2).1]
      exact h2
theorem flt_at {x : Nat} : ∀ {n i : Nat}, ((List.range n).filter liv)[i]? = some x → x < n ∧ liv x = true ∧ i = wix x
  | 0, i, h => by simp at h
  | n + 1, i, h => by
    rw [List.range_succ, List.filter_append] at h
    by_cases hi : i < ((List.range n).filter liv).length
    · rw [List.getElem?_append_left hi] at h
      obtain ⟨a, b, c⟩ := flt_at h
      exact ⟨by omega, b, c⟩
    · rw [List.getElem?_append_right (by omega)] at h
      cases hp : liv n with
      | false =>
        have e1 : [n].filter liv = [] := by simp [hp]
        rw [e1] at h
        simp at h
      | true =>
        have e1 : [n].filter liv = [n] := by simp [hp]
        rw [e1] at h
        have h1 : i - ((List.range n).filter liv).length < 1 := (List.getElem?_eq_some_iff.mp h).1
        have h2 : i - ((List.range n).filter liv).length = 0 := by omega
        rw [h2] at h
        have h3 : n = x := Option.some.inj h
        subst h3
        refine ⟨Nat.lt_succ_self _, hp, ?_⟩
        show i = ((List.range n).filter liv).length
        omega
theorem wix_inj {i j : Nat} (hi : liv i = true) (hj : liv j = true) (e : wix i = wix j) : i = j := by
  have h1 := flt_get (n := i + j + 1) (by omega) hi
  have h2 := flt_get (n := i + j + 1) (by omega) hj
  rw [e] at h1
  exact Option.some.inj (h1.symm.trans h2)
theorem wix_lt {i j : Nat} (h : i < j) (hi : liv i = true) : wix i < wix j := (List.getElem?_eq_some_iff.mp (flt_get h hi)).1
def wsN (n : Nat) (ad : Nat → Nat) (E : Nat → va_E) : va_W := ((List.range n).filter liv).map fun k => (ad k, E k)
theorem wsN_get {n : Nat} {ad : Nat → Nat} {E : Nat → va_E} {k : Nat} (h : k < n) (hl : liv k = true) : (wsN n ad E)[wix k]? = some (ad k, E k) := by
  unfold wsN
  rw [List.getElem?_map, flt_get h hl]
  rfl
theorem wsN_len {n : Nat} {ad : Nat → Nat} {E E' : Nat → va_E} : (wsN n ad E).length = (wsN n ad E').length := by simp [wsN]
def upE (E : Nat → va_E) (k : Nat) (x : va_E) : Nat → va_E := fun j => if j = k then x else E j
theorem wsN_at {n : Nat} {ad : Nat → Nat} {E : Nat → va_E} {i : Nat} {q : Nat × va_E} (h : (wsN n ad E)[i]? = some q) : ∃ k, k < n ∧ liv k = true ∧ i = wix k ∧ q = (ad k, E k) := by
  unfold wsN at h
  rw [List.getElem?_map, Option.map_eq_some_iff] at h
  obtain ⟨k, h1, h2⟩ := h
  obtain ⟨a, b, c⟩ := flt_at h1
  exact ⟨k, a, b, c, h2.symm⟩
theorem wsN_set {n : Nat} {ad : Nat → Nat} {E : Nat → va_E} {k : Nat} {x : va_E} (hl : liv k = true) : (wsN n ad E).set (wix k) (ad k, x) = wsN n ad (upE E k x) := by
  apply List.ext_getElem?
  intro i
  rw [List.getElem?_set]
  rcases Nat.lt_or_ge i (wsN n ad E).length with h | h
  · obtain ⟨j, a, b, c, -⟩ := wsN_at (List.getElem?_eq_some_iff.mpr ⟨h, rfl⟩)
    subst c
    rw [wsN_get a b, wsN_get a b]
    by_cases e : wix k = wix j
    · have e2 : k = j := wix_inj hl b e
      subst e2
      rw [if_pos rfl, if_pos h]
      simp [upE]
    · have e2 : ¬ j = k := fun q => e (by rw [q])
      rw [if_neg e]
      simp [upE, e2]
  · have h1 : (wsN n ad E)[i]? = none := List.getElem?_eq_none h
    have h2 : (wsN n ad (upE E k x))[i]? = none := List.getElem?_eq_none (by rw [wsN_len (E' := E)]; exact h)
    rw [h1, h2]
    by_cases e : wix k = i
    · rw [if_pos e, if_neg (by rw [e]; omega)]
    · rw [if_neg e]
theorem wsN_D {n : Nat} {ad : Nat → Nat} {E E' : Nat → va_E} {A : Nat → Prop} (h : va_D A (wsN n ad E)) : va_D A (wsN n ad E') := by
  refine ⟨fun i j p q hp hq e => ?_, fun k q hk => ?_⟩
  · obtain ⟨i', h1, l1, rfl, rfl⟩ := wsN_at hp
    obtain ⟨j', h2, l2, rfl, rfl⟩ := wsN_at hq
    exact h.1 _ _ (ad i', E i') (ad j', E j') (wsN_get h1 l1) (wsN_get h2 l2) e
  · obtain ⟨k', h1, l1, rfl, rfl⟩ := wsN_at hk
    exact h.2 _ (ad k', E k') (wsN_get h1 l1)
theorem wsN_dead {n : Nat} {ad : Nat → Nat} {E : Nat → va_E} (h : liv n = false) : wsN (n + 1) ad E = wsN n ad E := by
  have e1 : [n].filter liv = [] := by simp [h]
  unfold wsN
  rw [List.range_succ, List.filter_append, e1, List.append_nil]
abbrev MI : Type := Nat → Nat → Int32
abbrev MJ : Type := Nat → Nat → Int64
def up2 (I : MI) (k i : Nat) (v : Int32) : MI := fun k' => if k' = k then upd (I k) i v else I k'
def upL (J : MJ) (k i : Nat) (v : Int64) : MJ := fun k' => if k' = k then vp_updL (J k) i v else J k'
theorem up2_ne {I : MI} {k i k' : Nat} {v : Int32} (h : k' ≠ k) : up2 I k i v k' = I k' := if_neg h
theorem up2_eq {I : MI} {k i : Nat} {v : Int32} : up2 I k i v k = upd (I k) i v := if_pos rfl
theorem up2_at {I : MI} {k i : Nat} {v : Int32} : up2 I k i v k i = v := by rw [up2_eq]; exact if_pos rfl
theorem up2_off {I : MI} {k i i' : Nat} {v : Int32} (h : i' ≠ i) : up2 I k i v k i' = I k i' := by rw [up2_eq]; exact if_neg h
theorem upL_ne {J : MJ} {k i k' : Nat} {v : Int64} (h : k' ≠ k) : upL J k i v k' = J k' := if_neg h
theorem upL_eq {J : MJ} {k i : Nat} {v : Int64} : upL J k i v k = vp_updL (J k) i v := if_pos rfl
theorem upL_at {J : MJ} {k i : Nat} {v : Int64} : upL J k i v k i = v := by rw [upL_eq]; exact if_pos rfl
theorem upL_off {J : MJ} {k i i' : Nat} {v : Int64} (h : i' ≠ i) : upL J k i v k i' = J k i' := by rw [upL_eq]; exact if_neg h
def fV (ad : Nat → Nat) (I : MI) (k i : Nat) (x : Option Nat) : Value := match x with
  | none => .int (I k i)
  | some j => .ref (ad j)
def mE (cA : Nat → ClassId) (ad : Nat → Nat) (I : MI) (J : MJ) (k : Nat) : va_E := match shT k with
  | .inl (ci, fl) => .inr (ci, fl.mapIdx (fun i x => fV ad I k i x))
  | .inr (t, len, b, st) => if t = 0 then .inl (cA 0, len, .inl (I k)) else if t = 1 then .inl (cA 1, len, .inr (.inl (J k))) else if t = 2 then .inl (cA 2, len, .inl (I k)) else .inl (cA t, len, .inr (.inr (.inr (.inr (fun i => some (ad (b + st * i)))))))
def tysW (cA : Nat → ClassId) : List (ClassId × FieldType) := [(cA 0, .int), (cA 1, .long), (cA 2, .boolean), (cA 3, .object "PleaPapers$Suit"), (cA 4, .array .int), (cA 5, .array .long)]
/-- a field of a cell: class, and whether it is a reference -/
def shF (k j : Nat) : Option (Nat × Option Nat) := match shT k with
  | .inl (ci, fl) => (fl[j]?).map (fun x => (ci, x))
  | .inr _ => none
def shA (k : Nat) : Option (Nat × Nat) := match shT k with
  | .inl _ => none
  | .inr (t, len, _, _) => some (t, len)
theorem shF_spec {k j ci : Nat} {x : Option Nat} (h : shF k j = some (ci, x)) : ∃ fl, shT k = .inl (ci, fl) ∧ fl[j]? = some x := by
  unfold shF at h
  split at h
  · rename_i ci' fl e
    rw [Option.map_eq_some_iff] at h
    obtain ⟨y, h1, h2⟩ := h
    cases h2
    exact ⟨fl, e, h1⟩
  · cases h
theorem shA_spec {k t len : Nat} (h : shA k = some (t, len)) : ∃ b st, shT k = .inr (t, len, b, st) := by
  unfold shA at h
  split at h
  · cases h
  · rename_i t' len' b st e
    cases h
    exact ⟨b, st, e⟩
theorem liv_F {k j ci : Nat} {x : Option Nat} (h : shF k j = some (ci, x)) : liv k = true := by
  obtain ⟨fl, e1, e2⟩ := shF_spec h
  cases fl with
  | nil => simp at e2
  | cons a l => simp [liv, e1]
theorem liv_r {k t len b st : Nat} (h : shT k = .inr (t, len, b, st)) : liv k = true := by
  simp [liv, h]
theorem liv_A {k t len : Nat} (h : shA k = some (t, len)) : liv k = true := by
  obtain ⟨b, st, e⟩ := shA_spec h
  exact liv_r e
theorem mE_obj {cA : Nat → ClassId} {ad : Nat → Nat} {I : MI} {J : MJ} {k ci : Nat} {fl : List (Option Nat)} (h : shT k = .inl (ci, fl)) : mE cA ad I J k = .inr (ci, fl.mapIdx (fun i x => fV ad I k i x)) := by unfold mE; rw [h]
theorem mE_int {cA : Nat → ClassId} {ad : Nat → Nat} {I : MI} {J : MJ} {k len : Nat} (h : shA k = some (0, len)) : mE cA ad I J k = .inl (cA 0, len, .inl (I k)) := by
  obtain ⟨b, st, h⟩ := shA_spec h
  unfold mE; rw [h]; rfl
theorem mE_long {cA : Nat → ClassId} {ad : Nat → Nat} {I : MI} {J : MJ} {k len : Nat} (h : shA k = some (1, len)) : mE cA ad I J k = .inl (cA 1, len, .inr (.inl (J k))) := by
  obtain ⟨b, st, h⟩ := shA_spec h
  unfold mE; rw [h]; rfl
theorem mE_bool {cA : Nat → ClassId} {ad : Nat → Nat} {I : MI} {J : MJ} {k len : Nat} (h : shA k = some (2, len)) : mE cA ad I J k = .inl (cA 2, len, .inl (I k)) := by
  obtain ⟨b, st, h⟩ := shA_spec h
  unfold mE; rw [h]; rfl
theorem mE_refs {cA : Nat → ClassId} {ad : Nat → Nat} {I : MI} {J : MJ} {k t len b st : Nat} (h : shT k = .inr (t, len, b, st)) (ht : 3 ≤ t) : mE cA ad I J k = .inl (cA t, len, .inr (.inr (.inr (.inr (fun i => some (ad (b + st * i))))))) := by
  unfold mE; rw [h]
  show (if t = 0 then _ else _) = _
  rw [if_neg (by omega), if_neg (by omega), if_neg (by omega)]
theorem mE_offI {cA : Nat → ClassId} {ad : Nat → Nat} {I I' : MI} {J : MJ} {k : Nat} (h : I' k = I k) : mE cA ad I' J k = mE cA ad I J k := by
  have hf : fV ad I' k = fV ad I k := by funext i x; cases x <;> simp [fV, h]
  unfold mE
  rw [hf, h]
theorem mE_offJ {cA : Nat → ClassId} {ad : Nat → Nat} {I : MI} {J J' : MJ} {k : Nat} (h : J' k = J k) : mE cA ad I J' k = mE cA ad I J k := by
  unfold mE
  rw [h]
theorem mE_put {cA : Nat → ClassId} {ad : Nat → Nat} {I : MI} {J : MJ} {k ci j : Nat} {fl : List (Option Nat)} {v : Int32} (h : shT k = .inl (ci, fl)) (hj : fl[j]? = some none) : upE (mE cA ad I J) k (.inr (ci, (fl.mapIdx (fun i x => fV ad I k i x)).set j (.int v))) = mE cA ad (up2 I k j v) J := by
  funext q
  by_cases e : q = k
  · subst e
    rw [mE_obj h]
    simp only [upE, if_true]
    congr 2
    apply List.ext_getElem?
    intro i
    rw [List.getElem?_set, List.getElem?_mapIdx, List.getElem?_mapIdx]
    by_cases e2 : j = i
    · subst e2
      have hl : j < fl.length := (List.getElem?_eq_some_iff.mp hj).1
      rw [if_pos rfl, if_pos (by simpa using hl), hj]
      simp [fV, up2_at]
    · rw [if_neg e2]
      congr 1
      funext x
      cases x with
      | none => simp only [fV]; rw [up2_off (fun q => e2 q.symm)]
      | some j => rfl
  · rw [mE_offI (up2_ne e)]
    simp [upE, e]
theorem mE_sti {cA : Nat → ClassId} {ad : Nat → Nat} {I : MI} {J : MJ} {k len f : Nat} {v : Int32} (h : shA k = some (0, len)) : upE (mE cA ad I J) k (.inl (cA 0, len, .inl (upd (I k) f v))) = mE cA ad (up2 I k f v) J := by
  funext q
  by_cases e : q = k
  · subst e
    rw [mE_int h, up2_eq]
    simp [upE]
  · rw [mE_offI (up2_ne e)]
    simp [upE, e]
theorem mE_stz {cA : Nat → ClassId} {ad : Nat → Nat} {I : MI} {J : MJ} {k len f : Nat} {v : Int32} (h : shA k = some (2, len)) : upE (mE cA ad I J) k (.inl (cA 2, len, .inl (upd (I k) f v))) = mE cA ad (up2 I k f v) J := by
  funext q
  by_cases e : q = k
  · subst e
    rw [mE_bool h, up2_eq]
    simp [upE]
  · rw [mE_offI (up2_ne e)]
    simp [upE, e]
theorem mE_stl {cA : Nat → ClassId} {ad : Nat → Nat} {I : MI} {J : MJ} {k len f : Nat} {v : Int64} (h : shA k = some (1, len)) : upE (mE cA ad I J) k (.inl (cA 1, len, .inr (.inl (vp_updL (J k) f v)))) = mE cA ad I (upL J k f v) := by
  funext q
  by_cases e : q = k
  · subst e
    rw [mE_long h, upL_eq]
    simp [upE]
  · rw [mE_offJ (upL_ne e)]
    simp [upE, e]
section FM
variable {p : Program} {l : Launch} {e : Env} {R : Room} {s : State} {m : MethodId} {args : Array Value} {below : List Frame} {meth : Method} {c : Code} {Q : State → Prop} {D : va_G} {A : Nat → Prop} {nL : Nat} {cc : ByteArray} {own : String} {ret : Option FieldType} {cA : Nat → ClassId} {cells slots : Nat} {n : Nat} {ad : Nat → Nat} {E : Nat → va_E} {I : MI} {J : MJ} {pc : Nat} {lo : List (Nat × Value)} {st : List Value}
/-- what holds all along a method's walk -/
def fC (p : Program) (s : State) (m : MethodId) (args : Array Value) (meth : Method) (c : Code) (cc : ByteArray) (nL : Nat) (own : String) (ret : Option FieldType) (D : va_G) (cA : Nat → ClassId) (A : Nat → Prop) : Prop :=
  p.tables.exec = Jvm.exec ∧ c.code = cc ∧ c.maxLocals = nL ∧ s.vm.findClass own = some m.cls ∧ meth.locks = false ∧ meth.sig.returnType = ret ∧ Keep s ∧ va_K D vwCl (tysW cA) s ∧ ∀ q, s.heap.size ≤ q → A q
theorem fC.x (C : fC p s m args meth c cc nL own ret D cA A) : p.tables.exec = Jvm.exec := C.1
theorem fC.b (C : fC p s m args meth c cc nL own ret D cA A) : c.code = cc := C.2.1
theorem fC.ml (C : fC p s m args meth c cc nL own ret D cA A) : c.maxLocals = nL := C.2.2.1
theorem fC.ow (C : fC p s m args meth c cc nL own ret D cA A) : s.vm.findClass own = some m.cls := C.2.2.2.1
theorem fC.lk (C : fC p s m args meth c cc nL own ret D cA A) : meth.locks = false := C.2.2.2.2.1
theorem fC.rt (C : fC p s m args meth c cc nL own ret D cA A) : meth.sig.returnType = ret := C.2.2.2.2.2.1
theorem fC.keep (C : fC p s m args meth c cc nL own ret D cA A) : Keep s := C.2.2.2.2.2.2.1
theorem fC.K (C : fC p s m args meth c cc nL own ret D cA A) : va_K D vwCl (tysW cA) s := C.2.2.2.2.2.2.2.1
theorem fC.hA (C : fC p s m args meth c cc nL own ret D cA A) : ∀ q, s.heap.size ≤ q → A q := C.2.2.2.2.2.2.2.2
/-- from any heap that holds the cells E, at pc with the locals lo and the operands st: the machine comes to Q -/
def V (p : Program) (l : Launch) (e : Env) (R : Room) (s : State) (m : MethodId) (args : Array Value) (below : List Frame) (meth : Method) (c : Code) (Q : State → Prop) (D : va_G) (A : Nat → Prop) (nL cells slots n : Nat) (ad : Nat → Nat) (E : Nat → va_E) (pc : Nat) (lo : List (Nat × Value)) (st : List Value) : Prop :=
  ∀ (H : Heap) (locs : List Loc) (ls : Array Slot), va_P D vwCl (wsN n ad E) H → va_D A (wsN n ad E) → va_S A s.heap H locs → lv_has ls nL lo → W p l e R s m args below meth c H locs cells slots Q (F0 m pc ls st)

theorem V.sub (ks : List Nat) {lo' : List (Nat × Value)} (h : lv_pick lo ks = lo') (k : V p l e R s m args below meth c Q D A nL cells slots n ad E pc lo' st) : V p l e R s m args below meth c Q D A nL cells slots n ad E pc lo st := fun H locs ls hP hD hS hl => k H locs ls hP hD hS (lv_sub hl ks h)
theorem V.stk {st' : List Value} (h : st = st') (k : V p l e R s m args below meth c Q D A nL cells slots n ad E pc lo st') : V p l e R s m args below meth c Q D A nL cells slots n ad E pc lo st := h ▸ k
theorem r_iload_n (C : fC p s m args meth c cc nL own ret D cA A) {i : Fin 4} (t : Nat) {x : Int32} (hd : decode cc pc = .ok (.iload_n i, 1)) (hl0 : lo[t]? = some ((i : Nat), .int x)) (k : V p l e R s m args below meth c Q D A nL cells slots n ad E (pc + 1) lo (.int x :: st)) : V p l e R s m args below meth c Q D A nL cells slots n ad E pc lo (st) := fun H locs ls hP hD hS hl => lv_iload_n C.x C.b hd rfl (lv_at hl t hl0) (k H locs ls hP hD hS hl)
theorem r_iload (C : fC p s m args meth c cc nL own ret D cA A) {i : Nat} (t : Nat) {x : Int32} (hd : decode cc pc = .ok (.iload i, 2)) (hl0 : lo[t]? = some (i, .int x)) (k : V p l e R s m args below meth c Q D A nL cells slots n ad E (pc + 2) lo (.int x :: st)) : V p l e R s m args below meth c Q D A nL cells slots n ad E pc lo (st) := fun H locs ls hP hD hS hl => lv_iload C.x C.b hd (lv_at hl t hl0) (k H locs ls hP hD hS hl)
theorem r_lload_n (C : fC p s m args meth c cc nL own ret D cA A) {i : Fin 4} (t : Nat) {x : Int64} (hd : decode cc pc = .ok (.lload_n i, 1)) (hl0 : lo[t]? = some ((i : Nat), .long x)) (k : V p l e R s m args below meth c Q D A nL cells slots n ad E (pc + 1) lo (.long x :: st)) : V p l e R s m args below meth c Q D A nL cells slots n ad E pc lo (st) := fun H locs ls hP hD hS hl => lv_lload_n C.x C.b hd rfl (lv_at hl t hl0) (k H locs ls hP hD hS hl)
theorem r_lload (C : fC p s m args meth c cc nL own ret D cA A) {i : Nat} (t : Nat) {x : Int64} (hd : decode cc pc = .ok (.lload i, 2)) (hl0 : lo[t]? = some (i, .long x)) (k : V p l e R s m args below meth c Q D A nL cells slots n ad E (pc + 2) lo (.long x :: st)) : V p l e R s m args below meth c Q D A nL cells slots n ad E pc lo (st) := fun H locs ls hP hD hS hl => lv_lload C.x C.b hd (lv_at hl t hl0) (k H locs ls hP hD hS hl)
theorem r_aload_n (C : fC p s m args meth c cc nL own ret D cA A) {i : Fin 4} (t : Nat) {x : Nat} (hd : decode cc pc = .ok (.aload_n i, 1)) (hl0 : lo[t]? = some ((i : Nat), .ref x)) (k : V p l e R s m args below meth c Q D A nL cells slots n ad E (pc + 1) lo (.ref x :: st)) : V p l e R s m args below meth c Q D A nL cells slots n ad E pc lo (st) := fun H locs ls hP hD hS hl => lv_aload_n C.x C.b hd rfl (lv_at hl t hl0) (k H locs ls hP hD hS hl)
theorem r_aload (C : fC p s m args meth c cc nL own ret D cA A) {i : Nat} (t : Nat) {x : Nat} (hd : decode cc pc = .ok (.aload i, 2)) (hl0 : lo[t]? = some (i, .ref x)) (k : V p l e R s m args below meth c Q D A nL cells slots n ad E (pc + 2) lo (.ref x :: st)) : V p l e R s m args below meth c Q D A nL cells slots n ad E pc lo (st) := fun H locs ls hP hD hS hl => lv_aload C.x C.b hd (lv_at hl t hl0) (k H locs ls hP hD hS hl)
theorem r_iconst (C : fC p s m args meth c cc nL own ret D cA A) {z : Int} {v : Int32} (hd : decode cc pc = .ok (.iconst z, 1)) (hv : Int32.ofInt z = v) (k : V p l e R s m args below meth c Q D A nL cells slots n ad E (pc + 1) lo (.int v :: st)) : V p l e R s m args below meth c Q D A nL cells slots n ad E pc lo (st) := fun H locs ls hP hD hS hl => lv_iconst C.x C.b hd hv (k H locs ls hP hD hS hl)
theorem r_bipush (C : fC p s m args meth c cc nL own ret D cA A) {z : Int} {v : Int32} (hd : decode cc pc = .ok (.bipush z, 2)) (hv : (Int8.ofInt z).toInt32 = v) (k : V p l e R s m args below meth c Q D A nL cells slots n ad E (pc + 2) lo (.int v :: st)) : V p l e R s m args below meth c Q D A nL cells slots n ad E pc lo (st) := fun H locs ls hP hD hS hl => lv_bipush C.x C.b hd hv (k H locs ls hP hD hS hl)
theorem r_sipush (C : fC p s m args meth c cc nL own ret D cA A) {z : Int} {v : Int32} (hd : decode cc pc = .ok (.sipush z, 3)) (hv : (Int16.ofInt z).toInt32 = v) (k : V p l e R s m args below meth c Q D A nL cells slots n ad E (pc + 3) lo (.int v :: st)) : V p l e R s m args below meth c Q D A nL cells slots n ad E pc lo (st) := fun H locs ls hP hD hS hl => lv_sipush C.x C.b hd hv (k H locs ls hP hD hS hl)
theorem r_lconst (C : fC p s m args meth c cc nL own ret D cA A) {z : Fin 2} {v : Int64} (hd : decode cc pc = .ok (.lconst z, 1)) (hv : Int64.ofNat (z : Nat) = v) (k : V p l e R s m args below meth c Q D A nL cells slots n ad E (pc + 1) lo (.long v :: st)) : V p l e R s m args below meth c Q D A nL cells slots n ad E pc lo (st) := fun H locs ls hP hD hS hl => lv_lconst C.x C.b hd hv (k H locs ls hP hD hS hl)
theorem r_ldc (C : fC p s m args meth c cc nL own ret D cA A) {index : Nat} {v : Int32} (hd : decode cc pc = .ok (.ldc index, 2)) (hw : tin (.constant own index v)) (k : V p l e R s m args below meth c Q D A nL cells slots n ad E (pc + 2) lo (.int v :: st)) : V p l e R s m args below meth c Q D A nL cells slots n ad E pc lo (st) := fun H locs ls hP hD hS hl => lv_ldc C.x C.b C.ow (C.keep.use hw args) hd (k H locs ls hP hD hS hl)
theorem r_ldcw (C : fC p s m args meth c cc nL own ret D cA A) {index : Nat} {v : Int32} (hd : decode cc pc = .ok (.ldc_w index, 3)) (hw : tin (.constant own index v)) (k : V p l e R s m args below meth c Q D A nL cells slots n ad E (pc + 3) lo (.int v :: st)) : V p l e R s m args below meth c Q D A nL cells slots n ad E pc lo (st) := fun H locs ls hP hD hS hl => lv_ldcw C.x C.b C.ow (C.keep.use hw args) hd (k H locs ls hP hD hS hl)
theorem r_ldc2 (C : fC p s m args meth c cc nL own ret D cA A) {index : Nat} {v : Int64} (hd : decode cc pc = .ok (.ldc2_w index, 3)) (hw : tin (.constantLong own index v)) (k : V p l e R s m args below meth c Q D A nL cells slots n ad E (pc + 3) lo (.long v :: st)) : V p l e R s m args below meth c Q D A nL cells slots n ad E pc lo (st) := fun H locs ls hP hD hS hl => lv_ldc2 C.x C.b C.ow (C.keep.use hw args) hd (k H locs ls hP hD hS hl)
theorem r_iadd (C : fC p s m args meth c cc nL own ret D cA A) {x y : Int32} (hd : decode cc pc = .ok (.iadd, 1))  (k : V p l e R s m args below meth c Q D A nL cells slots n ad E (pc + 1) lo (.int (x + y) :: st)) : V p l e R s m args below meth c Q D A nL cells slots n ad E pc lo (.int y :: .int x :: st) := fun H locs ls hP hD hS hl => lv_iadd C.x C.b hd (k H locs ls hP hD hS hl)
theorem r_isub (C : fC p s m args meth c cc nL own ret D cA A) {x y : Int32} (hd : decode cc pc = .ok (.isub, 1))  (k : V p l e R s m args below meth c Q D A nL cells slots n ad E (pc + 1) lo (.int (x - y) :: st)) : V p l e R s m args below meth c Q D A nL cells slots n ad E pc lo (.int y :: .int x :: st) := fun H locs ls hP hD hS hl => lv_isub C.x C.b hd (k H locs ls hP hD hS hl)
theorem r_imul (C : fC p s m args meth c cc nL own ret D cA A) {x y : Int32} (hd : decode cc pc = .ok (.imul, 1))  (k : V p l e R s m args below meth c Q D A nL cells slots n ad E (pc + 1) lo (.int (x * y) :: st)) : V p l e R s m args below meth c Q D A nL cells slots n ad E pc lo (.int y :: .int x :: st) := fun H locs ls hP hD hS hl => lv_imul C.x C.b hd (k H locs ls hP hD hS hl)
theorem r_iand (C : fC p s m args meth c cc nL own ret D cA A) {x y : Int32} (hd : decode cc pc = .ok (.iand, 1))  (k : V p l e R s m args below meth c Q D A nL cells slots n ad E (pc + 1) lo (.int (x &&& y) :: st)) : V p l e R s m args below meth c Q D A nL cells slots n ad E pc lo (.int y :: .int x :: st) := fun H locs ls hP hD hS hl => lv_iand C.x C.b hd (k H locs ls hP hD hS hl)
theorem r_ior (C : fC p s m args meth c cc nL own ret D cA A) {x y : Int32} (hd : decode cc pc = .ok (.ior, 1))  (k : V p l e R s m args below meth c Q D A nL cells slots n ad E (pc + 1) lo (.int (x ||| y) :: st)) : V p l e R s m args below meth c Q D A nL cells slots n ad E pc lo (.int y :: .int x :: st) := fun H locs ls hP hD hS hl => lv_ior C.x C.b hd (k H locs ls hP hD hS hl)
theorem r_ixor (C : fC p s m args meth c cc nL own ret D cA A) {x y : Int32} (hd : decode cc pc = .ok (.ixor, 1))  (k : V p l e R s m args below meth c Q D A nL cells slots n ad E (pc + 1) lo (.int (x ^^^ y) :: st)) : V p l e R s m args below meth c Q D A nL cells slots n ad E pc lo (.int y :: .int x :: st) := fun H locs ls hP hD hS hl => lv_ixor C.x C.b hd (k H locs ls hP hD hS hl)
theorem r_ishl (C : fC p s m args meth c cc nL own ret D cA A) {x y : Int32} (hd : decode cc pc = .ok (.ishl, 1))  (k : V p l e R s m args below meth c Q D A nL cells slots n ad E (pc + 1) lo (.int (x <<< (y &&& 31)) :: st)) : V p l e R s m args below meth c Q D A nL cells slots n ad E pc lo (.int y :: .int x :: st) := fun H locs ls hP hD hS hl => lv_ishl C.x C.b hd (k H locs ls hP hD hS hl)
theorem r_ishr (C : fC p s m args meth c cc nL own ret D cA A) {x y : Int32} (hd : decode cc pc = .ok (.ishr, 1))  (k : V p l e R s m args below meth c Q D A nL cells slots n ad E (pc + 1) lo (.int (x >>> (y &&& 31)) :: st)) : V p l e R s m args below meth c Q D A nL cells slots n ad E pc lo (.int y :: .int x :: st) := fun H locs ls hP hD hS hl => lv_ishr C.x C.b hd (k H locs ls hP hD hS hl)
theorem r_iushr (C : fC p s m args meth c cc nL own ret D cA A) {x y : Int32} (hd : decode cc pc = .ok (.iushr, 1))  (k : V p l e R s m args below meth c Q D A nL cells slots n ad E (pc + 1) lo (.int ((x.toUInt32 >>> (y.toUInt32 &&& Int32.toUInt32 31)).toInt32) :: st)) : V p l e R s m args below meth c Q D A nL cells slots n ad E pc lo (.int y :: .int x :: st) := fun H locs ls hP hD hS hl => lv_iushr C.x C.b hd rfl (k H locs ls hP hD hS hl)
theorem r_idiv (C : fC p s m args meth c cc nL own ret D cA A) {x y : Int32} (hd : decode cc pc = .ok (.idiv, 1)) (hne : ¬ y = 0) (k : V p l e R s m args below meth c Q D A nL cells slots n ad E (pc + 1) lo (.int (x / y) :: st)) : V p l e R s m args below meth c Q D A nL cells slots n ad E pc lo (.int y :: .int x :: st) := fun H locs ls hP hD hS hl => lv_idiv C.x C.b hd hne (k H locs ls hP hD hS hl)
theorem r_irem (C : fC p s m args meth c cc nL own ret D cA A) {x y : Int32} (hd : decode cc pc = .ok (.irem, 1)) (hne : ¬ y = 0) (k : V p l e R s m args below meth c Q D A nL cells slots n ad E (pc + 1) lo (.int (x - x / y * y) :: st)) : V p l e R s m args below meth c Q D A nL cells slots n ad E pc lo (.int y :: .int x :: st) := fun H locs ls hP hD hS hl => lv_irem C.x C.b hd hne (k H locs ls hP hD hS hl)
theorem r_ineg (C : fC p s m args meth c cc nL own ret D cA A) {x : Int32} (hd : decode cc pc = .ok (.ineg, 1))  (k : V p l e R s m args below meth c Q D A nL cells slots n ad E (pc + 1) lo (.int (-x) :: st)) : V p l e R s m args below meth c Q D A nL cells slots n ad E pc lo (.int x :: st) := fun H locs ls hP hD hS hl => lv_ineg C.x C.b hd (k H locs ls hP hD hS hl)
theorem r_ladd (C : fC p s m args meth c cc nL own ret D cA A) {x y : Int64} (hd : decode cc pc = .ok (.ladd, 1))  (k : V p l e R s m args below meth c Q D A nL cells slots n ad E (pc + 1) lo (.long (x + y) :: st)) : V p l e R s m args below meth c Q D A nL cells slots n ad E pc lo (.long y :: .long x :: st) := fun H locs ls hP hD hS hl => lv_ladd C.x C.b hd (k H locs ls hP hD hS hl)
theorem r_lmul (C : fC p s m args meth c cc nL own ret D cA A) {x y : Int64} (hd : decode cc pc = .ok (.lmul, 1))  (k : V p l e R s m args below meth c Q D A nL cells slots n ad E (pc + 1) lo (.long (x * y) :: st)) : V p l e R s m args below meth c Q D A nL cells slots n ad E pc lo (.long y :: .long x :: st) := fun H locs ls hP hD hS hl => lv_lmul C.x C.b hd (k H locs ls hP hD hS hl)
theorem r_land (C : fC p s m args meth c cc nL own ret D cA A) {x y : Int64} (hd : decode cc pc = .ok (.land, 1))  (k : V p l e R s m args below meth c Q D A nL cells slots n ad E (pc + 1) lo (.long (x &&& y) :: st)) : V p l e R s m args below meth c Q D A nL cells slots n ad E pc lo (.long y :: .long x :: st) := fun H locs ls hP hD hS hl => lv_land C.x C.b hd (k H locs ls hP hD hS hl)
theorem r_lor (C : fC p s m args meth c cc nL own ret D cA A) {x y : Int64} (hd : decode cc pc = .ok (.lor, 1))  (k : V p l e R s m args below meth c Q D A nL cells slots n ad E (pc + 1) lo (.long (x ||| y) :: st)) : V p l e R s m args below meth c Q D A nL cells slots n ad E pc lo (.long y :: .long x :: st) := fun H locs ls hP hD hS hl => lv_lor C.x C.b hd (k H locs ls hP hD hS hl)
theorem r_lxor (C : fC p s m args meth c cc nL own ret D cA A) {x y : Int64} (hd : decode cc pc = .ok (.lxor, 1))  (k : V p l e R s m args below meth c Q D A nL cells slots n ad E (pc + 1) lo (.long (x ^^^ y) :: st)) : V p l e R s m args below meth c Q D A nL cells slots n ad E pc lo (.long y :: .long x :: st) := fun H locs ls hP hD hS hl => lv_lxor C.x C.b hd (k H locs ls hP hD hS hl)
theorem r_ldiv (C : fC p s m args meth c cc nL own ret D cA A) {x y : Int64} (hd : decode cc pc = .ok (.ldiv, 1)) (hne : ¬ y = 0) (k : V p l e R s m args below meth c Q D A nL cells slots n ad E (pc + 1) lo (.long (x / y) :: st)) : V p l e R s m args below meth c Q D A nL cells slots n ad E pc lo (.long y :: .long x :: st) := fun H locs ls hP hD hS hl => lv_ldiv C.x C.b hd hne (k H locs ls hP hD hS hl)
theorem r_lrem (C : fC p s m args meth c cc nL own ret D cA A) {x y : Int64} (hd : decode cc pc = .ok (.lrem, 1)) (hne : ¬ y = 0) (k : V p l e R s m args below meth c Q D A nL cells slots n ad E (pc + 1) lo (.long (x - x / y * y) :: st)) : V p l e R s m args below meth c Q D A nL cells slots n ad E pc lo (.long y :: .long x :: st) := fun H locs ls hP hD hS hl => lv_lrem C.x C.b hd hne (k H locs ls hP hD hS hl)
theorem r_lshl (C : fC p s m args meth c cc nL own ret D cA A) {x : Int64} {y : Int32} (hd : decode cc pc = .ok (.lshl, 1))  (k : V p l e R s m args below meth c Q D A nL cells slots n ad E (pc + 1) lo (.long (x <<< (y.toInt64 &&& 63)) :: st)) : V p l e R s m args below meth c Q D A nL cells slots n ad E pc lo (.int y :: .long x :: st) := fun H locs ls hP hD hS hl => lv_lshl C.x C.b hd rfl (k H locs ls hP hD hS hl)
theorem r_lshr (C : fC p s m args meth c cc nL own ret D cA A) {x : Int64} {y : Int32} (hd : decode cc pc = .ok (.lshr, 1))  (k : V p l e R s m args below meth c Q D A nL cells slots n ad E (pc + 1) lo (.long (x >>> (y.toInt64 &&& 63)) :: st)) : V p l e R s m args below meth c Q D A nL cells slots n ad E pc lo (.int y :: .long x :: st) := fun H locs ls hP hD hS hl => lv_lshr C.x C.b hd rfl (k H locs ls hP hD hS hl)
theorem r_lushr (C : fC p s m args meth c cc nL own ret D cA A) {x : Int64} {y : Int32} (hd : decode cc pc = .ok (.lushr, 1))  (k : V p l e R s m args below meth c Q D A nL cells slots n ad E (pc + 1) lo (.long ((x.toUInt64 >>> (y.toInt64.toUInt64 &&& Int64.toUInt64 63)).toInt64) :: st)) : V p l e R s m args below meth c Q D A nL cells slots n ad E pc lo (.int y :: .long x :: st) := fun H locs ls hP hD hS hl => lv_lushr C.x C.b hd rfl (k H locs ls hP hD hS hl)
theorem r_i2l (C : fC p s m args meth c cc nL own ret D cA A) {x : Int32} (hd : decode cc pc = .ok (.i2l, 1))  (k : V p l e R s m args below meth c Q D A nL cells slots n ad E (pc + 1) lo (.long x.toInt64 :: st)) : V p l e R s m args below meth c Q D A nL cells slots n ad E pc lo (.int x :: st) := fun H locs ls hP hD hS hl => lv_i2l C.x C.b hd rfl (k H locs ls hP hD hS hl)
theorem r_l2i (C : fC p s m args meth c cc nL own ret D cA A) {x : Int64} (hd : decode cc pc = .ok (.l2i, 1))  (k : V p l e R s m args below meth c Q D A nL cells slots n ad E (pc + 1) lo (.int x.toInt32 :: st)) : V p l e R s m args below meth c Q D A nL cells slots n ad E pc lo (.long x :: st) := fun H locs ls hP hD hS hl => lv_l2i C.x C.b hd rfl (k H locs ls hP hD hS hl)
theorem r_i2c (C : fC p s m args meth c cc nL own ret D cA A) {x : Int32} (hd : decode cc pc = .ok (.i2c, 1))  (k : V p l e R s m args below meth c Q D A nL cells slots n ad E (pc + 1) lo (.int (x.toUInt32 % 65536).toInt32 :: st)) : V p l e R s m args below meth c Q D A nL cells slots n ad E pc lo (.int x :: st) := fun H locs ls hP hD hS hl => lv_i2c C.x C.b hd rfl (k H locs ls hP hD hS hl)
theorem r_lcmp (C : fC p s m args meth c cc nL own ret D cA A) {x y : Int64} (hd : decode cc pc = .ok (.lcmp, 1))  (k : V p l e R s m args below meth c Q D A nL cells slots n ad E (pc + 1) lo (.int (lg_cmp x y) :: st)) : V p l e R s m args below meth c Q D A nL cells slots n ad E pc lo (.long y :: .long x :: st) := fun H locs ls hP hD hS hl => W.lcmp C.x C.b hd (k H locs ls hP hD hS hl)
theorem r_dup (C : fC p s m args meth c cc nL own ret D cA A) {va : Value} (hd : decode cc pc = .ok (.dup, 1)) (hva : va.category = 1) (k : V p l e R s m args below meth c Q D A nL cells slots n ad E (pc + 1) lo (va :: va :: st)) : V p l e R s m args below meth c Q D A nL cells slots n ad E pc lo (va :: st) := fun H locs ls hP hD hS hl => lv_dup C.x C.b hd hva (k H locs ls hP hD hS hl)
theorem r_dup2 (C : fC p s m args meth c cc nL own ret D cA A) {va vb : Value} (hd : decode cc pc = .ok (.dup2, 1)) (hva : va.category = 1) (hvb : vb.category = 1) (k : V p l e R s m args below meth c Q D A nL cells slots n ad E (pc + 1) lo (va :: vb :: va :: vb :: st)) : V p l e R s m args below meth c Q D A nL cells slots n ad E pc lo (va :: vb :: st) := fun H locs ls hP hD hS hl => lv_dup2_11 C.x C.b hd hva hvb (k H locs ls hP hD hS hl)
theorem r_pop (C : fC p s m args meth c cc nL own ret D cA A) {va : Value} (hd : decode cc pc = .ok (.pop, 1)) (hva : va.category = 1) (k : V p l e R s m args below meth c Q D A nL cells slots n ad E (pc + 1) lo (st)) : V p l e R s m args below meth c Q D A nL cells slots n ad E pc lo (va :: st) := fun H locs ls hP hD hS hl => lv_pop C.x C.b hd hva (k H locs ls hP hD hS hl)
theorem r_istore_n (C : fC p s m args meth c cc nL own ret D cA A) {k4 : Fin 4} {i : Nat} {x : Int32} {lo' : List (Nat × Value)} (hd : decode cc pc = .ok (.istore_n k4, 1)) (hi : (k4 : Nat) = i) (hn : i < nL) (h : (i, Value.int x) :: lo.filter (fun q => !(q.1 == i) && !(q.1 + 1 == i && q.2.category == 2)) = lo') (k : V p l e R s m args below meth c Q D A nL cells slots n ad E (pc + 1) lo' st) : V p l e R s m args below meth c Q D A nL cells slots n ad E pc lo (.int x :: st) := fun H locs ls hP hD hS hl => lv_istore_n C.x C.b hd hi hl hn h (fun ls hl => k H locs ls hP hD hS hl)
theorem r_istore (C : fC p s m args meth c cc nL own ret D cA A) {i : Nat} {x : Int32} {lo' : List (Nat × Value)} (hd : decode cc pc = .ok (.istore i, 2)) (hn : i < nL) (h : (i, Value.int x) :: lo.filter (fun q => !(q.1 == i) && !(q.1 + 1 == i && q.2.category == 2)) = lo') (k : V p l e R s m args below meth c Q D A nL cells slots n ad E (pc + 2) lo' st) : V p l e R s m args below meth c Q D A nL cells slots n ad E pc lo (.int x :: st) := fun H locs ls hP hD hS hl => lv_istore C.x C.b hd hl hn h (fun ls hl => k H locs ls hP hD hS hl)
theorem r_astore_n (C : fC p s m args meth c cc nL own ret D cA A) {k4 : Fin 4} {i : Nat} {x : Nat} {lo' : List (Nat × Value)} (hd : decode cc pc = .ok (.astore_n k4, 1)) (hi : (k4 : Nat) = i) (hn : i < nL) (h : (i, Value.ref x) :: lo.filter (fun q => !(q.1 == i) && !(q.1 + 1 == i && q.2.category == 2)) = lo') (k : V p l e R s m args below meth c Q D A nL cells slots n ad E (pc + 1) lo' st) : V p l e R s m args below meth c Q D A nL cells slots n ad E pc lo (.ref x :: st) := fun H locs ls hP hD hS hl => lv_astore_n C.x C.b hd hi hl hn h (fun ls hl => k H locs ls hP hD hS hl)
theorem r_astore (C : fC p s m args meth c cc nL own ret D cA A) {i : Nat} {x : Nat} {lo' : List (Nat × Value)} (hd : decode cc pc = .ok (.astore i, 2)) (hn : i < nL) (h : (i, Value.ref x) :: lo.filter (fun q => !(q.1 == i) && !(q.1 + 1 == i && q.2.category == 2)) = lo') (k : V p l e R s m args below meth c Q D A nL cells slots n ad E (pc + 2) lo' st) : V p l e R s m args below meth c Q D A nL cells slots n ad E pc lo (.ref x :: st) := fun H locs ls hP hD hS hl => lv_astore C.x C.b hd hl hn h (fun ls hl => k H locs ls hP hD hS hl)
theorem r_lstore_n (C : fC p s m args meth c cc nL own ret D cA A) {k4 : Fin 4} {i : Nat} {x : Int64} {lo' : List (Nat × Value)} (hd : decode cc pc = .ok (.lstore_n k4, 1)) (hi : (k4 : Nat) = i) (hn : i + 1 < nL) (h : (i, Value.long x) :: lo.filter (fun q => !(q.1 == i) && (!(q.1 == i + 1) && !(q.1 + 1 == i && q.2.category == 2))) = lo') (k : V p l e R s m args below meth c Q D A nL cells slots n ad E (pc + 1) lo' st) : V p l e R s m args below meth c Q D A nL cells slots n ad E pc lo (.long x :: st) := fun H locs ls hP hD hS hl => lv_lstore_n C.x C.b hd hi hl hn h (fun ls hl => k H locs ls hP hD hS hl)
theorem r_lstore (C : fC p s m args meth c cc nL own ret D cA A) {i : Nat} {x : Int64} {lo' : List (Nat × Value)} (hd : decode cc pc = .ok (.lstore i, 2)) (hn : i + 1 < nL) (h : (i, Value.long x) :: lo.filter (fun q => !(q.1 == i) && (!(q.1 == i + 1) && !(q.1 + 1 == i && q.2.category == 2))) = lo') (k : V p l e R s m args below meth c Q D A nL cells slots n ad E (pc + 2) lo' st) : V p l e R s m args below meth c Q D A nL cells slots n ad E pc lo (.long x :: st) := fun H locs ls hP hD hS hl => lv_lstore C.x C.b hd hl hn h (fun ls hl => k H locs ls hP hD hS hl)
theorem r_iinc (C : fC p s m args meth c cc nL own ret D cA A) {i : Nat} (t : Nat) {z : Int} {x v : Int32} {lo' : List (Nat × Value)} (hd : decode cc pc = .ok (.iinc i z, 3)) (hk : lo[t]? = some (i, .int x)) (hv : x + Int32.ofInt z = v) (hn : i < nL) (h : (i, Value.int v) :: lo.filter (fun q => !(q.1 == i) && !(q.1 + 1 == i && q.2.category == 2)) = lo') (k : V p l e R s m args below meth c Q D A nL cells slots n ad E (pc + 3) lo' st) : V p l e R s m args below meth c Q D A nL cells slots n ad E pc lo st := fun H locs ls hP hD hS hl => lv_iinc C.x C.b hd hl hk hv hn h (fun ls hl => k H locs ls hP hD hS hl)
theorem r_goto (C : fC p s m args meth c cc nL own ret D cA A) {off : Int} {tgt : Nat} (hd : decode cc pc = .ok (.goto off, 3)) (ht : (pc : Int) + off = (tgt : Int)) (k : V p l e R s m args below meth c Q D A nL cells slots n ad E tgt lo st) : V p l e R s m args below meth c Q D A nL cells slots n ad E pc lo st := fun H locs ls hP hD hS hl => lv_goto C.x C.b hd ht (k H locs ls hP hD hS hl)
theorem r_if_eq (C : fC p s m args meth c cc nL own ret D cA A) {x : Int32} {off : Int} {tgt : Nat} (hd : decode cc pc = .ok (.ifCond .eq off, 3)) (ht : (pc : Int) + off = (tgt : Int)) (kt : x = 0 → V p l e R s m args below meth c Q D A nL cells slots n ad E tgt lo st) (kf : ¬ x = 0 → V p l e R s m args below meth c Q D A nL cells slots n ad E (pc + 3) lo st) : V p l e R s m args below meth c Q D A nL cells slots n ad E pc lo (.int x :: st) := fun H locs ls hP hD hS hl => lv_if_eq C.x C.b hd ht (fun h => kt h H locs ls hP hD hS hl) (fun h => kf h H locs ls hP hD hS hl)
theorem r_icmp_eq (C : fC p s m args meth c cc nL own ret D cA A) {x y : Int32} {off : Int} {tgt : Nat} (hd : decode cc pc = .ok (.if_icmp .eq off, 3)) (ht : (pc : Int) + off = (tgt : Int)) (kt : x = y → V p l e R s m args below meth c Q D A nL cells slots n ad E tgt lo st) (kf : ¬ x = y → V p l e R s m args below meth c Q D A nL cells slots n ad E (pc + 3) lo st) : V p l e R s m args below meth c Q D A nL cells slots n ad E pc lo (.int y :: .int x :: st) := fun H locs ls hP hD hS hl => lv_icmp_eq C.x C.b hd ht (fun h => kt h H locs ls hP hD hS hl) (fun h => kf h H locs ls hP hD hS hl)
theorem r_if_ne (C : fC p s m args meth c cc nL own ret D cA A) {x : Int32} {off : Int} {tgt : Nat} (hd : decode cc pc = .ok (.ifCond .ne off, 3)) (ht : (pc : Int) + off = (tgt : Int)) (kt : ¬ x = 0 → V p l e R s m args below meth c Q D A nL cells slots n ad E tgt lo st) (kf : x = 0 → V p l e R s m args below meth c Q D A nL cells slots n ad E (pc + 3) lo st) : V p l e R s m args below meth c Q D A nL cells slots n ad E pc lo (.int x :: st) := fun H locs ls hP hD hS hl => lv_if_ne C.x C.b hd ht (fun h => kt h H locs ls hP hD hS hl) (fun h => kf h H locs ls hP hD hS hl)
theorem r_icmp_ne (C : fC p s m args meth c cc nL own ret D cA A) {x y : Int32} {off : Int} {tgt : Nat} (hd : decode cc pc = .ok (.if_icmp .ne off, 3)) (ht : (pc : Int) + off = (tgt : Int)) (kt : ¬ x = y → V p l e R s m args below meth c Q D A nL cells slots n ad E tgt lo st) (kf : x = y → V p l e R s m args below meth c Q D A nL cells slots n ad E (pc + 3) lo st) : V p l e R s m args below meth c Q D A nL cells slots n ad E pc lo (.int y :: .int x :: st) := fun H locs ls hP hD hS hl => lv_icmp_ne C.x C.b hd ht (fun h => kt h H locs ls hP hD hS hl) (fun h => kf h H locs ls hP hD hS hl)
theorem r_if_lt (C : fC p s m args meth c cc nL own ret D cA A) {x : Int32} {off : Int} {tgt : Nat} (hd : decode cc pc = .ok (.ifCond .lt off, 3)) (ht : (pc : Int) + off = (tgt : Int)) (kt : x < 0 → V p l e R s m args below meth c Q D A nL cells slots n ad E tgt lo st) (kf : ¬ x < 0 → V p l e R s m args below meth c Q D A nL cells slots n ad E (pc + 3) lo st) : V p l e R s m args below meth c Q D A nL cells slots n ad E pc lo (.int x :: st) := fun H locs ls hP hD hS hl => lv_if_lt C.x C.b hd ht (fun h => kt h H locs ls hP hD hS hl) (fun h => kf h H locs ls hP hD hS hl)
theorem r_icmp_lt (C : fC p s m args meth c cc nL own ret D cA A) {x y : Int32} {off : Int} {tgt : Nat} (hd : decode cc pc = .ok (.if_icmp .lt off, 3)) (ht : (pc : Int) + off = (tgt : Int)) (kt : x < y → V p l e R s m args below meth c Q D A nL cells slots n ad E tgt lo st) (kf : ¬ x < y → V p l e R s m args below meth c Q D A nL cells slots n ad E (pc + 3) lo st) : V p l e R s m args below meth c Q D A nL cells slots n ad E pc lo (.int y :: .int x :: st) := fun H locs ls hP hD hS hl => lv_icmp_lt C.x C.b hd ht (fun h => kt h H locs ls hP hD hS hl) (fun h => kf h H locs ls hP hD hS hl)
theorem r_if_ge (C : fC p s m args meth c cc nL own ret D cA A) {x : Int32} {off : Int} {tgt : Nat} (hd : decode cc pc = .ok (.ifCond .ge off, 3)) (ht : (pc : Int) + off = (tgt : Int)) (kt : 0 ≤ x → V p l e R s m args below meth c Q D A nL cells slots n ad E tgt lo st) (kf : ¬ 0 ≤ x → V p l e R s m args below meth c Q D A nL cells slots n ad E (pc + 3) lo st) : V p l e R s m args below meth c Q D A nL cells slots n ad E pc lo (.int x :: st) := fun H locs ls hP hD hS hl => lv_if_ge C.x C.b hd ht (fun h => kt h H locs ls hP hD hS hl) (fun h => kf h H locs ls hP hD hS hl)
theorem r_icmp_ge (C : fC p s m args meth c cc nL own ret D cA A) {x y : Int32} {off : Int} {tgt : Nat} (hd : decode cc pc = .ok (.if_icmp .ge off, 3)) (ht : (pc : Int) + off = (tgt : Int)) (kt : y ≤ x → V p l e R s m args below meth c Q D A nL cells slots n ad E tgt lo st) (kf : ¬ y ≤ x → V p l e R s m args below meth c Q D A nL cells slots n ad E (pc + 3) lo st) : V p l e R s m args below meth c Q D A nL cells slots n ad E pc lo (.int y :: .int x :: st) := fun H locs ls hP hD hS hl => lv_icmp_ge C.x C.b hd ht (fun h => kt h H locs ls hP hD hS hl) (fun h => kf h H locs ls hP hD hS hl)
theorem r_if_gt (C : fC p s m args meth c cc nL own ret D cA A) {x : Int32} {off : Int} {tgt : Nat} (hd : decode cc pc = .ok (.ifCond .gt off, 3)) (ht : (pc : Int) + off = (tgt : Int)) (kt : 0 < x → V p l e R s m args below meth c Q D A nL cells slots n ad E tgt lo st) (kf : ¬ 0 < x → V p l e R s m args below meth c Q D A nL cells slots n ad E (pc + 3) lo st) : V p l e R s m args below meth c Q D A nL cells slots n ad E pc lo (.int x :: st) := fun H locs ls hP hD hS hl => lv_if_gt C.x C.b hd ht (fun h => kt h H locs ls hP hD hS hl) (fun h => kf h H locs ls hP hD hS hl)
theorem r_icmp_gt (C : fC p s m args meth c cc nL own ret D cA A) {x y : Int32} {off : Int} {tgt : Nat} (hd : decode cc pc = .ok (.if_icmp .gt off, 3)) (ht : (pc : Int) + off = (tgt : Int)) (kt : y < x → V p l e R s m args below meth c Q D A nL cells slots n ad E tgt lo st) (kf : ¬ y < x → V p l e R s m args below meth c Q D A nL cells slots n ad E (pc + 3) lo st) : V p l e R s m args below meth c Q D A nL cells slots n ad E pc lo (.int y :: .int x :: st) := fun H locs ls hP hD hS hl => lv_icmp_gt C.x C.b hd ht (fun h => kt h H locs ls hP hD hS hl) (fun h => kf h H locs ls hP hD hS hl)
theorem r_if_le (C : fC p s m args meth c cc nL own ret D cA A) {x : Int32} {off : Int} {tgt : Nat} (hd : decode cc pc = .ok (.ifCond .le off, 3)) (ht : (pc : Int) + off = (tgt : Int)) (kt : x ≤ 0 → V p l e R s m args below meth c Q D A nL cells slots n ad E tgt lo st) (kf : ¬ x ≤ 0 → V p l e R s m args below meth c Q D A nL cells slots n ad E (pc + 3) lo st) : V p l e R s m args below meth c Q D A nL cells slots n ad E pc lo (.int x :: st) := fun H locs ls hP hD hS hl => lv_if_le C.x C.b hd ht (fun h => kt h H locs ls hP hD hS hl) (fun h => kf h H locs ls hP hD hS hl)
theorem r_icmp_le (C : fC p s m args meth c cc nL own ret D cA A) {x y : Int32} {off : Int} {tgt : Nat} (hd : decode cc pc = .ok (.if_icmp .le off, 3)) (ht : (pc : Int) + off = (tgt : Int)) (kt : x ≤ y → V p l e R s m args below meth c Q D A nL cells slots n ad E tgt lo st) (kf : ¬ x ≤ y → V p l e R s m args below meth c Q D A nL cells slots n ad E (pc + 3) lo st) : V p l e R s m args below meth c Q D A nL cells slots n ad E pc lo (.int y :: .int x :: st) := fun H locs ls hP hD hS hl => lv_icmp_le C.x C.b hd ht (fun h => kt h H locs ls hP hD hS hl) (fun h => kf h H locs ls hP hD hS hl)
theorem r_tabIn (C : fC p s m args meth c cc nL own ret D cA A) {dflt lo0 hi : Int} {offs : Array Int} {len : Nat} {x : Int32} {off : Int} {tgt : Nat} (hd : decode cc pc = .ok (.tableswitch dflt lo0 hi offs, len)) (h1 : ¬ x.toInt < lo0) (h2 : ¬ hi < x.toInt) (ho : offs[(x.toInt - lo0).toNat]? = some off) (ht : (pc : Int) + off = (tgt : Int)) (k : V p l e R s m args below meth c Q D A nL cells slots n ad E tgt lo st) : V p l e R s m args below meth c Q D A nL cells slots n ad E pc lo (.int x :: st) := fun H locs ls hP hD hS hl => lv_tableIn C.x C.b hd h1 h2 ho ht (k H locs ls hP hD hS hl)
theorem r_tabOut (C : fC p s m args meth c cc nL own ret D cA A) {dflt lo0 hi : Int} {offs : Array Int} {len : Nat} {x : Int32} {tgt : Nat} (hd : decode cc pc = .ok (.tableswitch dflt lo0 hi offs, len)) (h : x.toInt < lo0 ∨ hi < x.toInt) (ht : (pc : Int) + dflt = (tgt : Int)) (k : V p l e R s m args below meth c Q D A nL cells slots n ad E tgt lo st) : V p l e R s m args below meth c Q D A nL cells slots n ad E pc lo (.int x :: st) := fun H locs ls hP hD hS hl => lv_tableOut C.x C.b hd h ht (k H locs ls hP hD hS hl)
theorem r_lookup (C : fC p s m args meth c cc nL own ret D cA A) {dflt : Int} {ps : Array (Int × Int)} {len : Nat} {x : Int32} {off : Int} {tgt : Nat} (hd : decode cc pc = .ok (.lookupswitch dflt ps, len)) (hp : (ps.toList.zip (ps.toList.drop 1)).all (fun (a, next) => a.1 < next.1) = true) (ho : Op.lookupswitch.offset ps.toList dflt x.toInt = off) (ht : (pc : Int) + off = (tgt : Int)) (k : V p l e R s m args below meth c Q D A nL cells slots n ad E tgt lo st) : V p l e R s m args below meth c Q D A nL cells slots n ad E pc lo (.int x :: st) := fun H locs ls hP hD hS hl => lv_lookup C.x C.b hd hp ho ht (k H locs ls hP hD hS hl)

end FM
