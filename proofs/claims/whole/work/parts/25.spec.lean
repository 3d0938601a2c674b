/-! WHAT EACH CALL COMES TO. -/
abbrev UNK : Int32 := -100000001
abbrev OUTS : Int32 := -100000002
abbrev NOTT : Int32 := -100000003
abbrev FULLL : Int32 := -100000004
def anN (a b : Nat) : Nat := a ^^^ (a &&& b)
theorem anN_bit (a b i : Nat) : (anN a b).testBit i = (a.testBit i && !(b.testBit i)) := by
  unfold anN
  rw [Nat.testBit_xor, Nat.testBit_and]
  cases a.testBit i <;> cases b.testBit i <;> rfl
theorem anN_lt {a b k : Nat} (h : a < 2 ^ k) : anN a b < 2 ^ k := Nat.xor_lt_two_pow h (Nat.lt_of_le_of_lt Nat.and_le_left h)
theorem nI_not {a b : Nat} (ha : a < 2 ^ 32) : nI a &&& (nI b ^^^ (-1)) = nI (anN a b) := by
  rw [show (-1 : Int32) = nI (2 ^ 32 - 1) by decide, nx_xor, fa_and]
  congr 1
  apply Nat.eq_of_testBit_eq
  intro i
  rw [anN_bit, Nat.testBit_and, Nat.testBit_xor, Nat.testBit_two_pow_sub_one]
  by_cases h : i < 32
  · rw [decide_eq_true h, Bool.xor_true]
  · rw [Nat.testBit_lt_two_pow (Nat.lt_of_lt_of_le ha (Nat.pow_le_pow_right (by decide) (by omega)))]; rfl
theorem anN_0 {a b : Nat} : anN a b = 0 ↔ a &&& b = a := by
  constructor
  · intro h
    apply Nat.eq_of_testBit_eq
    intro i
    have h2 := anN_bit a b i
    rw [h, Nat.zero_testBit] at h2
    rw [Nat.testBit_and]
    revert h2
    cases a.testBit i <;> cases b.testBit i <;> decide
  · intro h
    unfold anN
    rw [h, Nat.xor_self]
def anyB (p : Nat → Bool) : Nat → Bool
  | 0 => false
  | k + 1 => anyB p k || p k
theorem anyB_t {p : Nat → Bool} : ∀ n, anyB p n = true ↔ ∃ i, i < n ∧ p i = true
  | 0 => ⟨fun h => by cases h, fun ⟨i, h, _⟩ => absurd h (Nat.not_lt_zero _)⟩
  | k + 1 => by
    show (anyB p k || p k) = true ↔ _
    rw [Bool.or_eq_true, anyB_t k]
    constructor
    · rintro (⟨i, h1, h2⟩ | h)
      · exact ⟨i, by omega, h2⟩
      · exact ⟨k, by omega, h⟩
    · rintro ⟨i, h1, h2⟩
      by_cases e : i = k
      · subst e; exact Or.inr h2
      · exact Or.inl ⟨i, by omega, h2⟩
theorem anyB_f {p : Nat → Bool} {n : Nat} : anyB p n = false ↔ ∀ i, i < n → p i = false := by
  constructor
  · intro h i hi
    cases e : p i
    · rfl
    · rw [(anyB_t n).mpr ⟨i, hi, e⟩] at h; cases h
  · intro h
    cases e : anyB p n
    · rfl
    · obtain ⟨i, h1, h2⟩ := (anyB_t n).mp e
      rw [h i h1] at h2; cases h2
theorem ct_all {p : Nat → Bool} : ∀ n, fb_ct p n = n ↔ ∀ i, i < n → p i = true
  | 0 => ⟨fun _ i h => absurd h (Nat.not_lt_zero _), fun _ => rfl⟩
  | k + 1 => by
    rw [fb_ct_succ]
    have h1 := fb_ct_le p k
    have ih := ct_all (p := p) k
    constructor
    · intro h i hi
      cases e : p k
      · rw [e] at h; simp at h; omega
      · rw [e] at h
        by_cases e2 : i = k
        · subst e2; exact e
        · exact ih.mp (by simp at h; exact h) i (by omega)
    · intro h
      rw [h k (by omega), ih.mpr (fun i hi => h i (by omega))]
      rfl
theorem ct_none {p : Nat → Bool} : ∀ n, fb_ct p n = 0 ↔ ∀ i, i < n → p i = false
  | 0 => ⟨fun _ i h => absurd h (Nat.not_lt_zero _), fun _ => rfl⟩
  | k + 1 => by
    rw [fb_ct_succ]
    have ih := ct_none (p := p) k
    constructor
    · intro h i hi
      cases e : p k
      · by_cases e2 : i = k
        · subst e2; exact e
        · exact ih.mp (by omega) i (by omega)
      · rw [e] at h; simp at h
    · intro h
      rw [h k (by omega), ih.mpr (fun i hi => h i (by omega))]
      rfl
/-- 1: by all ways, 0: by none, else -1 -/
def surF (C : List Nat) (Φ : Nat → FS) : Int32 := if anyB (fun i => !(evC C (soN Φ (pd i (opN Φ))))) (2 ^ pc (opN Φ)) = false then nI 1 else if anyB (fun i => evC C (soN Φ (pd i (opN Φ)))) (2 ^ pc (opN Φ)) = false then nI 0 else -1
def tnB (C : List Nat) (Φ : Nat → FS) (f : Nat) : Bool := anyB (fun i => evC C (soN Φ (pd i (anN (opN Φ) (2 ^ f)) ||| 2 ^ f)) != evC C (soN Φ (pd i (anN (opN Φ) (2 ^ f))))) (2 ^ pc (anN (opN Φ) (2 ^ f)))
def enB (C : List Nat) (Φ : Nat → FS) (S : Nat) : Bool := !(anyB (fun i => !(evC C (soN Φ (pd i (anN (opN Φ) S) ||| S)))) (2 ^ pc (anN (opN Φ) S)))
def cgB (C : List Nat) (Φ : Nat → FS) (S : Nat) (held : Bool) : Bool := anyB (fun i => evC C (soN Φ (pd i (opN Φ)) ^^^ S) != held) (2 ^ pc (opN Φ))
/-- the first of the fewest, among the first i sets within w; -1: there is none -/
def fwN (P : Nat → Bool) (w : Nat) : Nat → Option Nat
  | 0 => none
  | i + 1 => if ((fwN P w i).all (fun f => decide (pc (pd i w) < pc f)) && P (pd i w)) = true then some (pd i w) else fwN P w i
def ofO : Option Nat → Int32
  | none => -1
  | some s => nI s
/-- worth to a side less what its set costs -/
def gnF (cl : Clm) (k : Prf) (Φ : Nat → FS) (s S O : Nat) : Int32 := (if s = 0 then wtF cl k Φ (bS k.2.2.2.2.2 k.1 ||| S ||| O) else -(wtF cl k Φ (bS k.2.2.2.2.2 k.1 ||| S ||| O))) - nI 1000 * nI (csN k.2.2.2.2.1 S k.1)
def chQ (k : Prf) (s j : Nat) : Bool := decide (k.2.1 j = s) && !(k.2.2.2.2.2 j)
def bsN (G : Nat → Int32) (K : Nat → Nat) (m w : Nat) : Nat → Nat × Nat × Int32
  | 0 => (0, 0, G 0)
  | i + 1 => if K (pd (i + 1) w) ≤ m ∧ ((bsN G K m w i).2.2 < G (pd (i + 1) w) ∨ G (pd (i + 1) w) = (bsN G K m w i).2.2 ∧ K (pd (i + 1) w) < (bsN G K m w i).2.1) then (pd (i + 1) w, K (pd (i + 1) w), G (pd (i + 1) w)) else bsN G K m w i
def rpN (G : Nat → Int32) (w : Nat) : Nat → Nat × Int32
  | 0 => (0, G 0)
  | i + 1 => if (rpN G w i).2 < G (pd (i + 1) w) then (pd (i + 1) w, G (pd (i + 1) w)) else rpN G w i
def bsF (cl : Clm) (k : Prf) (Φ : Nat → FS) (s m : Nat) : Nat := (bsN (fun S => gnF cl k Φ s S 0) (fun S => csN k.2.2.2.2.1 S k.1) m (chS (chQ k s) 8 k.1) (2 ^ pc (chS (chQ k s) 8 k.1) - 1)).1
def rpF (cl : Clm) (k : Prf) (Φ : Nat → FS) (s lead : Nat) : Nat := (rpN (fun S => gnF cl k Φ s S lead) (chS (chQ k s) 4 k.1) (2 ^ pc (chS (chQ k s) 4 k.1) - 1)).1
def ldF (cl : Clm) (k : Prf) (Φ : Nat → FS) (s : Nat) : Nat := (rpN (fun S => gnF cl k Φ s S (rpF cl k Φ (1 - s) S)) (chS (chQ k s) 4 k.1) (2 ^ pc (chS (chQ k s) 4 k.1) - 1)).1
theorem bsN_set {G : Nat → Int32} {K : Nat → Nat} {m w : Nat} : ∀ i, ∃ j, (bsN G K m w i).1 = pd j w
  | 0 => ⟨0, (pd_0 w).symm⟩
  | i + 1 => by
    unfold bsN
    split
    · exact ⟨i + 1, rfl⟩
    · exact bsN_set i
theorem rpN_set {G : Nat → Int32} {w : Nat} : ∀ i, ∃ j, (rpN G w i).1 = pd j w
  | 0 => ⟨0, (pd_0 w).symm⟩
  | i + 1 => by
    unfold rpN
    split
    · exact ⟨i + 1, rfl⟩
    · exact rpN_set i
theorem chS_16 {q : Nat → Bool} {m k : Nat} (h : k ≤ 16) : chS q m k < 65536 := Nat.lt_of_lt_of_le (chS_lt k) (Nat.pow_le_pow_right (m := 16) (by decide) h)
theorem bsF_lt {cl : Clm} {k : Prf} {Φ : Nat → FS} {s m : Nat} (h : k.1 ≤ 16) : bsF cl k Φ s m < 65536 := by
  unfold bsF
  obtain ⟨j, hj⟩ := bsN_set (G := fun S => gnF cl k Φ s S 0) (K := fun S => csN k.2.2.2.2.1 S k.1) (m := m) (w := chS (chQ k s) 8 k.1) (2 ^ pc (chS (chQ k s) 8 k.1) - 1)
  rw [hj]
  exact pd_lt (chS_16 h)
theorem rpF_lt {cl : Clm} {k : Prf} {Φ : Nat → FS} {s lead : Nat} (h : k.1 ≤ 16) : rpF cl k Φ s lead < 65536 := by
  unfold rpF
  obtain ⟨j, hj⟩ := rpN_set (G := fun S => gnF cl k Φ s S lead) (w := chS (chQ k s) 4 k.1) (2 ^ pc (chS (chQ k s) 4 k.1) - 1)
  rw [hj]
  exact pd_lt (chS_16 h)
theorem ldF_lt {cl : Clm} {k : Prf} {Φ : Nat → FS} {s : Nat} (h : k.1 ≤ 16) : ldF cl k Φ s < 65536 := by
  unfold ldF
  obtain ⟨j, hj⟩ := rpN_set (G := fun S => gnF cl k Φ s S (rpF cl k Φ (1 - s) S)) (w := chS (chQ k s) 4 k.1) (2 ^ pc (chS (chQ k s) 4 k.1) - 1)
  rw [hj]
  exact pd_lt (chS_16 h)
/-- the next seed, and what it draws of a thousand -/
def drS (s : Nat) : Nat := (s * 1103515245 + 12345) % 2147483648
def drV (s : Nat) : Nat := drS s / 65536 % 1000
/-- seed and what is shown behind the first facts -/
def trN (op : Nat) (sh : Nat → Nat) (s : Nat) : Nat → Nat × Nat
  | 0 => (s, 0)
  | f + 1 => if op.testBit f = true then (drS (trN op sh s f).1, if drV (trN op sh s f).1 < sh f then (trN op sh s f).2 ||| 2 ^ f else (trN op sh s f).2) else trN op sh s f
theorem drS_lt (s : Nat) : drS s < 2 ^ 31 := Nat.mod_lt _ (by decide)
theorem trN_ok {op : Nat} {sh : Nat → Nat} {s : Nat} (hs : s < 2 ^ 31) : ∀ f, (trN op sh s f).1 < 2 ^ 31 ∧ (trN op sh s f).2 < 2 ^ f
  | 0 => ⟨hs, by show 0 < 1; decide⟩
  | f + 1 => by
    have ih := trN_ok (op := op) (sh := sh) hs f
    unfold trN
    split
    · refine ⟨drS_lt _, ?_⟩
      show (if _ then _ else _) < _
      split
      · exact or_lt2 ih.2
      · rw [Nat.pow_succ]; omega
    · exact ⟨ih.1, by rw [Nat.pow_succ]; omega⟩
/-! the state: the suit, the images, whether they are kept, the text, its length, the fault's place -/
abbrev St : Type := Su × (Nat → Su) × (Nat → Bool) × (Nat → Nat) × Nat × Int32
abbrev sCl (τ : St) : Clm := τ.1.1
abbrev sPp (τ : St) : Pps := τ.1.2.1
abbrev sPk (τ : St) : Prf := τ.1.2.2.1
abbrev sDu (τ : St) : Nat := τ.1.2.2.2.1
abbrev sSe (τ : St) : Nat := τ.1.2.2.2.2
abbrev sIm (τ : St) : Nat → Su := τ.2.1
abbrev sKp (τ : St) : Nat → Bool := τ.2.2.1
abbrev sT (τ : St) : Nat → Nat := τ.2.2.2.1
abbrev sL (τ : St) : Nat := τ.2.2.2.2.1
abbrev sF (τ : St) : Int32 := τ.2.2.2.2.2
abbrev phS (p : Pps) : Nat → FS := fun f => stF p.2.2.2 p.2.2.1 f p.1
abbrev sPhi (τ : St) : Nat → FS := phS (sPp τ)
def s0Su : Su := ((0, fun _ => nI 0, fun _ => []), (0, fun _ => 0, fun _ => false, fun _ _ => 0), (0, fun _ => 0, fun _ => 0, fun _ => 0, fun _ => 0, fun _ => false), 20, 0)
def s0 : St := (s0Su, fun _ => s0Su, fun _ => false, fun _ => 0, 0, -1)
def cN (x : Int32) : Nat := x.toNatClampNeg
def vdN (x : Int32) (n : Nat) : Prop := 0 ≤ x ∧ x < nI n
theorem cN_n {a : Nat} (h : a < 2 ^ 31) : cN (nI a) = a := nI_clamp h
theorem vd_of {x : Int32} {n : Nat} (hn : n < 2 ^ 31) (h : vdN x n) : ∃ k, k < n ∧ x = nI k := by
  obtain ⟨h0, h1⟩ := h
  rw [fa_le] at h0
  rw [fa_lt, nI_toI hn] at h1
  have h0 : 0 ≤ x.toInt := h0
  refine ⟨x.toInt.toNat, by omega, ?_⟩
  rw [fa_eq, nI_toI (by omega)]
  omega
theorem vd_n {k n : Nat} (hk : k < n) (hn : n < 2 ^ 31) : vdN (nI k) n := ⟨nI_pos' (by omega), nI_lt hk hn⟩
/-! the answers -/
def q_count (τ : St) (y : Int32) : Int32 := if y = nI 0 then nI (sCl τ).1 else if y = nI 1 then nI (sPp τ).1 else if y = nI 2 then nI (sPk τ).1 else if y = nI 3 then nI (sL τ) else if y = nI 4 then nI (fb_ct (fun f => decide (sPhi τ f 0 = nI 0)) 12) else if y = nI 5 then nI (fb_ct (fun f => decide (sPhi τ f 0 = nI 1)) 12) else if y = nI 6 then nI (fb_ct (fun f => decide (sPhi τ f 0 = nI 2)) 12) else if y = nI 7 then nI (fb_ct (fun f => decide (sPhi τ f 0 = nI 3)) 12) else if y = nI 8 then nI (fb_ct (fun f => decide (sPhi τ f 0 = nI 4)) 12) else OUTS
open Classical in
noncomputable def q_fact (τ : St) (x y : Int32) : Int32 := if vdN x 12 then (if y = nI 0 then sPhi τ (cN x) 0 else if y = nI 1 then sPhi τ (cN x) 1 else if y = nI 2 then sPhi τ (cN x) 2 else if y = nI 3 then sPhi τ (cN x) 3 else if y = nI 4 then sPhi τ (cN x) 4 else OUTS) else UNK
