/-! WHAT EACH CALL COMES TO. -/
abbrev UNK : Int32 := -100000001
abbrev OUTS : Int32 := -100000002
abbrev NOTT : Int32 := -100000003
abbrev FULLL : Int32 := -100000004
theorem anN_0 {a b : Nat} : anN a b = 0 ↔ a &&& b = a := by
  constructor
  · intro h
    apply Nat.eq_of_testBit_eq
    intro i
    have h2 := anN_bit a b i
    rw [h, Nat.zero_testBit] at h2
    rw [Nat.testBit_and]
    revert h2
    cases a.testBit i <;> cases b.testBit i <;> decide
  · intro h
    unfold anN
    rw [h, Nat.xor_self]
def anyB (p : Nat → Bool) : Nat → Bool
  | 0 => false
  | k + 1 => anyB p k || p k
theorem anyB_t {p : Nat → Bool} : ∀ n, anyB p n = true ↔ ∃ i, i < n ∧ p i = true
  | 0 => Iff.intro (fun h => Bool.noConfusion h) (fun h => Exists.elim h (fun i hi => absurd hi.1 (Nat.not_lt_zero _)))
  | k + 1 => by
    show (anyB p k || p k) = true ↔ _
    rw [Bool.or_eq_true, anyB_t k]
    constructor
    · rintro (⟨i, h1, h2⟩ | h)
      · exact ⟨i, by omega, h2⟩
      · exact ⟨k, by omega, h⟩
    · rintro ⟨i, h1, h2⟩
      by_cases e : i = k
      · subst e; exact Or.inr h2
      · exact Or.inl ⟨i, by omega, h2⟩
theorem anyB_f {p : Nat → Bool} {n : Nat} : anyB p n = false ↔ ∀ i, i < n → p i = false := by
  constructor
  · intro h i hi
    cases e : p i
    · rfl
    · rw [(anyB_t n).mpr ⟨i, hi, e⟩] at h; cases h
  · intro h
    cases e : anyB p n
    · rfl
    · obtain ⟨i, h1, h2⟩ := (anyB_t n).mp e
      rw [h i h1] at h2; cases h2
theorem ct_all {p : Nat → Bool} : ∀ n, fb_ct p n = n ↔ ∀ i, i < n → p i = true
  | 0 => ⟨fun _ i h => absurd h (Nat.not_lt_zero _), fun _ => rfl⟩
  | k + 1 => by
    rw [fb_ct_succ]
    have h1 := fb_ct_le p k
    have ih := ct_all (p := p) k
    constructor
    · intro h i hi
      cases e : p k
      · rw [e] at h; simp at h; omega
      · rw [e] at h
        by_cases e2 : i = k
        · subst e2; exact e
        · exact ih.mp (by simp at h; exact h) i (by omega)
    · intro h
      rw [h k (by omega), ih.mpr (fun i hi => h i (by omega))]
      rfl
theorem ct_none {p : Nat → Bool} : ∀ n, fb_ct p n = 0 ↔ ∀ i, i < n → p i = false
  | 0 => ⟨fun _ i h => absurd h (Nat.not_lt_zero _), fun _ => rfl⟩
  | k + 1 => by
    rw [fb_ct_succ]
    have ih := ct_none (p := p) k
    constructor
    · intro h i hi
      cases e : p k
      · by_cases e2 : i = k
        · subst e2; exact e
        · exact ih.mp (by omega) i (by omega)
      · rw [e] at h; simp at h
    · intro h
      rw [h k (by omega), ih.mpr (fun i hi => h i (by omega))]
      rfl
/-- 1: by all ways, 0: by none, else -1 -/
def surF (C : List Nat) (Φ : Nat → FS) : Int32 := if anyB (fun i => !(evC C (soN Φ (pd i (opN Φ))))) (2 ^ pc (opN Φ)) = false then nI 1 else if anyB (fun i => evC C (soN Φ (pd i (opN Φ)))) (2 ^ pc (opN Φ)) = false then nI 0 else -1
def tnB (C : List Nat) (Φ : Nat → FS) (f : Nat) : Bool := anyB (fun i => evC C (soN Φ (pd i (anN (opN Φ) (2 ^ f)) ||| 2 ^ f)) != evC C (soN Φ (pd i (anN (opN Φ) (2 ^ f))))) (2 ^ pc (anN (opN Φ) (2 ^ f)))
def enB (C : List Nat) (Φ : Nat → FS) (S : Nat) : Bool := !(anyB (fun i => !(evC C (soN Φ (pd i (anN (opN Φ) S) ||| S)))) (2 ^ pc (anN (opN Φ) S)))
def cgB (C : List Nat) (Φ : Nat → FS) (S : Nat) (held : Bool) : Bool := anyB (fun i => evC C (soN Φ (pd i (opN Φ)) ^^^ S) != held) (2 ^ pc (opN Φ))
/-- the first of the fewest, among the first i sets within w; -1: there is none -/
def fwN (P : Nat → Bool) (w : Nat) : Nat → Option Nat
  | 0 => none
  | i + 1 => if ((fwN P w i).all (fun f => decide (pc (pd i w) < pc f)) && P (pd i w)) = true then some (pd i w) else fwN P w i
def ofO : Option Nat → Int32
  | none => -1
  | some s => nI s
/-- worth to a side less what its set costs -/
def gnF (cl : Clm) (k : Prf) (Φ : Nat → FS) (s S O : Nat) : Int32 := (if s = 0 then wtF cl k Φ (bS k.2.2.2.2.2 k.1 ||| S ||| O) else -(wtF cl k Φ (bS k.2.2.2.2.2 k.1 ||| S ||| O))) - nI 1000 * nI (csN k.2.2.2.2.1 S k.1)
def chQ (k : Prf) (s j : Nat) : Bool := decide (k.2.1 j = s) && !(k.2.2.2.2.2 j)
def bsN (G : Nat → Int32) (K : Nat → Nat) (m w : Nat) : Nat → Nat × Nat × Int32
  | 0 => (0, 0, G 0)
  | i + 1 => if K (pd (i + 1) w) ≤ m ∧ ((bsN G K m w i).2.2 < G (pd (i + 1) w) ∨ G (pd (i + 1) w) = (bsN G K m w i).2.2 ∧ K (pd (i + 1) w) < (bsN G K m w i).2.1) then (pd (i + 1) w, K (pd (i + 1) w), G (pd (i + 1) w)) else bsN G K m w i
def rpN (G : Nat → Int32) (w : Nat) : Nat → Nat × Int32
  | 0 => (0, G 0)
  | i + 1 => if (rpN G w i).2 < G (pd (i + 1) w) then (pd (i + 1) w, G (pd (i + 1) w)) else rpN G w i
def bsF (cl : Clm) (k : Prf) (Φ : Nat → FS) (s m : Nat) : Nat := (bsN (fun S => gnF cl k Φ s S 0) (fun S => csN k.2.2.2.2.1 S k.1) m (chS (chQ k s) 8 k.1) (2 ^ pc (chS (chQ k s) 8 k.1) - 1)).1
def rpF (cl : Clm) (k : Prf) (Φ : Nat → FS) (s lead : Nat) : Nat := (rpN (fun S => gnF cl k Φ s S lead) (chS (chQ k s) 4 k.1) (2 ^ pc (chS (chQ k s) 4 k.1) - 1)).1
def ldF (cl : Clm) (k : Prf) (Φ : Nat → FS) (s : Nat) : Nat := (rpN (fun S => gnF cl k Φ s S (rpF cl k Φ (1 - s) S)) (chS (chQ k s) 4 k.1) (2 ^ pc (chS (chQ k s) 4 k.1) - 1)).1
theorem bsN_set {G : Nat → Int32} {K : Nat → Nat} {m w : Nat} : ∀ i, ∃ j, (bsN G K m w i).1 = pd j w
  | 0 => ⟨0, (pd_0 w).symm⟩
  | i + 1 => by
    unfold bsN
    split
    · exact ⟨i + 1, rfl⟩
    · exact bsN_set i
theorem rpN_set {G : Nat → Int32} {w : Nat} : ∀ i, ∃ j, (rpN G w i).1 = pd j w
  | 0 => ⟨0, (pd_0 w).symm⟩
  | i + 1 => by
    unfold rpN
    split
    · exact ⟨i + 1, rfl⟩
    · exact rpN_set i
theorem chS_16 {q : Nat → Bool} {m k : Nat} (h : k ≤ 16) : chS q m k < 65536 := Nat.lt_of_lt_of_le (chS_lt k) (show 2 ^ k ≤ 2 ^ 16 from Nat.pow_le_pow_right (by decide) h)
theorem bsF_lt {cl : Clm} {k : Prf} {Φ : Nat → FS} {s m : Nat} (h : k.1 ≤ 16) : bsF cl k Φ s m < 65536 := by
  unfold bsF
  obtain ⟨j, hj⟩ := bsN_set (G := fun S => gnF cl k Φ s S 0) (K := fun S => csN k.2.2.2.2.1 S k.1) (m := m) (w := chS (chQ k s) 8 k.1) (2 ^ pc (chS (chQ k s) 8 k.1) - 1)
  rw [hj]
  exact pd_lt (chS_16 h)
theorem rpF_lt {cl : Clm} {k : Prf} {Φ : Nat → FS} {s lead : Nat} (h : k.1 ≤ 16) : rpF cl k Φ s lead < 65536 := by
  unfold rpF
  obtain ⟨j, hj⟩ := rpN_set (G := fun S => gnF cl k Φ s S lead) (w := chS (chQ k s) 4 k.1) (2 ^ pc (chS (chQ k s) 4 k.1) - 1)
  rw [hj]
  exact pd_lt (chS_16 h)
theorem ldF_lt {cl : Clm} {k : Prf} {Φ : Nat → FS} {s : Nat} (h : k.1 ≤ 16) : ldF cl k Φ s < 65536 := by
  unfold ldF
  obtain ⟨j, hj⟩ := rpN_set (G := fun S => gnF cl k Φ s S (rpF cl k Φ (1 - s) S)) (w := chS (chQ k s) 4 k.1) (2 ^ pc (chS (chQ k s) 4 k.1) - 1)
  rw [hj]
  exact pd_lt (chS_16 h)
/-- the next seed, and what it draws of a thousand -/
def drS (s : Nat) : Nat := (s * 1103515245 + 12345) % 2147483648
def drV (s : Nat) : Nat := drS s / 65536 % 1000
/-- seed and what is shown behind the first facts -/
def trN (op : Nat) (sh : Nat → Nat) (s : Nat) : Nat → Nat × Nat
  | 0 => (s, 0)
  | f + 1 => if op.testBit f = true then (drS (trN op sh s f).1, if drV (trN op sh s f).1 < sh f then (trN op sh s f).2 ||| 2 ^ f else (trN op sh s f).2) else trN op sh s f
theorem drS_lt (s : Nat) : drS s < 2 ^ 31 := Nat.mod_lt _ (by decide)
theorem trN_ok {op : Nat} {sh : Nat → Nat} {s : Nat} (hs : s < 2 ^ 31) : ∀ f, (trN op sh s f).1 < 2 ^ 31 ∧ (trN op sh s f).2 < 2 ^ f
  | 0 => ⟨hs, by show 0 < 1; decide⟩
  | f + 1 => by
    have ih := trN_ok (op := op) (sh := sh) hs f
    unfold trN
    split
    · refine ⟨drS_lt _, ?_⟩
      show (if _ then _ else _) < _
      split
      · exact or_lt2 ih.2
      · rw [Nat.pow_succ]; omega
    · exact ⟨ih.1, by rw [Nat.pow_succ]; omega⟩
/-! the state: the suit, the images, whether they are kept, the text, its length, the fault's place -/
abbrev St : Type := Su × (Nat → Su) × (Nat → Bool) × (Nat → Nat) × Nat × Int32
abbrev sCl (τ : St) : Clm := τ.1.1
abbrev sPp (τ : St) : Pps := τ.1.2.1
abbrev sPk (τ : St) : Prf := τ.1.2.2.1
abbrev sDu (τ : St) : Nat := τ.1.2.2.2.1
abbrev sSe (τ : St) : Nat := τ.1.2.2.2.2
abbrev sIm (τ : St) : Nat → Su := τ.2.1
abbrev sKp (τ : St) : Nat → Bool := τ.2.2.1
abbrev sT (τ : St) : Nat → Nat := τ.2.2.2.1
abbrev sL (τ : St) : Nat := τ.2.2.2.2.1
abbrev sF (τ : St) : Int32 := τ.2.2.2.2.2
abbrev phS (p : Pps) : Nat → FS := fun f => stF p.2.2.2 p.2.2.1 f p.1
abbrev sPhi (τ : St) : Nat → FS := phS (sPp τ)
def s0Su : Su := ((0, fun _ => nI 0, fun _ => []), (0, fun _ => 0, fun _ => false, fun _ _ => 0), (0, fun _ => 0, fun _ => 0, fun _ => 0, fun _ => 0, fun _ => false), 20, 0)
def s0 : St := (s0Su, fun _ => s0Su, fun _ => false, fun _ => 0, 0, -1)
def cN (x : Int32) : Nat := x.toNatClampNeg
abbrev vdN (x : Int32) (n : Nat) : Prop := 0 ≤ x ∧ x < nI n
theorem cN_n {a : Nat} (h : a < 2 ^ 31) : cN (nI a) = a := nI_clamp h
theorem vd_of {x : Int32} {n : Nat} (hn : n < 2 ^ 31) (h : vdN x n) : ∃ k, k < n ∧ x = nI k := by
  obtain ⟨h0, h1⟩ := h
  rw [fa_le] at h0
  rw [fa_lt, nI_toI hn] at h1
  have h0 : 0 ≤ x.toInt := h0
  refine ⟨x.toInt.toNat, by omega, ?_⟩
  rw [fa_eq, nI_toI (by omega)]
  omega
theorem vd_n {k n : Nat} (hk : k < n) (hn : n < 2 ^ 31) : vdN (nI k) n := ⟨nI_pos' (by omega), nI_lt hk hn⟩
/-! the answers -/
def q_count (τ : St) (y : Int32) : Int32 := if y = nI 0 then nI (sCl τ).1 else if y = nI 1 then nI (sPp τ).1 else if y = nI 2 then nI (sPk τ).1 else if y = nI 3 then nI (sL τ) else if y = nI 4 then nI (fb_ct (fun f => decide (sPhi τ f 0 = nI 0)) 12) else if y = nI 5 then nI (fb_ct (fun f => decide (sPhi τ f 0 = nI 1)) 12) else if y = nI 6 then nI (fb_ct (fun f => decide (sPhi τ f 0 = nI 2)) 12) else if y = nI 7 then nI (fb_ct (fun f => decide (sPhi τ f 0 = nI 3)) 12) else if y = nI 8 then nI (fb_ct (fun f => decide (sPhi τ f 0 = nI 4)) 12) else OUTS
def q_fact (τ : St) (x y : Int32) : Int32 := if vdN x 12 then (if y = nI 0 then sPhi τ (cN x) 0 else if y = nI 1 then sPhi τ (cN x) 1 else if y = nI 2 then sPhi τ (cN x) 2 else if y = nI 3 then sPhi τ (cN x) 3 else if y = nI 4 then sPhi τ (cN x) 4 else OUTS) else UNK
def q_told (τ : St) (x y : Int32) : Int32 := if vdN x (sCl τ).1 then (if y = nI 0 then (sCl τ).2.1 (cN x) else if y = nI 1 then nI (fsN ((sCl τ).2.2 (cN x))) else if y = nI 2 then surF ((sCl τ).2.2 (cN x)) (sPhi τ) else OUTS) else UNK
def q_heard (τ : St) (x y : Int32) : Int32 := if vdN x (sPp τ).1 then (if y = nI 0 then nI ((sPp τ).2.1 (cN x)) else if y = nI 1 then b32 ((sPp τ).2.2.1 (cN x)) else if y = nI 2 then nI (bS (fun f => decide (0 < (sPp τ).2.2.2 (cN x) f)) 12) else if y = nI 3 then nI (silF (sPp τ).2.2.2 (sPp τ).2.2.1 (cN x)) else OUTS) else UNK
def q_holds (τ : St) (x y : Int32) : Int32 := if vdN x (sCl τ).1 ∧ y &&& (nI (opN (sPhi τ)) ^^^ (-1)) = 0 then b32 (evC ((sCl τ).2.2 (cN x)) (soN (sPhi τ) (cN y))) else UNK
def q_turns (τ : St) (x : Int32) : Int32 := if vdN x (sCl τ).1 then nI (bS (fun f => (opN (sPhi τ)).testBit f && tnB ((sCl τ).2.2 (cN x)) (sPhi τ) f) 12) else UNK
def q_enough (τ : St) (x : Int32) : Int32 := if vdN x (sCl τ).1 then (if 8 < pc (opN (sPhi τ)) then NOTT else ofO (fwN (fun S => enB ((sCl τ).2.2 (cN x)) (sPhi τ) S) (opN (sPhi τ)) (2 ^ pc (opN (sPhi τ))))) else UNK
def admN (Φ : Nat → FS) (s : Nat) : Nat := bS (fun f => decide (Φ f 0 = nI 2 ∧ Φ f 2 = nI (1 - s))) 12
def q_silence (τ : St) (x y : Int32) : Int32 := if vdN x (sCl τ).1 ∧ vdN y 2 then (if surF ((sCl τ).2.2 (cN x)) (sPhi τ) = -1 then NOTT else ofO (fwN (fun S => cgB ((sCl τ).2.2 (cN x)) (sPhi τ) S (decide (surF ((sCl τ).2.2 (cN x)) (sPhi τ) = nI 1))) (admN (sPhi τ) (cN y)) (2 ^ pc (admN (sPhi τ) (cN y))))) else UNK
def q_proved (τ : St) (x y : Int32) : Int32 := if vdN x (sPk τ).1 then (if y = nI 0 then nI ((sPk τ).2.1 (cN x)) else if y = nI 1 then nI ((sPk τ).2.2.1 (cN x)) else if y = nI 2 then nI ((sPk τ).2.2.2.1 (cN x)) else if y = nI 3 then nI ((sPk τ).2.2.2.2.1 (cN x)) else if y = nI 4 then b32 ((sPk τ).2.2.2.2.2 (cN x)) else if y = nI 5 then berF ((sPk τ).2.1 (cN x)) (sPhi τ ((sPk τ).2.2.1 (cN x))) else OUTS) else UNK
abbrev brQ (k : Prf) : Nat := bS k.2.2.2.2.2 k.1
abbrev shQ (k : Prf) (Φ : Nat → FS) (B f : Nat) : Nat := shF_ B k.1 k.2.1 k.2.2.1 k.2.2.2.1 Φ f
def q_likely (τ : St) (x : Int32) : Int32 := if vdN x 12 then (if (opN (sPhi τ)).testBit (cN x) = true then nI (shQ (sPk τ) (sPhi τ) (brQ (sPk τ)) (cN x)) else NOTT) else UNK
def q_chance (τ : St) (x : Int32) : Int32 := if vdN x (sCl τ).1 then nI (chF (brQ (sPk τ)) (sPk τ).1 (sPk τ).2.1 (sPk τ).2.2.1 (sPk τ).2.2.2.1 (sPhi τ) ((sCl τ).2.2 (cN x))) else UNK
def q_worth (τ : St) (x : Int32) : Int32 := if vdN x 2 then gnF (sCl τ) (sPk τ) (sPhi τ) (cN x) 0 0 else UNK
def q_best (τ : St) (x m y : Int32) : Int32 := if vdN x 2 then (if vdN m 10000 ∧ vdN y 3 then (if y = nI 0 then nI (bsF (sCl τ) (sPk τ) (sPhi τ) (cN x) (cN m)) else if y = nI 1 then gnF (sCl τ) (sPk τ) (sPhi τ) (cN x) (bsF (sCl τ) (sPk τ) (sPhi τ) (cN x) (cN m)) 0 else nI (csN (sPk τ).2.2.2.2.1 (bsF (sCl τ) (sPk τ) (sPhi τ) (cN x) (cN m)) (sPk τ).1)) else OUTS) else UNK
def q_game (τ : St) (x y : Int32) : Int32 := if vdN x 2 then (if vdN y 3 then (if y = nI 0 then nI (ldF (sCl τ) (sPk τ) (sPhi τ) (cN x)) else if y = nI 1 then nI (rpF (sCl τ) (sPk τ) (sPhi τ) (1 - cN x) (ldF (sCl τ) (sPk τ) (sPhi τ) (cN x))) else gnF (sCl τ) (sPk τ) (sPhi τ) (cN x) (ldF (sCl τ) (sPk τ) (sPhi τ) (cN x)) (rpF (sCl τ) (sPk τ) (sPhi τ) (1 - cN x) (ldF (sCl τ) (sPk τ) (sPhi τ) (cN x)))) else OUTS) else UNK
def q_without (τ : St) (x : Int32) : Int32 := if vdN x (sPp τ).1 then wtF (sCl τ) (sPk τ) (fun f => stF (sPp τ).2.2.2 (ltX (sPp τ).2.2.1 x) f (sPp τ).1) (brQ (sPk τ)) else UNK
/-! what changes -/
def fdB (X : Int64) (i : Nat) : Nat := X.toBitVec.toNat / 2 ^ (8 * i) % 256
def fdT (τ : St) (k : Nat) (X : Int64) : Nat → Nat := fun j => if j < sL τ then sT τ j else fdB X (k - 1 - (j - sL τ))
def q_feed (τ : St) (x : Int32) (X : Int64) : Int32 × St := if x < nI 1 ∨ nI 8 < x then (OUTS, τ) else if 160 < sL τ + cN x then (FULLL, τ) else (nI (sL τ + cN x), (τ.1, sIm τ, sKp τ, fdT τ (cN x) X, sL τ + cN x, sF τ))
/-- the text is read: it is empty, and the fault's place is noted -/
def rdS (τ : St) (f pl : Nat) : St := (τ.1, sIm τ, sKp τ, sT τ, 0, if f = 0 then -1 else nI pl)
def adC (c : Clm) (x : Int32) (C : List Nat) : Clm := (c.1 + 1, fun j => if j = c.1 then x else c.2.1 j, fun j => if j = c.1 then C else c.2.2 j)
def adP (p : Pps) (d du : Nat) (a : Nat → Nat) : Pps := (p.1 + 1, fun j => if j = p.1 then d else p.2.1 j, fun j => if j = p.1 then decide (0 < p.1 ∧ du < d - p.2.1 (p.1 - 1)) else p.2.2.1 j, fun j => if j = p.1 then a else p.2.2.2 j)
def stC (τ : St) (c : Clm) : St := ((c, τ.1.2), τ.2)
def stP (τ : St) (p : Pps) : St := ((τ.1.1, p, τ.1.2.2), τ.2)
def stK (τ : St) (k : Prf) : St := ((τ.1.1, τ.1.2.1, k, τ.1.2.2.2), τ.2)
def stD (τ : St) (d : Nat) : St := ((τ.1.1, τ.1.2.1, τ.1.2.2.1, d, τ.1.2.2.2.2), τ.2)
def stE (τ : St) (e : Nat) : St := ((τ.1.1, τ.1.2.1, τ.1.2.2.1, τ.1.2.2.2.1, e), τ.2)
def q_claim (τ : St) (r : Int32) (τ' : St) : Prop := if 120 < sL τ then r = NOTT ∧ τ' = τ else if 6 ≤ (sCl τ).1 then r = FULLL ∧ τ' = τ else ∃ f pl C, PR (sT τ) (sL τ) f pl C ∧ if f = 0 then r = nI (sCl τ).1 ∧ τ' = stC (rdS τ f pl) (adC (sCl τ) (cCo (sT τ) (sL τ)) C) else r = -10 - nI f ∧ τ' = rdS τ f pl
def ldN (p : Pps) : Nat := if p.1 = 0 then 0 else p.2.1 (p.1 - 1)
def q_paper (τ : St) (x r : Int32) (τ' : St) : Prop := if ¬ vdN x 1000 then r = OUTS ∧ τ' = τ else if cN x < ldN (sPp τ) then r = NOTT ∧ τ' = τ else if 10 ≤ (sPp τ).1 then r = FULLL ∧ τ' = τ else ∃ f pl a, PP (sT τ) (sL τ) (sPp τ).1 (sPhi τ) f pl a ∧ if f = 0 then r = nI (sPp τ).1 ∧ τ' = stP (rdS τ f pl) (adP (sPp τ) (cN x) (sDu τ) a) else r = -10 - nI f ∧ τ' = rdS τ f pl
def q_due (τ : St) (x : Int32) : Int32 × St := if x < nI 1 ∨ nI 99 < x then (OUTS, τ) else (nI (sDu τ), stD τ (cN x))
def q_strike (τ : St) : Int32 × St := if (sPp τ).1 < 1 then (NOTT, τ) else (nI ((sPp τ).1 - 1), stP τ ((sPp τ).1 - 1, (sPp τ).2))
def q_proof (τ : St) (x f o c : Int32) : Int32 × St := if ¬ (vdN x 2 ∧ vdN f 12) then (UNK, τ) else if ¬ (vdN o 1001 ∧ vdN c 100) then (OUTS, τ) else if 16 ≤ (sPk τ).1 then (FULLL, τ) else (nI (sPk τ).1, stK τ ((sPk τ).1 + 1, (fun j => if j = (sPk τ).1 then cN x else (sPk τ).2.1 j), (fun j => if j = (sPk τ).1 then cN f else (sPk τ).2.2.1 j), (fun j => if j = (sPk τ).1 then cN o else (sPk τ).2.2.2.1 j), (fun j => if j = (sPk τ).1 then cN c else (sPk τ).2.2.2.2.1 j), (fun j => if j = (sPk τ).1 then false else (sPk τ).2.2.2.2.2 j)))
def q_bring (τ : St) (x : Int32) (b : Bool) : Int32 × St := if vdN x (sPk τ).1 then (b32 ((sPk τ).2.2.2.2.2 (cN x)), stK τ ((sPk τ).1, (sPk τ).2.1, (sPk τ).2.2.1, (sPk τ).2.2.2.1, (sPk τ).2.2.2.2.1, (fun j => if j = cN x then b else (sPk τ).2.2.2.2.2 j))) else (UNK, τ)
def q_seed (τ : St) (x : Int32) : Int32 × St := if x < 0 then (OUTS, τ) else (nI (sSe τ), stE τ (cN x))
def q_trial (τ : St) : Int32 × St := (owS (sCl τ).2.1 (sCl τ).2.2 (soN (sPhi τ) (trN (opN (sPhi τ)) (shQ (sPk τ) (sPhi τ) (brQ (sPk τ))) (sSe τ) 12).2) (sCl τ).1, stE τ (trN (opN (sPhi τ)) (shQ (sPk τ) (sPhi τ) (brQ (sPk τ))) (sSe τ) 12).1)
def q_keep (τ : St) (x : Int32) : Int32 × St := if vdN x 2 then (nI 1, (τ.1, (fun j => if j = cN x then τ.1 else sIm τ j), (fun j => if j = cN x then true else sKp τ j), τ.2.2.2)) else (UNK, τ)
def q_goBack (τ : St) (x : Int32) : Int32 × St := if vdN x 2 then (if sKp τ (cN x) = true then (nI 1, (sIm τ (cN x), τ.2)) else (NOTT, τ)) else (UNK, τ)
/-! the component's memory -/
def CS (I : MI) (J : MJ) (τ : St) : Prop := CSu I J 8 τ.1 ∧ (∀ i, i < 2 → I 116 i = b32 (sKp τ i) ∧ (sKp τ i = true → CSu I J (56 + 30 * i) (sIm τ i))) ∧ Fc I 38 (sPhi τ) ∧ (∀ p, p < (sPp τ).1 → I 44 p = nI (silF (sPp τ).2.2.2 (sPp τ).2.2.1 p)) ∧ Tx I (sT τ) (sL τ) ∧ I 1 6 = sF τ
/-- what the component leaves alone -/
def Fr (I I' : MI) (J J' : MJ) : Prop := (∀ k, 117 ≤ k → I' k = I k) ∧ ∀ k, 117 ≤ k → J' k = J k
theorem Fr.rf (I : MI) (J : MJ) : Fr I I J J := ⟨fun _ _ => rfl, fun _ _ => rfl⟩
/-- a question changes only the second facts and the scale -/
def qF (I I' : MI) : Prop := ∀ k, k < 45 ∨ 54 < k → I' k = I k
theorem qF.of {I I' : MI} (h : ∀ k, k ≠ 53 → k ≠ 54 → I' k = I k) : qF I I' := fun k hk => h k (by omega) (by omega)
theorem qF.fr {I I' : MI} {J : MJ} (h : qF I I') : Fr I I' J J := ⟨fun k hk => h k (by omega), fun _ _ => rfl⟩
theorem CS.q {I I' : MI} {J : MJ} {τ : St} (h : CS I J τ) (hF : qF I I') : CS I' J τ := by
  obtain ⟨h1, h2, h3, h4, h5, h6⟩ := h
  refine ⟨h1.rf (fun k a b => hF k (by omega)) (fun _ _ _ => rfl), fun i hi => ⟨by rw [hF 116 (by decide)]; exact (h2 i hi).1, fun hk => ((h2 i hi).2 hk).rf (fun k a b => hF k (by omega)) (fun _ _ _ => rfl)⟩, ⟨fun f hf i hi => ?_, ?_, ?_, ?_⟩, fun p hp => ?_, ⟨h5.1, ?_, fun j hj => ?_⟩, ?_⟩
  · rw [hF (38 + 1 + i) (by omega)]; exact h3.1 f hf i hi
  · rw [hF 38 (by decide)]; exact h3.2.1
  · rw [hF 38 (by decide)]; exact h3.2.2.1
  · rw [hF 38 (by decide)]; exact h3.2.2.2
  · rw [hF 44 (by decide)]; exact h4 p hp
  · rw [hF 1 (by decide)]; exact h5.2.1
  · rw [hF 2 (by decide)]; exact h5.2.2 j hj
  · rw [hF 1 (by decide)]; exact h6
theorem nI_m1 {k : Nat} (h : k < 2 ^ 31) : nI k ≠ -1 := by
  intro e
  have e2 := congrArg Int32.toInt e
  rw [nI_toI h] at e2
  have : (-1 : Int32).toInt = -1 := by decide
  omega
theorem ltX_n {lt : Nat → Bool} {p : Nat} (h : p < 2 ^ 31) : ltX lt (-1) p = lt p := by
  unfold ltX
  rw [decide_eq_false (nI_m1 h), Bool.or_false]
theorem stF_cong {ac ac' : Nat → Nat → Nat} {lt lt' : Nat → Bool} {f : Nat} : ∀ p, (∀ j, j < p → lt j = lt' j ∧ ac j f = ac' j f) → stF ac lt f p = stF ac' lt' f p
  | 0, _ => rfl
  | p + 1, h => by
    unfold stF
    rw [stF_cong p (fun j hj => h j (by omega)), (h p (by omega)).1, (h p (by omega)).2]
theorem silF_cong {ac ac' : Nat → Nat → Nat} {lt lt' : Nat → Bool} {p : Nat} (h : ∀ j, j ≤ p → lt j = lt' j ∧ ∀ f, f < 12 → ac j f = ac' j f) : silF ac lt p = silF ac' lt' p := by
  unfold silF
  refine bS_cong 12 (fun f hf => ?_)
  rw [stF_cong p (fun j hj => ⟨(h j (by omega)).1, (h j (by omega)).2 f hf⟩), (h p (Nat.le_refl _)).1, (h p (Nat.le_refl _)).2 f hf]
theorem Fc.cong {I : MI} {b : Nat} {Φ Ψ : Nat → FS} (h : Fc I b Φ) (e : ∀ f, f < 12 → Φ f = Ψ f) : Fc I b Ψ := by
  refine ⟨fun f hf i hi => by rw [← e f hf]; exact h.1 f hf i hi, ?_, ?_, ?_⟩
  · rw [bS_cong 12 (r := fun f => opB (Φ f)) (fun f hf => by rw [e f hf])]; exact h.2.1
  · rw [bS_cong 12 (r := fun f => onB (Φ f)) (fun f hf => by rw [e f hf])]; exact h.2.2.1
  · rw [bS_cong 12 (r := fun f => asB (Φ f)) (fun f hf => by rw [e f hf])]; exact h.2.2.2
theorem sw_ne {y : Int32} {n k : Nat} (h : y.toInt < 0 ∨ (n : Int) < y.toInt) (hk : k ≤ n) (hn : n < 2 ^ 31) : y ≠ nI k := by
  intro e
  rw [e, nI_toI (by omega)] at h
  omega
theorem sw_of {y : Int32} (n : Nat) (hn : n < 2 ^ 31) : (∃ k, k ≤ n ∧ y = nI k) ∨ (y.toInt < 0 ∨ (n : Int) < y.toInt) := by
  by_cases h : y.toInt < 0 ∨ (n : Int) < y.toInt
  · exact Or.inr h
  · refine Or.inl ⟨y.toInt.toNat, by omega, ?_⟩
    rw [fa_eq, nI_toI (by omega)]
    omega
theorem sw2 (y : Int32) : y = nI 0 ∨ y = nI 1 ∨ y = nI 2 ∨ (y.toInt < 0 ∨ 2 < y.toInt) := by
  rcases sw_of (y := y) 2 (by decide) with ⟨k, hk, rfl⟩ | h
  · rcases (by omega : k = 0 ∨ k = 1 ∨ k = 2) with rfl | rfl | rfl <;> simp
  · exact Or.inr (Or.inr (Or.inr h))
theorem sw3 (y : Int32) : y = nI 0 ∨ y = nI 1 ∨ y = nI 2 ∨ y = nI 3 ∨ (y.toInt < 0 ∨ 3 < y.toInt) := by
  rcases sw_of (y := y) 3 (by decide) with ⟨k, hk, rfl⟩ | h
  · rcases (by omega : k = 0 ∨ k = 1 ∨ k = 2 ∨ k = 3) with rfl | rfl | rfl | rfl <;> simp
  · exact Or.inr (Or.inr (Or.inr (Or.inr h)))
theorem sw4 (y : Int32) : y = nI 0 ∨ y = nI 1 ∨ y = nI 2 ∨ y = nI 3 ∨ y = nI 4 ∨ (y.toInt < 0 ∨ 4 < y.toInt) := by
  rcases sw_of (y := y) 4 (by decide) with ⟨k, hk, rfl⟩ | h
  · rcases (by omega : k = 0 ∨ k = 1 ∨ k = 2 ∨ k = 3 ∨ k = 4) with rfl | rfl | rfl | rfl | rfl <;> simp
  · exact Or.inr (Or.inr (Or.inr (Or.inr (Or.inr h))))
theorem sw5 (y : Int32) : y = nI 0 ∨ y = nI 1 ∨ y = nI 2 ∨ y = nI 3 ∨ y = nI 4 ∨ y = nI 5 ∨ (y.toInt < 0 ∨ 5 < y.toInt) := by
  rcases sw_of (y := y) 5 (by decide) with ⟨k, hk, rfl⟩ | h
  · rcases (by omega : k = 0 ∨ k = 1 ∨ k = 2 ∨ k = 3 ∨ k = 4 ∨ k = 5) with rfl | rfl | rfl | rfl | rfl | rfl <;> simp
  · exact Or.inr (Or.inr (Or.inr (Or.inr (Or.inr (Or.inr h)))))
theorem sw8 (y : Int32) : y = nI 0 ∨ y = nI 1 ∨ y = nI 2 ∨ y = nI 3 ∨ y = nI 4 ∨ y = nI 5 ∨ y = nI 6 ∨ y = nI 7 ∨ y = nI 8 ∨ (y.toInt < 0 ∨ 8 < y.toInt) := by
  rcases sw_of (y := y) 8 (by decide) with ⟨k, hk, rfl⟩ | h
  · rcases (by omega : k = 0 ∨ k = 1 ∨ k = 2 ∨ k = 3 ∨ k = 4 ∨ k = 5 ∨ k = 6 ∨ k = 7 ∨ k = 8) with rfl | rfl | rfl | rfl | rfl | rfl | rfl | rfl | rfl <;> simp
  · exact Or.inr (Or.inr (Or.inr (Or.inr (Or.inr (Or.inr (Or.inr (Or.inr (Or.inr h))))))))
theorem hs_of {y : Int32} {op : Nat} (ho : op < 4096) (h : y &&& (nI op ^^^ (-1)) = 0) : ∃ s, s < 4096 ∧ s &&& op = s ∧ y = nI s := by
  obtain ⟨k, hk, rfl⟩ := wb_of32 y
  rw [nI_not hk, show (0 : Int32) = nI 0 from rfl] at h
  have h2 : anN k op = 0 := by
    have e := congrArg (fun x : Int32 => x.toBitVec.toNat) h
    have e1 : (nI (anN k op)).toBitVec.toNat = anN k op := by show (BitVec.ofNat 32 _).toNat = _; rw [BitVec.toNat_ofNat]; exact Nat.mod_eq_of_lt (anN_lt hk)
    have e2 : (nI 0).toBitVec.toNat = 0 := rfl
    simp only [e1, e2] at e
    exact e
  have h3 := anN_0.mp h2
  exact ⟨k, Nat.lt_of_le_of_lt (by rw [← h3]; exact Nat.and_le_right) ho, h3, rfl⟩
