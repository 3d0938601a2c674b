/-! FACTS: how one stands is five numbers (0 stand, 1 word, 2 sayer, 3 saidIn, 4 answeredIn). -/
abbrev FS : Type := Nat → Int32
def frS : FS := fun i => if i = 0 then nI 0 else -1
/-- whether act a of paper p may be -/
def alw (a p : Nat) (φ : FS) : Bool := if a = 1 ∨ a = 2 then decide (φ 0 = nI 0) else if a = 6 then decide (φ 0 ≠ nI 0 ∧ φ 0 ≠ nI 2 ∧ φ 2 = nI (p % 2)) else decide (φ 0 = nI 1 ∧ φ 2 = nI (1 - p % 2))
def ans (s p : Nat) (φ : FS) : FS := fun i => if i = 0 then nI s else if i = 4 then nI p else φ i
def app (a p : Nat) (φ : FS) : FS := if a = 1 ∨ a = 2 then (fun i => if i = 0 then nI 1 else if i = 1 then (if a = 1 then nI 1 else nI 0) else if i = 2 then nI (p % 2) else if i = 3 then nI p else φ i) else if a = 6 then frS else if a = 3 then ans 2 p φ else if a = 4 then ans 3 p φ else ans 4 p φ
def hrF (late : Bool) (a p : Nat) (φ : FS) : FS := if late = false ∧ a ≠ 0 ∧ alw a p φ = true then app a p φ else φ
def adB (p : Nat) (φ : FS) : Bool := decide (φ 0 = nI 1 ∧ φ 2 = nI (1 - p % 2))
def admF (p : Nat) (φ : FS) : FS := if adB p φ = true then ans 2 p φ else φ
/-- how a fact stands behind so many papers -/
def stF (ac : Nat → Nat → Nat) (lt : Nat → Bool) (f : Nat) : Nat → FS
  | 0 => frS
  | p + 1 => admF p (hrF (lt p) (ac p f) p (stF ac lt f p))
/-- the set of those below n for which q holds -/
def bS (q : Nat → Bool) : Nat → Nat
  | 0 => 0
  | k + 1 => if q k = true then bS q k ||| 2 ^ k else bS q k
theorem bS_bit {q : Nat → Bool} : ∀ n i, (bS q n).testBit i = (decide (i < n) && q i)
  | 0, i => by simp [bS]
  | k + 1, i => by
    unfold bS
    have ih := bS_bit (q := q) k i
    by_cases h : q k = true
    · rw [if_pos h, fb_bit_set, ih]
      by_cases e : i = k
      · subst e; simp [h]
      · by_cases e2 : i < k
        · simp [e, e2, Nat.lt_succ_of_lt e2]
        · simp [e, e2, show ¬ i < k + 1 by omega]
    · rw [if_neg h, ih]
      by_cases e : i = k
      · subst e
        have : q i = false := by simpa using h
        simp [this]
      · by_cases e2 : i < k
        · simp [e2, Nat.lt_succ_of_lt e2]
        · simp [e2, show ¬ i < k + 1 by omega]
theorem bS_lt {q : Nat → Bool} : ∀ n, bS q n < 2 ^ n
  | 0 => by show 0 < 1; decide
  | k + 1 => by
    have ih := bS_lt (q := q) k
    unfold bS
    rw [Nat.pow_succ]
    split
    · have := Nat.or_lt_two_pow (x := bS q k) (y := 2 ^ k) (n := k + 1) (by rw [Nat.pow_succ]; omega) (by rw [Nat.pow_succ]; have := Nat.two_pow_pos k; omega)
      rwa [Nat.pow_succ] at this
    · omega
theorem bS_cong {q r : Nat → Bool} : ∀ n, (∀ i, i < n → q i = r i) → bS q n = bS r n
  | 0, _ => rfl
  | k + 1, h => by
    unfold bS
    rw [h k (by omega), bS_cong k (fun i hi => h i (by omega))]
theorem or_bit {a f : Nat} (h : f < 31) : nI a ||| (nI 1 <<< (nI f &&& 31)) = nI (a ||| 2 ^ f) := by rw [shl1 h, fa_or]
def opB (φ : FS) : Bool := decide (φ 0 ≠ nI 0 ∧ φ 0 ≠ nI 2)
def onB (φ : FS) : Bool := decide (φ 0 ≠ nI 0 ∧ φ 0 ≠ nI 2 ∧ φ 1 = nI 0)
def asB (φ : FS) : Bool := decide (φ 0 = nI 2 ∧ φ 1 = nI 1)
/-- the facts' arrays of the object at b -/
def FcM (I : MI) (b : Nat) (Φ : Nat → FS) : Prop := ∀ f, f < 12 → ∀ i, i < 5 → I (b + 1 + i) f = Φ f i
def fcO (I I' : MI) (b : Nat) : Prop := ∀ k, k < b + 1 ∨ b + 5 < k → I' k = I k
theorem fcO.rf (I : MI) (b : Nat) : fcO I I b := fun _ _ => rfl
theorem fcO.trans {I I1 I2 : MI} {b : Nat} (h1 : fcO I I1 b) (h2 : fcO I1 I2 b) : fcO I I2 b := fun k h => (h2 k h).trans (h1 k h)
/-- fact f becomes φ, all else stays -/
def fcU (I I' : MI) (b f : Nat) (φ : FS) : Prop := fcO I I' b ∧ ∀ i, i < 5 → ∀ g, I' (b + 1 + i) g = if g = f then φ i else I (b + 1 + i) g
theorem fcU.M {I I' : MI} {b f : Nat} {φ : FS} {Φ : Nat → FS} (h : fcU I I' b f φ) (hM : FcM I b Φ) : FcM I' b (fun g => if g = f then φ else Φ g) := by
  intro g hg i hi
  rw [h.2 i hi g]
  show _ = (if g = f then φ else Φ g) i
  by_cases e : g = f
  · rw [if_pos e, if_pos e]
  · rw [if_neg e, if_neg e]; exact hM g hg i hi
theorem five {P : Nat → Prop} (h0 : P 0) (h1 : P 1) (h2 : P 2) (h3 : P 3) (h4 : P 4) : ∀ i, i < 5 → P i := by
  intro i hi
  rcases (by omega : i = 0 ∨ i = 1 ∨ i = 2 ∨ i = 3 ∨ i = 4) with rfl | rfl | rfl | rfl | rfl <;> assumption
theorem FcM.cong {I : MI} {b : Nat} {Φ Ψ : Nat → FS} (h : FcM I b Φ) (e : ∀ f, f < 12 → ∀ i, i < 5 → Φ f i = Ψ f i) : FcM I b Ψ := fun f hf i hi => (h f hf i hi).trans (e f hf i hi)
/-- what a facts' object says behind its papers -/
def Fc (I : MI) (b : Nat) (Φ : Nat → FS) : Prop := FcM I b Φ ∧ I b 6 = nI (bS (fun f => opB (Φ f)) 12) ∧ I b 7 = nI (bS (fun f => onB (Φ f)) 12) ∧ I b 8 = nI (bS (fun f => asB (Φ f)) 12)
theorem shA_act : ∀ p, p < 10 → shA (23 + p) = some (0, 12) ∧ shT (23 + p) = .inr (0, 12, 0, 0) := by decide
theorem mod2 {p : Nat} (h : p < 2 ^ 31) : nI p - nI p / nI 2 * nI 2 = nI (p % 2) := pk_rem h (by decide) (by decide)
/-- what holds of each fact -/
def fsOK (φ : FS) : Prop := ((φ 0 = nI 0 ∧ φ 2 = -1) ∨ ((φ 0 = nI 1 ∨ φ 0 = nI 2 ∨ φ 0 = nI 3 ∨ φ 0 = nI 4) ∧ (φ 2 = nI 0 ∨ φ 2 = nI 1) ∧ (φ 1 = nI 0 ∨ φ 1 = nI 1)))
theorem fsOK_fr : fsOK frS := Or.inl ⟨rfl, rfl⟩
theorem fsOK_ans {s p : Nat} {φ : FS} (h : fsOK φ) (h1 : φ 0 = nI 1) (hs : s = 2 ∨ s = 3 ∨ s = 4) : fsOK (ans s p φ) := by
  rcases h with h | ⟨-, h2, h3⟩
  · rw [h.1] at h1; exact absurd h1 (by decide)
  · exact Or.inr ⟨by rcases hs with rfl | rfl | rfl <;> simp [ans], h2, h3⟩
theorem fsOK_adm {p : Nat} {φ : FS} (h : fsOK φ) : fsOK (admF p φ) := by
  unfold admF
  split
  · rename_i h1
    exact fsOK_ans h (of_decide_eq_true h1).1 (Or.inl rfl)
  · exact h
theorem fsOK_hr {late : Bool} {a p : Nat} {φ : FS} (h : fsOK φ) (ha : a ≤ 6) : fsOK (hrF late a p φ) := by
  unfold hrF
  split
  · rename_i hh
    obtain ⟨-, h0, h1⟩ := hh
    unfold app
    by_cases e : a = 1 ∨ a = 2
    · rw [if_pos e]
      have hm : p % 2 = 0 ∨ p % 2 = 1 := Nat.mod_two_eq_zero_or_one p
      refine Or.inr ⟨Or.inl rfl, ?_, ?_⟩
      · show nI (p % 2) = nI 0 ∨ nI (p % 2) = nI 1
        rcases hm with q | q <;> rw [q]
        · exact Or.inl rfl
        · exact Or.inr rfl
      · show (if a = 1 then nI 1 else nI 0) = nI 0 ∨ (if a = 1 then nI 1 else nI 0) = nI 1
        split
        · exact Or.inr rfl
        · exact Or.inl rfl
    · rw [if_neg e]
      by_cases e6 : a = 6
      · rw [if_pos e6]; exact fsOK_fr
      · rw [if_neg e6]
        have h2 : φ 0 = nI 1 := by
          unfold alw at h1
          rw [if_neg e, if_neg e6] at h1
          exact (of_decide_eq_true h1).1
        by_cases e3 : a = 3
        · rw [if_pos e3]; exact fsOK_ans h h2 (Or.inl rfl)
        · rw [if_neg e3]
          by_cases e4 : a = 4
          · rw [if_pos e4]; exact fsOK_ans h h2 (Or.inr (Or.inl rfl))
          · rw [if_neg e4]; exact fsOK_ans h h2 (Or.inr (Or.inr rfl))
  · exact h
theorem fsOK_st {ac : Nat → Nat → Nat} {lt : Nat → Bool} {f : Nat} (h : ∀ p, ac p f ≤ 6) : ∀ p, fsOK (stF ac lt f p)
  | 0 => fsOK_fr
  | p + 1 => fsOK_adm (fsOK_hr (fsOK_st h p) (h p))
theorem ans_cong {s p : Nat} {φ ψ : FS} (h : ∀ i, i < 5 → φ i = ψ i) : ∀ i, i < 5 → ans s p φ i = ans s p ψ i := by
  intro i hi
  unfold ans
  rw [h i hi]
theorem app_cong {a p : Nat} {φ ψ : FS} (h : ∀ i, i < 5 → φ i = ψ i) : ∀ i, i < 5 → app a p φ i = app a p ψ i := by
  intro i hi
  unfold app
  by_cases e : a = 1 ∨ a = 2
  · rw [if_pos e, if_pos e, h i hi]
  · rw [if_neg e, if_neg e]
    by_cases e6 : a = 6
    · rw [if_pos e6, if_pos e6]
    · rw [if_neg e6, if_neg e6]
      by_cases e3 : a = 3
      · rw [if_pos e3, if_pos e3]; exact ans_cong h i hi
      · rw [if_neg e3, if_neg e3]
        by_cases e4 : a = 4
        · rw [if_pos e4, if_pos e4]; exact ans_cong h i hi
        · rw [if_neg e4, if_neg e4]; exact ans_cong h i hi
theorem b32_dt {P : Prop} {i : Decidable P} (h : P) : nI 1 = b32 (@decide P i) := by rw [decide_eq_true h]; rfl
theorem b32_df {P : Prop} {i : Decidable P} (h : ¬ P) : nI 0 = b32 (@decide P i) := by rw [decide_eq_false h]; rfl
theorem alw_cong {a p : Nat} {φ ψ : FS} (h0 : φ 0 = ψ 0) (h2 : φ 2 = ψ 2) : alw a p φ = alw a p ψ := by unfold alw; simp only [h0, h2]
theorem adB_cong {p : Nat} {φ ψ : FS} (h0 : φ 0 = ψ 0) (h2 : φ 2 = ψ 2) : adB p φ = adB p ψ := by unfold adB; simp only [h0, h2]
theorem opB_cong {φ ψ : FS} (h0 : φ 0 = ψ 0) : opB φ = opB ψ := by unfold opB; simp only [h0]
theorem onB_cong {φ ψ : FS} (h0 : φ 0 = ψ 0) (h1 : φ 1 = ψ 1) : onB φ = onB ψ := by unfold onB; simp only [h0, h1]
theorem asB_cong {φ ψ : FS} (h0 : φ 0 = ψ 0) (h1 : φ 1 = ψ 1) : asB φ = asB ψ := by unfold asB; simp only [h0, h1]
theorem admF_cong {p : Nat} {φ ψ : FS} (h : ∀ i, i < 5 → φ i = ψ i) : ∀ i, i < 5 → admF p φ i = admF p ψ i := by
  intro i hi
  unfold admF
  rw [adB_cong (h 0 (by decide)) (h 2 (by decide))]
  split
  · exact ans_cong h i hi
  · exact h i hi
theorem hrF_cong {l : Bool} {a p : Nat} {φ ψ : FS} (h : ∀ i, i < 5 → φ i = ψ i) : ∀ i, i < 5 → hrF l a p φ i = hrF l a p ψ i := by
  intro i hi
  unfold hrF
  rw [alw_cong (h 0 (by decide)) (h 2 (by decide))]
  split
  · exact app_cong h i hi
  · exact h i hi
/-- whether the bit of paper p in the late ones' set says v -/
def ltOK (I : MI) (b p : Nat) (v : Bool) : Prop := ∃ X : Nat, X < 1024 ∧ I (b + 11) 1 = nI X ∧ X.testBit p = v
/-- the component's papers of a suit at b -/
def CPap (I : MI) (b np : Nat) (dy : Nat → Nat) (lt : Nat → Bool) (ac : Nat → Nat → Nat) : Prop := np ≤ 10 ∧ I (b + 11) 0 = nI np ∧ ∀ p, p < np → I (b + 12) p = nI (dy p) ∧ dy p < 1000 ∧ ltOK I b p (lt p) ∧ ∀ f, f < 12 → I (b + 15 + p) f = nI (ac p f) ∧ ac p f ≤ 6
def silF (ac : Nat → Nat → Nat) (lt : Nat → Bool) (p : Nat) : Nat := bS (fun f => adB p (hrF (lt p) (ac p f) p (stF ac lt f p))) 12
def faO (I I' : MI) (b : Nat) : Prop := ∀ k, k < b ∨ b + 6 < k → I' k = I k
/-- late, or the one that is asked for -/
def ltX (lt : Nat → Bool) (x : Int32) (p : Nat) : Bool := lt p || decide (nI p = x)
def berF (sd : Nat) (φ : FS) : Int32 := if φ 0 = nI 0 ∨ φ 0 = nI 2 then -1 else if φ 2 = nI sd then nI 1 else if φ 0 = nI 4 then -1 else nI 0
theorem nI_or0 (a : Nat) : nI a ||| nI 0 = nI a := by rw [fa_or, Nat.or_zero]
