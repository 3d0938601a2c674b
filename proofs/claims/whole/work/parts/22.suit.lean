/-! THE SUIT: claims, papers, proofs, the days that are due, the seed; what a scale says. -/
def coOK (x : Int32) : Prop := ∃ a, a ≤ 999 ∧ (x = nI a ∨ x = -nI a)
/-- the component's proofs of a suit at b -/
def CPrf (I : MI) (b nk : Nat) (sd fo od ct : Nat → Nat) (br : Nat → Bool) : Prop := nk ≤ 16 ∧ I (b + 25) 0 = nI nk ∧ I (b + 25) 1 = nI (bS br nk) ∧ ∀ k, k < nk → I (b + 26) k = nI (sd k) ∧ sd k < 2 ∧ I (b + 27) k = nI (fo k) ∧ fo k < 12 ∧ I (b + 28) k = nI (od k) ∧ od k ≤ 1000 ∧ I (b + 29) k = nI (ct k) ∧ ct k ≤ 99
abbrev Clm : Type := Nat × (Nat → Int32) × (Nat → List Nat)
abbrev Pps : Type := Nat × (Nat → Nat) × (Nat → Bool) × (Nat → Nat → Nat)
abbrev Prf : Type := Nat × (Nat → Nat) × (Nat → Nat) × (Nat → Nat) × (Nat → Nat) × (Nat → Bool)
abbrev Su : Type := Clm × Pps × Prf × Nat × Nat
def anN (a b : Nat) : Nat := a ^^^ (a &&& b)
theorem anN_bit (a b i : Nat) : (anN a b).testBit i = (a.testBit i && !(b.testBit i)) := by
  unfold anN
  rw [Nat.testBit_xor, Nat.testBit_and]
  cases a.testBit i <;> cases b.testBit i <;> rfl
theorem anN_lt {a b k : Nat} (h : a < 2 ^ k) : anN a b < 2 ^ k := Nat.xor_lt_two_pow h (Nat.lt_of_le_of_lt Nat.and_le_left h)
theorem nI_not {a b : Nat} (ha : a < 2 ^ 32) : nI a &&& (nI b ^^^ (-1)) = nI (anN a b) := by
  rw [show (-1 : Int32) = nI (2 ^ 32 - 1) by decide, nx_xor, fa_and]
  congr 1
  apply Nat.eq_of_testBit_eq
  intro i
  rw [anN_bit, Nat.testBit_and, Nat.testBit_xor, Nat.testBit_two_pow_sub_one]
  by_cases h : i < 32
  · rw [decide_eq_true h, Bool.xor_true]
  · rw [Nat.testBit_lt_two_pow (Nat.lt_of_lt_of_le ha (Nat.pow_le_pow_right (by decide) (by omega)))]; rfl
/-- a set with k in it, or not in it -/
def ltS (a k : Nat) (v : Bool) : Nat := if v = true then a ||| 2 ^ k else anN a (2 ^ k)
theorem ltS_lt {a k : Nat} {v : Bool} (ha : a < 1024) (hk : k < 10) : ltS a k v < 1024 := by
  unfold ltS
  split
  · exact Nat.or_lt_two_pow (n := 10) ha (Nat.pow_lt_pow_right (by decide) hk)
  · exact anN_lt (k := 10) ha
theorem ltS_at {a k : Nat} {v : Bool} : (ltS a k v).testBit k = v := by
  unfold ltS
  cases v
  · rw [if_neg Bool.false_ne_true, anN_bit, Nat.testBit_two_pow, decide_eq_true (show k = k from rfl), Bool.not_true, Bool.and_false]
  · rw [if_pos rfl, Nat.testBit_or, Nat.testBit_two_pow, decide_eq_true (show k = k from rfl), Bool.or_true]
theorem ltS_ne {a k p : Nat} {v : Bool} (h : p ≠ k) : (ltS a k v).testBit p = a.testBit p := by
  have h2 : decide (k = p) = false := decide_eq_false (fun q => h q.symm)
  unfold ltS
  cases v
  · rw [if_neg Bool.false_ne_true, anN_bit, Nat.testBit_two_pow, h2, Bool.not_false, Bool.and_true]
  · rw [if_pos rfl, Nat.testBit_or, Nat.testBit_two_pow, h2, Bool.or_false]
def ltW (I : MI) (b : Nat) : Prop := ∃ X : Nat, X < 1024 ∧ I (b + 11) 1 = nI X
theorem ltW.rf {I I' : MI} {b : Nat} (h : ltW I b) (e : I' (b + 11) 1 = I (b + 11) 1) : ltW I' b := h.imp (fun X q => ⟨q.1, e.trans q.2⟩)
theorem ltOK.rf {I I' : MI} {b p : Nat} {v : Bool} (h : ltOK I b p v) (e : I' (b + 11) 1 = I (b + 11) 1) : ltOK I' b p v := h.imp (fun X q => ⟨q.1, e.trans q.2.1, q.2.2⟩)
theorem ltW.ok {I : MI} {b p X : Nat} {v : Bool} (h : ltOK I b p v) (hX : X < 1024) (h2 : I (b + 11) 1 = nI X) : X.testBit p = v := by
  obtain ⟨Y, h3, h4, h5⟩ := h
  have e : nI X = nI Y := h2.symm.trans h4
  have e2 : X = Y := by
    have h6 := congrArg Int32.toInt e
    rw [nI_toI (by omega), nI_toI (by omega)] at h6
    omega
  rw [e2]; exact h5
def CSu (I : MI) (J : MJ) (b : Nat) (σ : Su) : Prop := (CClm I J b σ.1.1 σ.1.2.1 σ.1.2.2 ∧ ∀ c, c < σ.1.1 → coOK (σ.1.2.1 c)) ∧ (CPap I b σ.2.1.1 σ.2.1.2.1 σ.2.1.2.2.1 σ.2.1.2.2.2 ∧ ltW I b) ∧ CPrf I b σ.2.2.1.1 σ.2.2.1.2.1 σ.2.2.1.2.2.1 σ.2.2.1.2.2.2.1 σ.2.2.1.2.2.2.2.1 σ.2.2.1.2.2.2.2.2 ∧ I b 3 = nI σ.2.2.2.1 ∧ σ.2.2.2.1 < 100 ∧ I b 4 = nI σ.2.2.2.2 ∧ σ.2.2.2.2 < 2 ^ 31
/-- the suit at a is word for word the one at b before -/
def smC (I I' : MI) (J J' : MJ) (b a : Nat) : Prop := I' (a + 1) 0 = I (b + 1) 0 ∧ ∀ c, c < 6 → I' (a + 2) c = I (b + 2) c ∧ I' (a + 3) c = I (b + 3) c ∧ ∀ w, w < 64 → J' (a + 5 + c) w = J (b + 5 + c) w
def smP (I I' : MI) (b a : Nat) : Prop := I' (a + 11) 0 = I (b + 11) 0 ∧ ∀ p, p < 10 → I' (a + 12) p = I (b + 12) p ∧ I' (a + 11) 1 = I (b + 11) 1 ∧ ∀ f, f < 12 → I' (a + 15 + p) f = I (b + 15 + p) f
def smK (I I' : MI) (b a : Nat) : Prop := I' (a + 25) 0 = I (b + 25) 0 ∧ I' (a + 25) 1 = I (b + 25) 1 ∧ ∀ k, k < 16 → I' (a + 26) k = I (b + 26) k ∧ I' (a + 27) k = I (b + 27) k ∧ I' (a + 28) k = I (b + 28) k ∧ I' (a + 29) k = I (b + 29) k
theorem CClm.cp {I I' : MI} {J J' : MJ} {b a nc : Nat} {co : Nat → Int32} {cd : Nat → List Nat} (h : CClm I J b nc co cd) (hs : smC I I' J J' b a) : CClm I' J' a nc co cd := by
  refine ⟨h.1, hs.1.trans h.2.1, fun c hc => ?_⟩
  have h1 := h.2.2 c hc
  have h2 := hs.2 c (Nat.lt_of_lt_of_le hc h.1)
  exact ⟨h2.1.trans h1.1, h2.2.1.trans h1.2.1, h1.2.2.1, fun w hw k hk => by rw [h2.2.2 w hw]; exact h1.2.2.2 w hw k hk⟩
theorem CPap.cp {I I' : MI} {b a np : Nat} {dy : Nat → Nat} {lt : Nat → Bool} {ac : Nat → Nat → Nat} (h : CPap I b np dy lt ac) (hs : smP I I' b a) : CPap I' a np dy lt ac := by
  refine ⟨h.1, hs.1.trans h.2.1, fun p hp => ?_⟩
  have h1 := h.2.2 p hp
  have h2 := hs.2 p (Nat.lt_of_lt_of_le hp h.1)
  exact ⟨h2.1.trans h1.1, h1.2.1, h1.2.2.1.imp (fun X q => ⟨q.1, h2.2.1.trans q.2.1, q.2.2⟩), fun f hf => ⟨(h2.2.2 f hf).trans (h1.2.2.2 f hf).1, (h1.2.2.2 f hf).2⟩⟩
theorem CPrf.cp {I I' : MI} {b a nk : Nat} {sd fo od ct : Nat → Nat} {br : Nat → Bool} (h : CPrf I b nk sd fo od ct br) (hs : smK I I' b a) : CPrf I' a nk sd fo od ct br := by
  refine ⟨h.1, hs.1.trans h.2.1, hs.2.1.trans h.2.2.1, fun k hk => ?_⟩
  have h1 := h.2.2.2 k hk
  have h2 := hs.2.2 k (Nat.lt_of_lt_of_le hk h.1)
  exact ⟨h2.1.trans h1.1, h1.2.1, h2.2.1.trans h1.2.2.1, h1.2.2.2.1, h2.2.2.1.trans h1.2.2.2.2.1, h1.2.2.2.2.2.1, h2.2.2.2.trans h1.2.2.2.2.2.2.1, h1.2.2.2.2.2.2.2⟩
theorem CSu.cp {I I' : MI} {J J' : MJ} {b a : Nat} {σ : Su} (h : CSu I J b σ) (h1 : smC I I' J J' b a) (h2 : smP I I' b a) (h3 : smK I I' b a) (h4 : I' a 3 = I b 3) (h5 : I' a 4 = I b 4) : CSu I' J' a σ :=
  ⟨⟨h.1.1.cp h1, h.1.2⟩, ⟨h.2.1.1.cp h2, h.2.1.2.imp (fun X q => ⟨q.1, (h2.2 0 (by decide)).2.1.trans q.2⟩)⟩, h.2.2.1.cp h3, h4.trans h.2.2.2.1, h.2.2.2.2.1, h5.trans h.2.2.2.2.2.1, h.2.2.2.2.2.2⟩
theorem smC.rf {I I' : MI} {J J' : MJ} {b : Nat} (h : ∀ k, k < b + 4 → b < k → I' k = I k) (hJ : ∀ k, b + 4 < k → k < b + 11 → J' k = J k) : smC I I' J J' b b :=
  ⟨by rw [h (b + 1) (by omega) (by omega)], fun c hc => ⟨by rw [h (b + 2) (by omega) (by omega)], by rw [h (b + 3) (by omega) (by omega)], fun w hw => by rw [hJ (b + 5 + c) (by omega) (by omega)]⟩⟩
theorem smP.rf {I I' : MI} {b : Nat} (h : ∀ k, k < b + 25 → b + 10 < k → I' k = I k) : smP I I' b b :=
  ⟨by rw [h (b + 11) (by omega) (by omega)], fun c hc => ⟨by rw [h (b + 12) (by omega) (by omega)], by rw [h (b + 11) (by omega) (by omega)], fun w hw => by rw [h (b + 15 + c) (by omega) (by omega)]⟩⟩
theorem smK.rf {I I' : MI} {b : Nat} (h : ∀ k, k < b + 30 → b + 24 < k → I' k = I k) : smK I I' b b :=
  ⟨by rw [h (b + 25) (by omega) (by omega)], by rw [h (b + 25) (by omega) (by omega)], fun c hc => ⟨by rw [h (b + 26) (by omega) (by omega)], by rw [h (b + 27) (by omega) (by omega)], by rw [h (b + 28) (by omega) (by omega)], by rw [h (b + 29) (by omega) (by omega)]⟩⟩
/-- nothing of the suit changes -/
theorem CSu.rf {I I' : MI} {J J' : MJ} {b : Nat} {σ : Su} (h : CSu I J b σ) (hI : ∀ k, b ≤ k → k < b + 30 → I' k = I k) (hJ : ∀ k, b ≤ k → k < b + 30 → J' k = J k) : CSu I' J' b σ :=
  h.cp (smC.rf (fun k a c => hI k (by omega) (by omega)) (fun k a c => hJ k (by omega) (by omega))) (smP.rf (fun k a c => hI k (by omega) (by omega))) (smK.rf (fun k a c => hI k (by omega) (by omega))) (by rw [hI b (by omega) (by omega)]) (by rw [hI b (by omega) (by omega)])
/-! which proofs are chosen: of the first k, those with q, but no more than m -/
def chN (q : Nat → Bool) (m : Nat) : Nat → Nat
  | 0 => 0
  | k + 1 => if chN q m k < m ∧ q k = true then chN q m k + 1 else chN q m k
def chS (q : Nat → Bool) (m : Nat) : Nat → Nat
  | 0 => 0
  | k + 1 => if chN q m k < m ∧ q k = true then chS q m k ||| 2 ^ k else chS q m k
theorem chN_le {q : Nat → Bool} {m : Nat} : ∀ k, chN q m k ≤ k ∧ chN q m k ≤ m
  | 0 => ⟨Nat.le_refl _, Nat.zero_le _⟩
  | k + 1 => by
    have ih := chN_le (q := q) (m := m) k
    unfold chN
    split
    · rename_i h
      omega
    · omega
theorem chS_cap {q : Nat → Bool} {m k : Nat} (h : m ≤ chN q m k) : ∀ j, k ≤ j → chS q m j = chS q m k ∧ m ≤ chN q m j
  | 0, hj => by
    have : k = 0 := by omega
    subst this
    exact ⟨rfl, h⟩
  | j + 1, hj => by
    by_cases e : k = j + 1
    · subst e
      exact ⟨rfl, h⟩
    · obtain ⟨h1, h2⟩ := chS_cap h j (by omega)
      have e2 : ¬ (chN q m j < m ∧ q j = true) := fun z => by omega
      constructor
      · conv => lhs; unfold chS
        rw [if_neg e2]
        exact h1
      · unfold chN
        rw [if_neg e2]
        exact h2
theorem or_lt2 {a k : Nat} (h : a < 2 ^ k) : a ||| 2 ^ k < 2 ^ (k + 1) := Nat.or_lt_two_pow (by rw [Nat.pow_succ]; omega) (by rw [Nat.pow_succ]; have := Nat.two_pow_pos k; omega)
theorem chS_lt {q : Nat → Bool} {m : Nat} : ∀ k, chS q m k < 2 ^ k
  | 0 => by show 0 < 1; decide
  | k + 1 => by
    have ih := chS_lt (q := q) (m := m) k
    unfold chS
    split
    · exact or_lt2 ih
    · rw [Nat.pow_succ]; omega
/-- what a set of proofs costs -/
def csN (ct : Nat → Nat) (S : Nat) : Nat → Nat
  | 0 => 0
  | k + 1 => if S.testBit k = true then csN ct S k + ct k else csN ct S k
theorem csN_le {ct : Nat → Nat} {S : Nat} : ∀ k, (∀ j, j < k → ct j ≤ 99) → csN ct S k ≤ 99 * k
  | 0, _ => Nat.zero_le _
  | k + 1, h => by
    have ih := csN_le (ct := ct) (S := S) k (fun j hj => h j (by omega))
    have := h k (by omega)
    unfold csN
    split <;> omega
/-! how likely: what is left of v by those of the first k with p -/
def cutN (p : Nat → Bool) (od : Nat → Nat) (v : Nat) : Nat → Nat
  | 0 => v
  | k + 1 => if p k = true then cutN p od v k * (1000 - od k) / 1000 else cutN p od v k
theorem cutN_le {p : Nat → Bool} {od : Nat → Nat} {v : Nat} : ∀ k, cutN p od v k ≤ v
  | 0 => Nat.le_refl _
  | k + 1 => by
    have ih := cutN_le (p := p) (od := od) (v := v) k
    unfold cutN
    split
    · have h1 : cutN p od v k * (1000 - od k) ≤ cutN p od v k * 1000 := Nat.mul_le_mul_left _ (by omega)
      have h2 := Nat.div_le_div_right (c := 1000) h1
      rw [Nat.mul_div_cancel _ (by decide)] at h2
      omega
    · exact ih
theorem cutN_cong {p q : Nat → Bool} {od : Nat → Nat} {v : Nat} : ∀ k, (∀ j, j < k → p j = q j) → cutN p od v k = cutN q od v k
  | 0, _ => rfl
  | k + 1, h => by
    unfold cutN
    rw [h k (by omega), cutN_cong k (fun j hj => h j (by omega))]
/-- whether proof k is brought (in B), of fact f, and bears x -/
def cutP (B : Nat) (sd fo : Nat → Nat) (Φ : Nat → FS) (x : Int32) (f k : Nat) : Bool := B.testBit k && decide (fo k = f) && decide (berF (sd k) (Φ (fo k)) = x)
/-- the share of fact f -/
def shF_ (B nk : Nat) (sd fo od : Nat → Nat) (Φ : Nat → FS) (f : Nat) : Nat := cutN (cutP B sd fo Φ (nI 0) f) od (1000 - cutN (cutP B sd fo Φ (nI 1) f) od 1000 nk) nk
theorem shF_le {B nk : Nat} {sd fo od : Nat → Nat} {Φ : Nat → FS} {f : Nat} : shF_ B nk sd fo od Φ f ≤ 1000 := Nat.le_trans (cutN_le nk) (Nat.sub_le _ _)
/-- a weight shared out among the ways from fact 12 - m on, as far as they hold -/
def spN (op : Nat) (sh : Nat → Nat) (h : Nat → Bool) : Nat → Nat → Nat → Nat
  | 0, shown, w => if h shown = true then w else 0
  | m + 1, shown, w => if op.testBit (12 - (m + 1)) = true then spN op sh h m (shown ||| 2 ^ (12 - (m + 1))) (w * sh (12 - (m + 1)) / 1000) + spN op sh h m shown (w * (1000 - sh (12 - (m + 1))) / 1000) else spN op sh h m shown w
theorem spN_0 {op : Nat} {sh : Nat → Nat} {h : Nat → Bool} : ∀ m shown, spN op sh h m shown 0 = 0
  | 0, shown => by unfold spN; split <;> rfl
  | m + 1, shown => by
    unfold spN
    rw [Nat.zero_mul, Nat.zero_mul, Nat.zero_div, spN_0 m, spN_0 m]
    split <;> rfl
theorem sp_two {w s : Nat} (hs : s ≤ 1000) : w * s / 1000 + w * (1000 - s) / 1000 ≤ w := by
  have h1 : w * s + w * (1000 - s) = w * 1000 := by rw [← Nat.mul_add]; congr 1; omega
  omega
theorem spN_le {op : Nat} {sh : Nat → Nat} {h : Nat → Bool} (hs : ∀ f, sh f ≤ 1000) : ∀ m shown w, spN op sh h m shown w ≤ w
  | 0, shown, w => by unfold spN; split <;> omega
  | m + 1, shown, w => by
    unfold spN
    have h2 := @sp_two w (sh (12 - (m + 1))) (hs _)
    have a := spN_le (op := op) (h := h) hs m (shown ||| 2 ^ (12 - (m + 1))) (w * sh (12 - (m + 1)) / 1000)
    have b := spN_le (op := op) (h := h) hs m shown (w * (1000 - sh (12 - (m + 1))) / 1000)
    have c := spN_le (op := op) (h := h) hs m shown w
    split <;> omega
theorem spN_skip {op : Nat} {sh : Nat → Nat} {h : Nat → Bool} {m shown w : Nat} (e : op.testBit (12 - (m + 1)) = false) : spN op sh h (m + 1) shown w = spN op sh h m shown w := by
  conv => lhs; unfold spN
  rw [if_neg (by rw [e]; decide)]
/-- what all is worth -/
def wtN (co : Nat → Int32) (ch : Nat → Nat) : Nat → Int32
  | 0 => nI 0
  | c + 1 => wtN co ch c + co c * nI (ch c) / nI 1000
theorem wtN_cong {co : Nat → Int32} {ch dh : Nat → Nat} : ∀ n, (∀ c, c < n → ch c = dh c) → wtN co ch n = wtN co dh n
  | 0, _ => rfl
  | n + 1, h => by
    unfold wtN
    rw [h n (by omega), wtN_cong n (fun c hc => h c (by omega))]
/-- the facts that are so if these open ones are shown -/
def soN (Φ : Nat → FS) (shown : Nat) : Nat := bS (fun f => asB (Φ f)) 12 ||| (shown ^^^ bS (fun f => onB (Φ f)) 12)
def opN (Φ : Nat → FS) : Nat := bS (fun f => opB (Φ f)) 12
theorem xor_lt12 {a b : Nat} (ha : a < 4096) (hb : b < 4096) : a ^^^ b < 4096 := Nat.xor_lt_two_pow (n := 12) ha hb
theorem or_lt12 {a b : Nat} (ha : a < 4096) (hb : b < 4096) : a ||| b < 4096 := Nat.or_lt_two_pow (n := 12) ha hb
theorem soN_lt {Φ : Nat → FS} {shown : Nat} (h : shown < 4096) : soN Φ shown < 4096 := or_lt12 (bS_lt 12) (xor_lt12 h (bS_lt 12))
theorem opN_lt {Φ : Nat → FS} : opN Φ < 4096 := bS_lt 12
/-- how likely a claim is -/
def chF (B nk : Nat) (sd fo od : Nat → Nat) (Φ : Nat → FS) (C : List Nat) : Nat := spN (opN Φ) (shF_ B nk sd fo od Φ) (fun x => evC C (soN Φ x)) 12 0 1000000
theorem chF_le {B nk : Nat} {sd fo od : Nat → Nat} {Φ : Nat → FS} {C : List Nat} : chF B nk sd fo od Φ C ≤ 1000000 := spN_le (fun _ => shF_le) 12 0 1000000
/-- worth to side 0 -/
def wtF (cl : Clm) (k : Prf) (Φ : Nat → FS) (B : Nat) : Int32 := wtN cl.2.1 (fun c => chF B k.1 k.2.1 k.2.2.1 k.2.2.2.1 Φ (cl.2.2 c)) cl.1
