section MOD16
variable {l : Launch} {n : Nat} {ad : Nat → Nat} {cA : Nat → ClassId} {D : va_G} {z : Zw}
theorem any_cong {P Q : Nat → Bool} {n : Nat} (h : ∀ i, i < n → P i = Q i) : anyB P n = anyB Q n := by
  rw [Bool.eq_iff_iff, anyB_t, anyB_t]
  exact ⟨fun ⟨i, a, b⟩ => ⟨i, a, by rw [← h i a]; exact b⟩, fun ⟨i, a, b⟩ => ⟨i, a, by rw [h i a]; exact b⟩⟩
theorem sub_pd {i w : Nat} : sub (pd i w) w = true := decide_eq_true (pd_sub i w)
theorem any_pd {P : Nat → Bool} {w : Nat} (hw : w < 4096) : anyB (fun s => sub s w && P s) 4096 = anyB (fun i => P (pd i w)) (2 ^ pc w) := by
  rw [Bool.eq_iff_iff, anyB_t, anyB_t]
  constructor
  · rintro ⟨s, hs, h⟩
    rw [Bool.and_eq_true] at h
    obtain ⟨i, hi, e⟩ := pd_onto (by omega) (of_decide_eq_true h.1)
    exact ⟨i, hi, by rw [e]; exact h.2⟩
  · rintro ⟨i, hi, h⟩
    exact ⟨pd i w, pd12 hw, by rw [Bool.and_eq_true]; exact ⟨sub_pd, h⟩⟩
theorem suD_0 {C : List Nat} {Φ : Nat → FS} (hok : fsA Φ) : suD C Φ 0 = surF C Φ := by
  have h1 : anyB (fun s => sub s (opN Φ ||| 0) && !(evC C (soD Φ s 0))) 4096 = anyB (fun i => !(evC C (soN Φ (pd i (opN Φ))))) (2 ^ pc (opN Φ)) := by
    rw [Nat.or_zero, ← any_pd (P := fun s => !(evC C (soN Φ s))) opN_lt]
    refine any_cong (fun s _ => ?_)
    cases e : sub s (opN Φ)
    · rfl
    · rw [soD_0 hok e]
  have h2 : anyB (fun s => sub s (opN Φ ||| 0) && evC C (soD Φ s 0)) 4096 = anyB (fun i => evC C (soN Φ (pd i (opN Φ)))) (2 ^ pc (opN Φ)) := by
    rw [Nat.or_zero, ← any_pd (P := fun s => evC C (soN Φ s)) opN_lt]
    refine any_cong (fun s _ => ?_)
    cases e : sub s (opN Φ)
    · rfl
    · rw [soD_0 hok e]
  unfold suD surF
  rw [h1, h2]
/-! turns -/
def ptB (C : List Nat) (Φ : Nat → FS) (f s : Nat) : Bool := sub s (opN Φ) && (evC C (soD Φ s 0) != evC C (soD Φ (s ^^^ 2 ^ f) 0))
theorem bit_on {s f : Nat} (h : s.testBit f = true) : anN s (2 ^ f) ||| 2 ^ f = s ∧ s ^^^ 2 ^ f = anN s (2 ^ f) := by
  constructor <;> apply Nat.eq_of_testBit_eq <;> intro i
  · rw [Nat.testBit_or, anN_bit, Nat.testBit_two_pow]
    by_cases e : f = i
    · subst e; rw [h, decide_eq_true rfl]; rfl
    · rw [decide_eq_false e]; simp
  · rw [Nat.testBit_xor, anN_bit, Nat.testBit_two_pow]
    by_cases e : f = i
    · subst e; rw [h, decide_eq_true rfl]; rfl
    · rw [decide_eq_false e]; simp
theorem bit_off {s f : Nat} (h : s.testBit f = false) : anN s (2 ^ f) = s ∧ s ^^^ 2 ^ f = s ||| 2 ^ f := by
  constructor <;> apply Nat.eq_of_testBit_eq <;> intro i
  · rw [anN_bit, Nat.testBit_two_pow]
    by_cases e : f = i
    · subst e; rw [h, decide_eq_true rfl]; rfl
    · rw [decide_eq_false e]; simp
  · rw [Nat.testBit_xor, Nat.testBit_or, Nat.testBit_two_pow]
    by_cases e : f = i
    · subst e; rw [h, decide_eq_true rfl]; rfl
    · rw [decide_eq_false e]; simp
theorem sub_or {a b w : Nat} (ha : sub a w = true) (hb : sub b w = true) : sub (a ||| b) w = true := by
  rw [sub_t] at *
  intro j hj
  rw [Nat.testBit_or, Bool.or_eq_true] at hj
  exact hj.elim (ha j) (hb j)
theorem sub_tr {a b w : Nat} (ha : sub a b = true) (hb : sub b w = true) : sub a w = true := by
  rw [sub_t] at *
  exact fun j hj => hb j (ha j hj)
theorem sub_an {a b : Nat} : sub (anN a b) a = true := by
  rw [sub_t]
  intro j hj
  rw [anN_bit, Bool.and_eq_true] at hj
  exact hj.1
theorem sub_anm {a b w : Nat} (h : sub a w = true) : sub (anN a b) (anN w b) = true := by
  rw [sub_t] at *
  intro j hj
  rw [anN_bit, Bool.and_eq_true] at *
  exact ⟨h j hj.1, hj.2⟩
theorem sub_2p {f w : Nat} (h : w.testBit f = true) : sub (2 ^ f) w = true := by
  rw [sub_t]
  intro j hj
  rw [Nat.testBit_two_pow] at hj
  rw [← of_decide_eq_true hj]; exact h
theorem tn_eq {C : List Nat} {Φ : Nat → FS} (hok : fsA Φ) {f : Nat} (hf : f < 12) (ho : (opN Φ).testBit f = true) : anyB (ptB C Φ f) 4096 = tnB C Φ f := by
  have hop := @opN_lt Φ
  have h2f : 2 ^ f < 4096 := (show 2 ^ f < 2 ^ 12 from Nat.pow_lt_pow_right (by decide) hf)
  have hO := @anN_lt (opN Φ) (2 ^ f) 12 hop
  unfold tnB
  rw [Bool.eq_iff_iff, anyB_t, anyB_t]
  constructor
  · rintro ⟨s, hs, h⟩
    unfold ptB at h
    rw [Bool.and_eq_true] at h
    obtain ⟨h1, h2⟩ := h
    obtain ⟨i, hi, e⟩ := pd_onto (w := anN (opN Φ) (2 ^ f)) (by omega) (of_decide_eq_true (sub_anm (b := 2 ^ f) h1))
    refine ⟨i, hi, ?_⟩
    have h0 : sub (anN s (2 ^ f)) (opN Φ) = true := sub_tr sub_an h1
    have h3 := sub_or h0 (sub_2p ho)
    rw [e]
    cases hb : s.testBit f
    · obtain ⟨b1, b2⟩ := bit_off hb
      rw [b2] at h2
      rw [b1] at h3 ⊢
      rw [soD_0 hok h1, soD_0 hok h3] at h2
      rw [bne_iff_ne] at *
      exact fun q => h2 q.symm
    · obtain ⟨b1, b2⟩ := bit_on hb
      rw [b2, soD_0 hok h1, soD_0 hok h0] at h2
      rw [b1]
      exact h2
  · rintro ⟨i, hi, h⟩
    have hp : sub (pd i (anN (opN Φ) (2 ^ f))) (opN Φ) = true := sub_tr sub_pd sub_an
    have h3 := sub_or hp (sub_2p ho)
    have hb : (pd i (anN (opN Φ) (2 ^ f))).testBit f = false := by
      cases e : (pd i (anN (opN Φ) (2 ^ f))).testBit f
      · rfl
      · have := sub_t.mp (sub_pd (i := i) (w := anN (opN Φ) (2 ^ f))) f e
        rw [anN_bit, Nat.testBit_two_pow_self] at this
        simp at this
    obtain ⟨b1, b2⟩ := bit_off hb
    refine ⟨pd i (anN (opN Φ) (2 ^ f)), pd12 hO, ?_⟩
    unfold ptB
    rw [Bool.and_eq_true]
    refine ⟨hp, ?_⟩
    rw [b2, soD_0 hok hp, soD_0 hok h3]
    rw [bne_iff_ne] at *
    exact fun q => h q.symm
/-! enough -/
theorem en_eq {C : List Nat} {Φ : Nat → FS} (hok : fsA Φ) {S : Nat} (hS : sub S (opN Φ) = true) : enM C Φ S = enB C Φ S := by
  have hop := @opN_lt Φ
  have hO := @anN_lt (opN Φ) S 12 hop
  have an_or : ∀ {s : Nat}, sub S s = true → anN s S ||| S = s := fun {s} h => by
    apply Nat.eq_of_testBit_eq
    intro j
    rw [Nat.testBit_or, anN_bit]
    cases e : S.testBit j
    · simp
    · rw [sub_t.mp h j e]; rfl
  unfold enM enB
  refine congrArg Bool.not ?_
  rw [Bool.eq_iff_iff, anyB_t, anyB_t]
  constructor
  · rintro ⟨s, hs, h⟩
    rw [Bool.and_eq_true, Bool.and_eq_true] at h
    obtain ⟨⟨h1, h2⟩, h3⟩ := h
    obtain ⟨i, hi, e⟩ := pd_onto (w := anN (opN Φ) S) (by omega) (of_decide_eq_true (sub_anm (b := S) h1))
    refine ⟨i, hi, ?_⟩
    rw [e, an_or h2, ← soD_0 hok h1]
    exact h3
  · rintro ⟨i, hi, h⟩
    have hp : sub (pd i (anN (opN Φ) S)) (opN Φ) = true := sub_tr sub_pd sub_an
    have h3 := sub_or hp hS
    have hS4 : S < 4096 := Nat.lt_of_le_of_lt (by rw [← of_decide_eq_true hS]; exact Nat.and_le_right) hop
    refine ⟨pd i (anN (opN Φ) S) ||| S, or_lt12 (pd12 hO) hS4, ?_⟩
    rw [Bool.and_eq_true, Bool.and_eq_true]
    refine ⟨⟨h3, ?_⟩, by rw [soD_0 hok h3]; exact h⟩
    rw [sub_t]
    intro j hj
    rw [Nat.testBit_or, hj, Bool.or_true]
/-! the first of the fewest -/
theorem fw_none {P : Nat → Bool} {w : Nat} : ∀ N, fwN P w N = none → ∀ i, i < N → P (pd i w) = false
  | 0, _, i, hi => absurd hi (Nat.not_lt_zero _)
  | N + 1, h, i, hi => by
    rw [fwN_s] at h
    by_cases c : ((fwN P w N).all (fun f => decide (pc (pd N w) < pc f)) && P (pd N w)) = true
    · rw [if_pos c] at h; cases h
    · rw [if_neg c] at h
      by_cases e : i = N
      · subst e
        rw [h] at c
        cases hp : P (pd i w)
        · rfl
        · rw [hp] at c; exact absurd rfl c
      · exact fw_none N h i (by omega)
theorem fw_some {P : Nat → Bool} {w : Nat} : ∀ N s, fwN P w N = some s → ∃ i, i < N ∧ s = pd i w ∧ P s = true ∧ ∀ j, j < N → P (pd j w) = true → pc s < pc (pd j w) ∨ (pc s = pc (pd j w) ∧ i ≤ j)
  | 0, s, h => by cases h
  | N + 1, s, h => by
    rw [fwN_s] at h
    by_cases c : ((fwN P w N).all (fun f => decide (pc (pd N w) < pc f)) && P (pd N w)) = true
    · rw [if_pos c] at h
      injection h with h
      subst h
      rw [Bool.and_eq_true] at c
      refine ⟨N, Nat.lt_succ_self _, rfl, c.2, fun j hj hp => ?_⟩
      by_cases e : j = N
      · subst e; exact Or.inr ⟨rfl, Nat.le_refl _⟩
      · cases ho : fwN P w N with
        | none =>
          have := fw_none N ho j (by omega)
          rw [this] at hp; cases hp
        | some s2 =>
          obtain ⟨i2, _, hs2, _, hm⟩ := fw_some N s2 ho
          have c1 := c.1
          rw [ho, Option.all_some, decide_eq_true_eq] at c1
          rcases hm j (by omega) hp with q | q
          · exact Or.inl (by omega)
          · exact Or.inl (by omega)
    · rw [if_neg c] at h
      obtain ⟨i, hi, hs, hP, hm⟩ := fw_some N s h
      refine ⟨i, by omega, hs, hP, fun j hj hp => ?_⟩
      by_cases e : j = N
      · subst e
        rw [h, hp, Bool.and_true, Option.all_some, decide_eq_true_eq] at c
        by_cases e2 : pc s = pc (pd j w)
        · exact Or.inr ⟨e2, by omega⟩
        · exact Or.inl (by omega)
      · exact hm j (by omega) hp
theorem fw_of {P : Nat → Bool} {w s : Nat} (hw : w < 4096) (hs : sub s w = true) (hP : P s = true) (hm : ∀ s', sub s' w = true → P s' = true → pc s < pc s' ∨ (pc s = pc s' ∧ s ≤ s')) : fwN P w (2 ^ pc w) = some s := by
  obtain ⟨i, hi, e⟩ := pd_onto (w := w) (by omega) (of_decide_eq_true hs)
  cases ho : fwN P w (2 ^ pc w) with
  | none =>
    have := fw_none _ ho i hi
    rw [e, hP] at this; cases this
  | some s2 =>
    obtain ⟨i2, hi2, hs2, hP2, hm2⟩ := fw_some _ s2 ho
    have a := hm s2 (by rw [hs2]; exact sub_pd) hP2
    have b := hm2 i hi (by rw [e]; exact hP)
    rw [e] at b
    have h1 : i2 ≤ i := by omega
    have h2 : s ≤ s2 := by omega
    by_cases e2 : i2 = i
    · rw [hs2, e2, e]
    · have := pd_mono (w := w) (i := i2) (j := i) (by omega) (by omega) hi
      omega
theorem fw_ofn {P : Nat → Bool} {w : Nat} (h : ∀ s, sub s w = true → P s = false) : fwN P w (2 ^ pc w) = none := by
  cases ho : fwN P w (2 ^ pc w) with
  | none => rfl
  | some s2 =>
    obtain ⟨i2, hi2, hs2, hP2, _⟩ := fw_some _ s2 ho
    rw [h s2 (by rw [hs2]; exact sub_pd)] at hP2; cases hP2
theorem ct_mono {p q : Nat → Bool} : ∀ n, (∀ i, i < n → p i = true → q i = true) → fb_ct p n ≤ fb_ct q n ∧ (fb_ct q n ≤ fb_ct p n → ∀ i, i < n → p i = q i)
  | 0, _ => ⟨Nat.le_refl _, fun _ i hi => absurd hi (Nat.not_lt_zero _)⟩
  | n + 1, h => by
    obtain ⟨h1, h2⟩ := ct_mono n (fun i hi => h i (by omega))
    rw [fb_ct_succ, fb_ct_succ]
    have h3 := h n (by omega)
    cases hp : p n <;> cases hq : q n
    · exact ⟨by simpa using h1, fun hl i hi => by
        by_cases e : i = n
        · rw [e, hp, hq]
        · exact h2 (by simpa using hl) i (by omega)⟩
    · exact ⟨by simp; omega, fun hl => by simp at hl; omega⟩
    · rw [h3 hp] at hq; cases hq
    · exact ⟨by simpa using h1, fun hl i hi => by
        by_cases e : i = n
        · rw [e, hp, hq]
        · exact h2 (by simpa using hl) i (by omega)⟩
theorem pc_mono {a b : Nat} (h : sub a b = true) : pc a ≤ pc b := by
  unfold pc
  rw [pc_ct, pc_ct]
  exact (ct_mono 16 (fun i _ hi => sub_t.mp h i hi)).1
theorem pc_eqs {a b : Nat} (hb : b < 65536) (h : sub a b = true) (hc : pc b ≤ pc a) : a = b := by
  unfold pc at hc
  rw [pc_ct, pc_ct] at hc
  have h2 := (ct_mono (p := fun i => a.testBit i) (q := fun i => b.testBit i) 16 (fun i _ hi => sub_t.mp h i hi)).2 hc
  have ha : a < 65536 := Nat.lt_of_le_of_lt (by rw [← of_decide_eq_true h]; exact Nat.and_le_right) hb
  apply Nat.eq_of_testBit_eq
  intro i
  by_cases hi : i < 16
  · exact h2 i hi
  · have h3 : 65536 ≤ 2 ^ i := (show 2 ^ 16 ≤ 2 ^ i from Nat.pow_le_pow_right (by decide) (by omega))
    rw [Nat.testBit_lt_two_pow (by omega), Nat.testBit_lt_two_pow (by omega)]
theorem pc_0 {a : Nat} (ha : a < 65536) (h : pc a = 0) : a = 0 := (pc_eqs ha (a := 0) (by unfold sub; rw [Nat.zero_and]; rfl) (by omega)).symm
/-! silence -/
theorem soD_x {Φ : Nat → FS} (hok : fsA Φ) {S s : Nat} (hS : ∀ f, f < 12 → S.testBit f = true → Φ f 0 = nI 2) (hS4 : S < 4096) (hs : sub s (opN Φ ||| S) = true) : soD Φ s S = soN Φ (s &&& opN Φ) ^^^ anN S s := by
  apply Nat.eq_of_testBit_eq
  intro f
  unfold soD soN
  rw [bS_bit, Nat.testBit_xor, Nat.testBit_or, Nat.testBit_xor, bS_bit, bS_bit, Nat.testBit_and, anN_bit]
  by_cases hf : f < 12
  · rw [decide_eq_true hf, Bool.true_and, Bool.true_and, Bool.true_and, opN_bit hf]
    cases hSf : S.testBit f
    · have h1 : s.testBit f = true → opB (Φ f) = true := fun q => by
        have := sub_t.mp hs f q
        rw [Nat.testBit_or, hSf, Bool.or_false, opN_bit hf] at this
        exact this
      rw [Bool.false_and, Bool.xor_false, sd_on (hok f hf) h1]
      cases hb : s.testBit f
      · rfl
      · rw [h1 hb]; rfl
    · have h2 := hS f hf hSf
      have hk := hok f hf
      have hop : opB (Φ f) = false := by unfold opB; rw [h2]; decide
      have hon : onB (Φ f) = false := by unfold onB; rw [h2]; simp
      rw [hop, hon, Bool.and_false]
      unfold sdB asB
      rcases hk with hk | hk
      · rw [hk.1] at h2; exact absurd h2 (by decide)
      · rw [h2]
        rcases hk.2.2 with h1 | h1 <;> rw [h1] <;> cases s.testBit f <;> decide
  · have hz : ∀ a, a < 4096 → a.testBit f = false := fun a ha => Nat.testBit_lt_two_pow (Nat.lt_of_lt_of_le ha (show 2 ^ 12 ≤ 2 ^ f from Nat.pow_le_pow_right (by decide) (by omega)))
    rw [decide_eq_false hf, hz _ hS4, hz _ opN_lt]
    simp
theorem silD {C : List Nat} {Φ : Nat → FS} (hok : fsA Φ) {S : Nat} (hS : ∀ f, f < 12 → S.testBit f = true → Φ f 0 = nI 2) (hS4 : S < 4096) (hsu : surF C Φ ≠ -1) : (suD C Φ S ≠ surF C Φ) ↔ ∃ T, sub T S = true ∧ cgB C Φ T (decide (surF C Φ = nI 1)) = true := by
  have hop := @opN_lt Φ
  have hmay : opN Φ ||| S < 4096 := or_lt12 hop hS4
  have key : (suD C Φ S ≠ surF C Φ) ↔ ∃ s, s < 4096 ∧ sub s (opN Φ ||| S) = true ∧ evC C (soD Φ s S) ≠ decide (surF C Φ = nI 1) := by
    rcases (show surF C Φ = nI 1 ∨ surF C Φ = nI 0 from by
      have h := hsu
      unfold surF at h ⊢
      split
      · exact Or.inl rfl
      · split
        · exact Or.inr rfl
        · rename_i h1 h2
          rw [if_neg h1, if_neg h2] at h
          exact absurd rfl h) with h1 | h1
    · rw [h1, decide_eq_true rfl]
      unfold suD
      cases hA : anyB (fun s => sub s (opN Φ ||| S) && !(evC C (soD Φ s S))) 4096
      · rw [if_pos rfl]
        refine Iff.intro (fun q => absurd rfl q) (fun ⟨s, a, b, c⟩ => ?_)
        have := anyB_f.mp hA s a
        simp only [b, Bool.true_and] at this
        exact absurd (by simpa using this) c
      · rw [if_neg (by decide)]
        obtain ⟨s, a, b⟩ := (anyB_t _).mp hA
        rw [Bool.and_eq_true] at b
        refine Iff.intro (fun _ => ⟨s, a, b.1, by have := b.2; intro q; rw [q] at this; cases this⟩) (fun _ => ?_)
        split <;> decide
    · rw [h1, decide_eq_false (by decide)]
      unfold suD
      cases hB : anyB (fun s => sub s (opN Φ ||| S) && evC C (soD Φ s S)) 4096
      · have hz := anyB_f.mp hB 0 (by decide)
        have hs0 : sub 0 (opN Φ ||| S) = true := by unfold sub; rw [Nat.zero_and]; rfl
        simp only [hs0, Bool.true_and] at hz
        have hA : anyB (fun s => sub s (opN Φ ||| S) && !(evC C (soD Φ s S))) 4096 = true := (anyB_t _).mpr ⟨0, by decide, by simp only [hs0, hz]; rfl⟩
        rw [hA, if_neg (by decide), if_pos rfl]
        refine Iff.intro (fun q => absurd rfl q) (fun ⟨s, a, b, c⟩ => ?_)
        have := anyB_f.mp hB s a
        simp only [b, Bool.true_and] at this
        exact absurd this c
      · obtain ⟨s, a, b⟩ := (anyB_t _).mp hB
        rw [Bool.and_eq_true] at b
        refine Iff.intro (fun _ => ⟨s, a, b.1, by rw [b.2]; decide⟩) (fun _ => ?_)
        rw [if_neg (c := true = false) (by decide)]
        split <;> decide
  rw [key]
  constructor
  · rintro ⟨s, hs, h1, h2⟩
    refine ⟨anN S s, sub_an, ?_⟩
    have hsp : sub (s &&& opN Φ) (opN Φ) = true := by
      rw [sub_t]
      intro j hj
      rw [Nat.testBit_and, Bool.and_eq_true] at hj
      exact hj.2
    obtain ⟨i, hi, e⟩ := pd_onto (w := opN Φ) (by omega) (of_decide_eq_true hsp)
    refine (anyB_t _).mpr ⟨i, hi, ?_⟩
    rw [e, ← soD_x hok hS hS4 h1]
    exact bne_iff_ne.mpr h2
  · rintro ⟨T, hT, h⟩
    obtain ⟨i, hi, h2⟩ := (anyB_t _).mp h
    have hdis : ∀ j, S.testBit j = true → (opN Φ).testBit j = false := fun j hj => by
      have hj12 : j < 12 := by
        by_cases q : j < 12
        · exact q
        · rw [Nat.testBit_lt_two_pow (Nat.lt_of_lt_of_le hS4 (show 2 ^ 12 ≤ 2 ^ j from Nat.pow_le_pow_right (by decide) (by omega)))] at hj
          cases hj
      rw [opN_bit hj12]
      unfold opB
      rw [hS j hj12 hj]
      decide
    have hpd := sub_t.mp (sub_pd (i := i) (w := opN Φ))
    have hs1 : sub (pd i (opN Φ) ||| anN S T) (opN Φ ||| S) = true := by
      rw [sub_t]
      intro j hj
      rw [Nat.testBit_or, Bool.or_eq_true] at hj ⊢
      rcases hj with q | q
      · exact Or.inl (hpd j q)
      · exact Or.inr (sub_t.mp (sub_an (a := S) (b := T)) j q)
    refine ⟨pd i (opN Φ) ||| anN S T, or_lt12 (pd12 hop) (anN_lt (k := 12) hS4), hs1, ?_⟩
    rw [soD_x hok hS hS4 hs1]
    have e1 : (pd i (opN Φ) ||| anN S T) &&& opN Φ = pd i (opN Φ) := by
      apply Nat.eq_of_testBit_eq
      intro j
      rw [Nat.testBit_and, Nat.testBit_or, anN_bit]
      cases hp : (pd i (opN Φ)).testBit j
      · cases hSj : S.testBit j
        · simp
        · rw [hdis j hSj]; simp
      · rw [hpd j hp]; simp
    have e2 : anN S (pd i (opN Φ) ||| anN S T) = T := by
      apply Nat.eq_of_testBit_eq
      intro j
      rw [anN_bit, Nat.testBit_or, anN_bit]
      cases hSj : S.testBit j
      · cases hTj : T.testBit j
        · rfl
        · rw [sub_t.mp hT j hTj] at hSj; cases hSj
      · have hp : (pd i (opN Φ)).testBit j = false := by
          cases q : (pd i (opN Φ)).testBit j
          · rfl
          · have := hpd j q
            rw [hdis j hSj] at this; cases this
        rw [hp]
        cases T.testBit j <;> rfl
    rw [e1, e2]
    exact bne_iff_ne.mp h2
end MOD16
