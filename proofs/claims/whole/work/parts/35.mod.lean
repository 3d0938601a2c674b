section MOD4
variable {l : Launch} {n : Nat} {ad : Nat → Nat} {cA : Nat → ClassId} {D : va_G} {z : Zw}
/-- the model's proofs of slot y -/
def MPrf (I : MI) (y nk : Nat) (sd fo od ct : Nat → Nat) (br : Nat → Bool) : Prop := nk ≤ 16 ∧ I 126 y = nI nk ∧ ∀ k, k < nk → I 127 (16 * y + k) = nI (sd k) ∧ sd k < 2 ∧ I 128 (16 * y + k) = nI (fo k) ∧ fo k < 12 ∧ I 129 (16 * y + k) = nI (od k) ∧ od k ≤ 1000 ∧ I 130 (16 * y + k) = nI (ct k) ∧ ct k ≤ 99 ∧ I 131 (16 * y + k) = b32 (br k)
def MClm (I : MI) (y nc : Nat) (co : Nat → Int32) (cd : Nat → List Nat) : Prop := nc ≤ 6 ∧ I 118 y = nI nc ∧ ∀ c, c < nc → I 119 (6 * y + c) = co c ∧ coOK (co c) ∧ I 121 (6 * y + c) = nI (cd c).length ∧ (∀ k, k < (cd c).length → I 120 (720 * y + (120 * c + k)) = nI (enc ((cd c).getD k 0))) ∧ cdOK (cd c)
/-- the proofs of slot 0 -/
def MK0 (I : MI) (k : Prf) : Prop := k.1 ≤ 16 ∧ I 126 0 = nI k.1 ∧ ∀ j, j < k.1 → I 127 j = nI (k.2.1 j) ∧ k.2.1 j < 2 ∧ I 128 j = nI (k.2.2.1 j) ∧ k.2.2.1 j < 12 ∧ I 129 j = nI (k.2.2.2.1 j) ∧ k.2.2.2.1 j ≤ 1000 ∧ I 130 j = nI (k.2.2.2.2.1 j) ∧ k.2.2.2.2.1 j ≤ 99 ∧ I 131 j = b32 (k.2.2.2.2.2 j)
def MC0 (I : MI) (cl : Clm) : Prop := cl.1 ≤ 6 ∧ I 118 0 = nI cl.1 ∧ ∀ c, c < cl.1 → I 119 c = cl.2.1 c ∧ coOK (cl.2.1 c) ∧ MCd I c (cl.2.2 c)
theorem MPrf.zz {I : MI} {k : Prf} (h : MPrf I 0 k.1 k.2.1 k.2.2.1 k.2.2.2.1 k.2.2.2.2.1 k.2.2.2.2.2) : MK0 I k := by
  have q := h
  unfold MPrf at q
  simp only [z_add] at q
  exact q
theorem MClm.zz {I : MI} {cl : Clm} (h : MClm I 0 cl.1 cl.2.1 cl.2.2) : MC0 I cl := by
  have q := h
  unfold MClm at q
  simp only [z_add] at q
  exact ⟨q.1, q.2.1, fun c hc => ⟨(q.2.2 c hc).1, (q.2.2 c hc).2.1, (q.2.2 c hc).2.2.1, (q.2.2 c hc).2.2.2.1, (q.2.2 c hc).2.2.2.2⟩⟩
theorem MK0.of {I I' : MI} {k : Prf} (h : MK0 I k) (hF : ∀ c, c < 132 → 125 < c → I' c = I c) : MK0 I' k := by
  refine ⟨h.1, by rw [hF 126 (by decide) (by decide)]; exact h.2.1, fun j hj => ?_⟩
  rw [hF 127 (by decide) (by decide), hF 128 (by decide) (by decide), hF 129 (by decide) (by decide), hF 130 (by decide) (by decide), hF 131 (by decide) (by decide)]
  exact h.2.2 j hj
theorem MC0.of {I I' : MI} {k : Clm} (h : MC0 I k) (hF : ∀ c, c < 122 → 117 < c → I' c = I c) : MC0 I' k := by
  refine ⟨h.1, by rw [hF 118 (by decide) (by decide)]; exact h.2.1, fun j hj => ⟨by rw [hF 119 (by decide) (by decide)]; exact (h.2.2 j hj).1, (h.2.2 j hj).2.1, (h.2.2 j hj).2.2.of (hF 120 (by decide) (by decide)) (hF 121 (by decide) (by decide))⟩⟩
theorem FcM.of {I I' : MI} {Φ : Nat → FS} (h : FcM I 134 Φ) (hF : ∀ c, c < 140 → 134 < c → I' c = I c) : FcM I' 134 Φ := fun f hf i hi => by rw [hF _ (by omega) (by omega)]; exact h f hf i hi
theorem opN_bit {Φ : Nat → FS} {f : Nat} (hf : f < 12) : (opN Φ).testBit f = opB (Φ f) := by
  show (bS (fun f => opB (Φ f)) 12).testBit f = _
  rw [bS_bit, decide_eq_true hf, Bool.true_and]
theorem ber_c {φ : FS} (h : opB φ = false) {sd : Nat} : berF sd φ = -1 := by
  unfold berF
  rw [if_pos]
  have h2 : ¬ (φ 0 ≠ nI 0 ∧ φ 0 ≠ nI 2) := of_decide_eq_false h
  by_cases a : φ 0 = nI 0
  · exact Or.inl a
  · by_cases b : φ 0 = nI 2
    · exact Or.inr b
    · exact absurd ⟨a, b⟩ h2
theorem ber_o {φ : FS} (h : opB φ = true) {sd : Nat} : berF sd φ = if φ 2 = nI sd then nI 1 else if φ 0 = nI 4 then -1 else nI 0 := by
  have h2 : φ 0 ≠ nI 0 ∧ φ 0 ≠ nI 2 := of_decide_eq_true h
  unfold berF
  rw [if_neg (fun q => q.elim h2.1 h2.2)]
/-- which proof was chosen as the i-th -/
def chI (q : Nat → Bool) (m : Nat) : Nat → Nat → Nat
  | 0 => fun _ => 0
  | k + 1 => if chN q m k < m ∧ q k = true then (fun i => if i = chN q m k then k else chI q m k i) else chI q m k
theorem chI_lt {q : Nat → Bool} {m : Nat} : ∀ k i, i < chN q m k → chI q m k i < k
  | 0, i, h => absurd h (Nat.not_lt_zero _)
  | k + 1, i, h => by
    unfold chN at h
    unfold chI
    by_cases e : chN q m k < m ∧ q k = true
    · rw [if_pos e] at h
      rw [if_pos e]
      show (if i = chN q m k then k else chI q m k i) < k + 1
      by_cases e2 : i = chN q m k
      · rw [if_pos e2]; omega
      · rw [if_neg e2]; have := chI_lt (q := q) (m := m) k i (by omega); omega
    · rw [if_neg e] at h
      rw [if_neg e]
      have := chI_lt (q := q) (m := m) k i h
      omega
theorem chI_cap {q : Nat → Bool} {m k : Nat} (h : m ≤ chN q m k) : ∀ j, k ≤ j → chN q m j = chN q m k ∧ chI q m j = chI q m k
  | 0, hj => by
    have : k = 0 := by omega
    subst this
    exact ⟨rfl, rfl⟩
  | j + 1, hj => by
    by_cases e : k = j + 1
    · subst e
      exact ⟨rfl, rfl⟩
    · obtain ⟨h1, h2⟩ := chI_cap h j (by omega)
      have e2 : ¬ (chN q m j < m ∧ q j = true) := fun z => by omega
      constructor
      · conv => lhs; unfold chN
        rw [if_neg e2]
        exact h1
      · conv => lhs; unfold chI
        rw [if_neg e2]
        exact h2
/-- the set that a pick of the chosen ones spells -/
def seN (ch : Nat → Nat) (p : Nat) : Nat → Nat
  | 0 => 0
  | i + 1 => if p.testBit i = true then seN ch p i ||| 2 ^ ch i else seN ch p i
theorem seN_cong {ch ch' : Nat → Nat} {p : Nat} : ∀ n, (∀ i, i < n → ch i = ch' i) → seN ch p n = seN ch' p n
  | 0, _ => rfl
  | n + 1, h => by
    unfold seN
    rw [seN_cong n (fun i hi => h i (by omega)), h n (by omega)]
theorem pdN_z : ∀ n i, pdN n i 0 = 0
  | 0, i => rfl
  | n + 1, i => by
    unfold pdN
    rw [if_neg (by decide), Nat.zero_div, pdN_z n i]
theorem pcN_z : ∀ n, pcN n 0 = 0
  | 0 => rfl
  | n + 1 => by
    unfold pcN
    rw [Nat.zero_div, pcN_z n]
theorem pdN_top : ∀ k n i w, w < 2 ^ k → k < n → pdN n i (w ||| 2 ^ k) = (if i.testBit (pcN n w) = true then pdN n i w ||| 2 ^ k else pdN n i w)
  | 0, n, i, w, hw, hn => by
    have : w = 0 := by
      have : w < 1 := hw
      omega
    subst this
    obtain ⟨m, rfl⟩ : ∃ m, n = m + 1 := ⟨n - 1, by omega⟩
    rw [Nat.zero_or, pcN_z, pdN_z]
    show (if (1 : Nat) % 2 = 1 then i % 2 + 2 * pdN m (i / 2) (1 / 2) else _) = _
    rw [if_pos (by decide), show (1 : Nat) / 2 = 0 from rfl, pdN_z, Nat.testBit_zero]
    rcases Nat.mod_two_eq_zero_or_one i with h | h <;> rw [h] <;> rfl
  | k + 1, n, i, w, hw, hn => by
    obtain ⟨m, rfl⟩ : ∃ m, n = m + 1 := ⟨n - 1, by omega⟩
    have e1 : (w ||| 2 ^ (k + 1)) % 2 = w % 2 := by
      have h := Nat.testBit_or w (2 ^ (k + 1)) 0
      rw [Nat.testBit_zero, Nat.testBit_zero, Nat.testBit_two_pow, decide_eq_false (show ¬ k + 1 = 0 by omega), Bool.or_false] at h
      have := decide_eq_decide.mp h
      omega
    have e2 : (w ||| 2 ^ (k + 1)) / 2 = w / 2 ||| 2 ^ k := by
      apply Nat.eq_of_testBit_eq
      intro j
      rw [← Nat.testBit_succ, Nat.testBit_or, Nat.testBit_or, ← Nat.testBit_succ, Nat.testBit_two_pow, Nat.testBit_two_pow]
      congr 1
      exact decide_eq_decide.mpr (by omega)
    have hw2 : w / 2 < 2 ^ k := by rw [Nat.pow_succ] at hw; omega
    have dbl : ∀ a, 2 * (a ||| 2 ^ k) = 2 * a ||| 2 ^ (k + 1) := fun a => by
      apply Nat.eq_of_testBit_eq
      intro j
      cases j with
      | zero => rw [Nat.testBit_or, Nat.testBit_zero, Nat.testBit_zero, Nat.testBit_two_pow, decide_eq_false (show ¬ k + 1 = 0 by omega), Bool.or_false, decide_eq_false (by omega), decide_eq_false (by omega)]
      | succ j =>
        rw [Nat.testBit_or, Nat.testBit_succ, Nat.testBit_succ, Nat.mul_div_cancel_left _ (by decide), Nat.mul_div_cancel_left _ (by decide), Nat.testBit_or, Nat.testBit_two_pow, Nat.testBit_two_pow]
        congr 1
        exact decide_eq_decide.mpr (by omega)
    have odd : ∀ a, 1 + (2 * a ||| 2 ^ (k + 1)) = (1 + 2 * a) ||| 2 ^ (k + 1) := fun a => by
      apply Nat.eq_of_testBit_eq
      intro j
      rw [← dbl]
      cases j with
      | zero => rw [Nat.testBit_or, Nat.testBit_zero, Nat.testBit_zero, Nat.testBit_two_pow, decide_eq_false (show ¬ k + 1 = 0 by omega), Bool.or_false, decide_eq_true (by omega), decide_eq_true (by omega)]
      | succ j =>
        rw [Nat.testBit_or, Nat.testBit_succ, Nat.testBit_succ, show (1 + 2 * (a ||| 2 ^ k)) / 2 = a ||| 2 ^ k by omega, show (1 + 2 * a) / 2 = a by omega, Nat.testBit_or, Nat.testBit_two_pow, Nat.testBit_two_pow]
        congr 1
        exact decide_eq_decide.mpr (by omega)
    show (if (w ||| 2 ^ (k + 1)) % 2 = 1 then i % 2 + 2 * pdN m (i / 2) ((w ||| 2 ^ (k + 1)) / 2) else 2 * pdN m i ((w ||| 2 ^ (k + 1)) / 2)) = if i.testBit (w % 2 + pcN m (w / 2)) = true then (if w % 2 = 1 then i % 2 + 2 * pdN m (i / 2) (w / 2) else 2 * pdN m i (w / 2)) ||| 2 ^ (k + 1) else (if w % 2 = 1 then i % 2 + 2 * pdN m (i / 2) (w / 2) else 2 * pdN m i (w / 2))
    rw [e1, e2]
    by_cases h : w % 2 = 1
    · rw [if_pos h, if_pos h, pdN_top k m (i / 2) (w / 2) hw2 (by omega), h, show 1 + pcN m (w / 2) = pcN m (w / 2) + 1 by omega, Nat.testBit_succ]
      by_cases t : (i / 2).testBit (pcN m (w / 2)) = true
      · rw [if_pos t, if_pos t, dbl]
        rcases Nat.mod_two_eq_zero_or_one i with h | h <;> rw [h]
        · rw [Nat.zero_add, Nat.zero_add]
        · exact odd _
      · rw [if_neg t, if_neg t]
    · have h0 : w % 2 = 0 := by omega
      rw [if_neg h, if_neg h, pdN_top k m i (w / 2) hw2 (by omega), h0, Nat.zero_add]
      by_cases t : i.testBit (pcN m (w / 2)) = true
      · rw [if_pos t, if_pos t, dbl]
      · rw [if_neg t, if_neg t]
theorem pcN_top : ∀ k n w, w < 2 ^ k → k < n → pcN n (w ||| 2 ^ k) = pcN n w + 1 := by
  intro k n w hw hn
  rw [pc_ct, pc_ct]
  have : ∀ m, fb_ct (fun i => (w ||| 2 ^ k).testBit i) m = fb_ct (fun i => w.testBit i) m + (if k < m then 1 else 0) := by
    intro m
    induction m with
    | zero => rfl
    | succ m ih =>
      rw [fb_ct_succ, fb_ct_succ, ih, Nat.testBit_or, Nat.testBit_two_pow]
      by_cases e : k = m
      · subst e
        rw [Nat.testBit_lt_two_pow hw, decide_eq_true rfl, show (if k < k then (1 : Nat) else 0) = 0 from if_neg (by omega), show (if k < k + 1 then (1 : Nat) else 0) = 1 from if_pos (by omega)]
        rfl
      · rw [decide_eq_false e, Bool.or_false]
        by_cases e2 : k < m
        · rw [show (if k < m then (1 : Nat) else 0) = 1 from if_pos e2, show (if k < m + 1 then (1 : Nat) else 0) = 1 from if_pos (by omega)]; omega
        · rw [show (if k < m then (1 : Nat) else 0) = 0 from if_neg e2, show (if k < m + 1 then (1 : Nat) else 0) = 0 from if_neg (by omega)]; rfl
  rw [this n, if_pos hn]
theorem chS_s (q : Nat → Bool) (m k : Nat) : chS q m (k + 1) = if chN q m k < m ∧ q k = true then chS q m k ||| 2 ^ k else chS q m k := rfl
theorem chN_s (q : Nat → Bool) (m k : Nat) : chN q m (k + 1) = if chN q m k < m ∧ q k = true then chN q m k + 1 else chN q m k := rfl
theorem chI_s (q : Nat → Bool) (m k : Nat) : chI q m (k + 1) = if chN q m k < m ∧ q k = true then (fun i => if i = chN q m k then k else chI q m k i) else chI q m k := rfl
theorem ch_pc {q : Nat → Bool} {m : Nat} : ∀ k, k ≤ 16 → pc (chS q m k) = chN q m k
  | 0, _ => pcN_z 16
  | k + 1, h => by
    have ih := ch_pc (q := q) (m := m) k (by omega)
    rw [chS_s, chN_s]
    by_cases e : chN q m k < m ∧ q k = true
    · rw [if_pos e, if_pos e]
      show pcN 16 _ = _
      rw [pcN_top k 16 _ (chS_lt k) (by omega)]
      show pc (chS q m k) + 1 = _
      rw [ih]
    · rw [if_neg e, if_neg e]
      exact ih
theorem ch_set {q : Nat → Bool} {m : Nat} (p : Nat) : ∀ k, k ≤ 16 → seN (chI q m k) p (chN q m k) = pd p (chS q m k)
  | 0, _ => (pdN_z 16 p).symm
  | k + 1, h => by
    have ih := ch_set (q := q) (m := m) p k (by omega)
    have hp := ch_pc (q := q) (m := m) k (by omega)
    rw [chS_s, chN_s, chI_s]
    by_cases e : chN q m k < m ∧ q k = true
    · rw [if_pos e, if_pos e, if_pos e]
      show (if p.testBit (chN q m k) = true then seN (fun i => if i = chN q m k then k else chI q m k i) p (chN q m k) ||| 2 ^ (if chN q m k = chN q m k then k else chI q m k (chN q m k)) else seN (fun i => if i = chN q m k then k else chI q m k i) p (chN q m k)) = pdN 16 p (chS q m k ||| 2 ^ k)
      rw [pdN_top k 16 p _ (chS_lt k) (by omega), if_pos rfl, seN_cong (ch' := chI q m k) _ (fun i hi => if_neg (by omega)), ih, show pcN 16 (chS q m k) = chN q m k from hp]
      rfl
    · rw [if_neg e, if_neg e, if_neg e]
      exact ih
set_option maxHeartbeats 1000000 in
set_option maxRecDepth 100000 in
theorem c_X10_begin (hn : 148 ≤ n) (I : MI) (J : MJ) : Cv l n ad cA D z 0 yX10_begin cX10_begin 1 I J [.ref (ad 117)] (fun I' J' => (∀ k, k ≠ 117 → k ≠ 132 → I' k = I k) ∧ (∀ i, i ≠ 17 → I' 117 i = I 117 i) ∧ (∀ i, i ≠ 0 → I' 132 i = I 132 i) ∧ I' 132 0 = (if I 117 17 = 0 then nI 20 else I 132 0) ∧ (I 117 17 = 0 → I' 117 17 = nI 1) ∧ (¬ I 117 17 = 0 → I' 117 17 = I 117 17) ∧ J' = J) := by
  refine Cv.of (by decide) (Nat.le_of_ble_eq_true rfl) ?_
  intro p e s m args below meth c A C hin Z Q hret
  refine r_aload_n C 0 (dk oX10_begin 0 rfl) rfl ?_
  refine r_getI C (dk oX10_begin 1 rfl) fl_X10_105 rfl (km hn rfl) ?_
  refine r_if_ne (tgt := 20) C (dk oX10_begin 2 rfl) (by decide) (fun hb4 => ?_) (fun hb4 => ?_)
  · refine hret (dk oX10_begin 11 rfl) ?_
    first
      | (rw [if_neg hb4]; exact ⟨fun _ _ _ => rfl, fun _ _ => rfl, fun _ _ => rfl, rfl, fun q => absurd q hb4, fun _ => rfl, rfl⟩)
      | (rw [if_pos hb4]; exact ⟨fun k a b => by rw [up2_ne b, up2_ne a], fun i hi => by rw [up2_ne (by decide), up2_off hi], fun i hi => by rw [up2_off hi, up2_ne (by decide)], up2_at, fun _ => by rw [up2_ne (by decide), up2_at], fun q => absurd hb4 q, rfl⟩)
  · refine r_aload_n C 0 (dk oX10_begin 3 rfl) rfl ?_
    refine r_iconst C (dk oX10_begin 4 rfl) (v := nI 1) (by decide) ?_
    refine r_putT C (dk oX10_begin 5 rfl) fl_X10_105 ft_10_17 rfl rfl rfl (km hn rfl) ?_
    refine r_aload_n C 0 (dk oX10_begin 6 rfl) rfl ?_
    refine r_getR C (dk oX10_begin 7 rfl) fl_X10_53 rfl (km hn rfl) ?_
    refine r_iconst C (dk oX10_begin 8 rfl) (v := nI 0) (by decide) ?_
    refine r_bipush C (dk oX10_begin 9 rfl) (v := nI 20) (by decide) ?_
    refine r_iast C 0 (dk oX10_begin 10 rfl) rfl (km hn rfl) rfl (by decide) (by decide) ?_
    refine hret (dk oX10_begin 11 rfl) ?_
    first
      | (rw [if_neg hb4]; exact ⟨fun _ _ _ => rfl, fun _ _ => rfl, fun _ _ => rfl, rfl, fun q => absurd q hb4, fun _ => rfl, rfl⟩)
      | (rw [if_pos hb4]; exact ⟨fun k a b => by rw [up2_ne b, up2_ne a], fun i hi => by rw [up2_ne (by decide), up2_off hi], fun i hi => by rw [up2_off hi, up2_ne (by decide)], up2_at, fun _ => by rw [up2_ne (by decide), up2_at], fun q => absurd hb4 q, rfl⟩)

set_option maxHeartbeats 1000000 in
set_option maxRecDepth 100000 in
theorem c_X10_draw (hn : 148 ≤ n) (I : MI) (J : MJ) (se : Nat) (hse : I 133 0 = nI se) (hse2 : se < 2 ^ 31) : Ci l n ad cA D z 0 yX10_draw cX10_draw 2 .int I J [.ref (ad 117), .int (nI 1000)] (fun r I' J' => r = nI (drV se) ∧ I' = up2 I 133 0 (nI (drS se)) ∧ J' = J) := by
  refine Ci.of (by decide) (Nat.le_of_ble_eq_true rfl) ?_
  intro p e s m args below meth c A C hin Z Q hret
  refine r_aload_n C 0 (dk oX10_draw 0 rfl) rfl ?_
  refine r_getR C (dk oX10_draw 1 rfl) fl_X10_56 rfl (km hn rfl) ?_
  refine r_iconst C (dk oX10_draw 2 rfl) (v := nI 0) (by decide) ?_
  refine r_aload_n C 0 (dk oX10_draw 3 rfl) rfl ?_
  refine r_getR C (dk oX10_draw 4 rfl) fl_X10_56 rfl (km hn rfl) ?_
  refine r_iconst C (dk oX10_draw 5 rfl) (v := nI 0) (by decide) ?_
  refine r_iald C 0 (dk oX10_draw 6 rfl) rfl (km hn rfl) rfl (by decide) (by decide) ?_
  rw [hse]
  refine r_i2l C (dk oX10_draw 7 rfl) ?_
  refine r_ldc2 C (dk oX10_draw 8 rfl) kn_X10_352 ?_
  refine r_lmul C (dk oX10_draw 9 rfl) ?_
  refine r_ldc2 C (dk oX10_draw 10 rfl) kn_X10_354 ?_
  refine r_ladd C (dk oX10_draw 11 rfl) ?_
  refine r_ldc2 C (dk oX10_draw 12 rfl) kn_X10_356 ?_
  refine r_lrem C (dk oX10_draw 13 rfl) (by decide) ?_
  refine r_l2i C (dk oX10_draw 14 rfl) ?_
  rw [show ((nI se).toInt64 * 1103515245 + 12345 - ((nI se).toInt64 * 1103515245 + 12345) / 2147483648 * 2147483648).toInt32 = nI (drS se) from by
    rw [nI_l hse2, show (1103515245 : Int64) = lN 1103515245 from rfl, show (12345 : Int64) = lN 12345 from rfl, show (2147483648 : Int64) = lN 2147483648 from rfl, lN_mul, lN_add, pk_lRem (by omega) (by decide) (by decide), lN_i]
    rfl]
  have hdr := drS_lt se
  refine r_iast C 0 (dk oX10_draw 15 rfl) rfl (km hn rfl) rfl (by decide) (by decide) ?_
  refine r_aload_n C 0 (dk oX10_draw 16 rfl) rfl ?_
  refine r_getR C (dk oX10_draw 17 rfl) fl_X10_56 rfl (km hn rfl) ?_
  refine r_iconst C (dk oX10_draw 18 rfl) (v := nI 0) (by decide) ?_
  refine r_iald C 0 (dk oX10_draw 19 rfl) rfl (km hn rfl) rfl (by decide) (by decide) ?_
  rw [up2_at]
  refine r_ldcw C (dk oX10_draw 20 rfl) kn_X10_358 ?_
  refine r_idiv C (dk oX10_draw 21 rfl) (by decide) ?_
  rw [show (65536 : Int32) = nI 65536 from rfl, pk_div (by omega) (by decide) (by decide)]
  have hdd : drS se / 65536 < 2 ^ 31 := by omega
  refine r_iload_n C 1 (dk oX10_draw 22 rfl) rfl ?_
  refine r_irem C (dk oX10_draw 23 rfl) (by decide) ?_
  rw [pk_rem (by omega) (by decide) (by decide)]
  refine hret (dk oX10_draw 24 rfl) rfl ?_
  exact ⟨rfl, rfl, rfl⟩

set_option maxHeartbeats 1000000 in
set_option maxRecDepth 100000 in
theorem c_X10_factsOf (hn : 148 ≤ n) (I : MI) (J : MJ) (c_ : Nat) (C_ : List Nat) (hc : c_ < 6) (hC : MCd I c_ C_) : Ci l n ad cA D z 0 yX10_factsOf cX10_factsOf 4 .int I J [.ref (ad 117), .int (nI c_)] (fun r I' J' => r = nI (fsN C_) ∧ I' = I ∧ J' = J) := by
  refine Ci.of (by decide) (Nat.le_of_ble_eq_true rfl) ?_
  intro p e s m args below meth c A C hin Z Q hret
  obtain ⟨hC1, hC2, hC3, hC4, hC5⟩ := hC
  refine r_iconst C (dk oX10_factsOf 0 rfl) (v := nI 0) (by decide) ?_
  refine r_istore_n (lo' := [(2, _), (0, _), (1, _)]) C (dk oX10_factsOf 1 rfl) rfl (by decide) rfl ?_
  refine r_iconst C (dk oX10_factsOf 2 rfl) (v := nI 0) (by decide) ?_
  refine r_istore_n (lo' := [(3, _), (2, _), (0, _), (1, _)]) C (dk oX10_factsOf 3 rfl) rfl (by decide) rfl ?_
  have L4 : ∀ (d_ : Nat) (i_ : Nat), C_.length - i_ < d_ → i_ ≤ C_.length → V p l e (rmL 0) s m args below meth c Q D A 4 0 0 n ad (mE cA ad I J) 4 [(0, .ref (ad 117)), (1, .int (nI c_)), (2, .int (nI (fsN (C_.take i_)))), (3, .int (nI i_))] [] := by
    intro d_
    induction d_ with
    | zero => intros; exact absurd (by assumption) (Nat.not_lt_zero _)
    | succ d_ ih => 
      intro i_ hd_ hi
      refine r_iload_n C 3 (dk oX10_factsOf 4 rfl) rfl ?_
      refine r_aload_n C 0 (dk oX10_factsOf 5 rfl) rfl ?_
      refine r_getR C (dk oX10_factsOf 6 rfl) fl_X10_19 rfl (km hn rfl) ?_
      refine r_iload_n C 1 (dk oX10_factsOf 7 rfl) rfl ?_
      refine r_iald C _ (dk oX10_factsOf 8 rfl) rfl (km hn rfl) rfl (by omega) (by decide) ?_
      rw [hC1]
      refine r_icmp_ge (tgt := 56) C (dk oX10_factsOf 9 rfl) (by decide) (fun hb11 => ?_) (fun hb11 => ?_)
      · simp (disch := omega) only [nI_leI, nI_ltI, nI_eq, nI_eq0] at hb11
        refine r_iload_n C 2 (dk oX10_factsOf 37 rfl) rfl ?_
        refine hret (dk oX10_factsOf 38 rfl) rfl ?_
        exact ⟨by rw [show i_ = C_.length by omega, List.take_length], rfl, rfl⟩
      · simp (disch := omega) only [nI_leI, nI_ltI, nI_eq, nI_eq0] at hb11
        have hb11 : i_ < C_.length := by omega
        refine r_iload_n C 2 (dk oX10_factsOf 10 rfl) rfl ?_
        refine r_aload_n C 0 (dk oX10_factsOf 11 rfl) rfl ?_
        refine r_getR C (dk oX10_factsOf 12 rfl) fl_X10_16 rfl (km hn rfl) ?_
        refine r_bipush C (dk oX10_factsOf 13 rfl) (v := nI 120) (by decide) ?_
        refine r_iload_n C 1 (dk oX10_factsOf 14 rfl) rfl ?_
        refine r_imul C (dk oX10_factsOf 15 rfl) ?_
        rw [pk_mul]
        refine r_iload_n C 3 (dk oX10_factsOf 16 rfl) rfl ?_
        refine r_iadd C (dk oX10_factsOf 17 rfl) ?_
        rw [nI_add]
        refine r_iald C _ (dk oX10_factsOf 18 rfl) rfl (km hn rfl) rfl (by omega) (by decide) ?_
        have hx15 : C_.getD i_ 0 < 15 := hC5 _ (getD_mem hb11)
        have henc := enc_le hx15
        have hft := fs_take hb11
        rw [hC2 i_ hb11]
        refine r_bipush C (dk oX10_factsOf 19 rfl) (v := nI 12) (by decide) ?_
        refine r_icmp_ge (tgt := 47) C (dk oX10_factsOf 20 rfl) (by decide) (fun hb28 => ?_) (fun hb28 => ?_)
        · simp (disch := omega) only [nI_leI, nI_ltI, nI_eq, nI_eq0] at hb28
          have hx12n : ¬ C_.getD i_ 0 < 12 := fun q => by have := (enc_lt hx15).mpr q; omega
          refine r_iconst C (dk oX10_factsOf 32 rfl) (v := nI 0) (by decide) ?_
          refine r_ior C (dk oX10_factsOf 33 rfl) ?_
          first
            | rw [fa_or]
            | skip
          refine r_istore_n (lo' := [(2, _), (0, _), (1, _), (3, _)]) C (dk oX10_factsOf 34 rfl) rfl (by decide) rfl ?_
          refine r_iinc (lo' := [(3, _), (2, _), (0, _), (1, _)]) C 3 (dk oX10_factsOf 35 rfl) rfl (by first | exact nI_inc _ | rfl) (by decide) rfl ?_
          refine r_goto (tgt := 4) C (dk oX10_factsOf 36 rfl) (by decide) ?_
          refine V.sub [2, 3, 1, 0] rfl ?_
          have hih := ih (i_ + 1) (by omega) (by omega)
          rw [hft] at hih
          first
            | (rw [if_pos hx12] at hih; exact hih)
            | (rw [if_neg hx12n] at hih
               rw [Nat.or_zero]
               exact hih)
        · simp (disch := omega) only [nI_leI, nI_ltI, nI_eq, nI_eq0] at hb28
          refine r_iconst C (dk oX10_factsOf 21 rfl) (v := nI 1) (by decide) ?_
          refine r_aload_n C 0 (dk oX10_factsOf 22 rfl) rfl ?_
          refine r_getR C (dk oX10_factsOf 23 rfl) fl_X10_16 rfl (km hn rfl) ?_
          refine r_bipush C (dk oX10_factsOf 24 rfl) (v := nI 120) (by decide) ?_
          refine r_iload_n C 1 (dk oX10_factsOf 25 rfl) rfl ?_
          refine r_imul C (dk oX10_factsOf 26 rfl) ?_
          rw [pk_mul]
          refine r_iload_n C 3 (dk oX10_factsOf 27 rfl) rfl ?_
          refine r_iadd C (dk oX10_factsOf 28 rfl) ?_
          rw [nI_add]
          refine r_iald C _ (dk oX10_factsOf 29 rfl) rfl (km hn rfl) rfl (by omega) (by decide) ?_
          rw [hC2 i_ hb11]
          refine r_ishl C (dk oX10_factsOf 30 rfl) ?_
          have hx12 : C_.getD i_ 0 < 12 := (enc_lt hx15).mp (by omega)
          rw [enc_id hx12, shl1 (by omega)]
          refine r_goto (tgt := 48) C (dk oX10_factsOf 31 rfl) (by decide) ?_
          refine r_ior C (dk oX10_factsOf 33 rfl) ?_
          first
            | rw [fa_or]
            | skip
          refine r_istore_n (lo' := [(2, _), (0, _), (1, _), (3, _)]) C (dk oX10_factsOf 34 rfl) rfl (by decide) rfl ?_
          refine r_iinc (lo' := [(3, _), (2, _), (0, _), (1, _)]) C 3 (dk oX10_factsOf 35 rfl) rfl (by first | exact nI_inc _ | rfl) (by decide) rfl ?_
          refine r_goto (tgt := 4) C (dk oX10_factsOf 36 rfl) (by decide) ?_
          refine V.sub [2, 3, 1, 0] rfl ?_
          have hih := ih (i_ + 1) (by omega) (by omega)
          rw [hft] at hih
          first
            | (rw [if_pos hx12] at hih; exact hih)
            | (rw [if_neg hx12n] at hih
               rw [Nat.or_zero]
               exact hih)
  refine V.sub [2, 3, 1, 0] rfl ?_
  exact L4 (C_.length + 1) 0 (by omega) (Nat.zero_le _)

set_option maxHeartbeats 1000000 in
set_option maxRecDepth 100000 in
theorem c_X10_sureBy (hn : 148 ≤ n) (I : MI) (J : MJ) (Φ : Nat → FS) (hM : FcM I 134 Φ) (hok : fsA Φ) (dn : Nat) (hdn : dn < 4096) (C_ : List Nat) (hH : ∀ s, s < 4096 → I 144 s = b32 (evC C_ s)) : Ci l n ad cA D z 2 yX10_sureBy cX10_sureBy 7 .int I J [.ref (ad 117), .int (nI dn)] (fun r I' J' => r = suD C_ Φ dn ∧ I' = I ∧ J' = J) := by
  refine Ci.of (by decide) (Nat.le_of_ble_eq_true rfl) ?_
  intro p e s m args below meth c A C hin Z Q hret
  refine r_aload_n C 0 (dk oX10_sureBy 0 rfl) rfl ?_
  refine r_ivi C Z (dk oX10_sureBy 1 rfl) cl_X10_278 ci_X10_openFacts rfl (km hn rfl) (c_X10_openFacts hn I J Φ hM hok) rfl rfl (Nat.le_of_ble_eq_true rfl) ⟨Nat.le_of_ble_eq_true rfl, Nat.le_of_ble_eq_true rfl⟩ ⟨Nat.zero_le _, Nat.zero_le _⟩ (fun r1 I1 J1 h1 => ?_)
  obtain ⟨h1, e1_, e2_⟩ := h1
  have e1_ := e1_.symm
  have e2_ := e2_.symm
  subst e1_
  subst e2_
  subst h1
  refine r_iload_n C 1 (dk oX10_sureBy 2 rfl) rfl ?_
  refine r_ior C (dk oX10_sureBy 3 rfl) ?_
  rw [fa_or]
  have hmay : opN Φ ||| dn < 4096 := or_lt12 opN_lt hdn
  refine r_istore_n (lo' := [(2, _), (0, _), (1, _)]) C (dk oX10_sureBy 4 rfl) rfl (by decide) rfl ?_
  refine r_iconst C (dk oX10_sureBy 5 rfl) (v := nI 1) (by decide) ?_
  refine r_istore_n (lo' := [(3, _), (2, _), (0, _), (1, _)]) C (dk oX10_sureBy 6 rfl) rfl (by decide) rfl ?_
  refine r_iconst C (dk oX10_sureBy 7 rfl) (v := nI 1) (by decide) ?_
  refine r_istore (lo' := [(4, _), (3, _), (2, _), (0, _), (1, _)]) C (dk oX10_sureBy 8 rfl) (by decide) rfl ?_
  refine r_iconst C (dk oX10_sureBy 9 rfl) (v := nI 0) (by decide) ?_
  refine r_istore (lo' := [(5, _), (4, _), (3, _), (2, _), (0, _), (1, _)]) C (dk oX10_sureBy 10 rfl) (by decide) rfl ?_
  have L15 : ∀ (d_ : Nat) (s_ : Nat), 4096 - s_ < d_ → s_ ≤ 4096 → V p l e (rmL 2) s m args below meth c Q D A 7 0 0 n ad (mE cA ad I J) 15 [(0, .ref (ad 117)), (1, .int (nI dn)), (2, .int (nI (opN Φ ||| dn))), (3, .int (b32 (!(anyB (fun s => sub s (opN Φ ||| dn) && !(evC C_ (soD Φ s dn))) s_)))), (4, .int (b32 (!(anyB (fun s => sub s (opN Φ ||| dn) && evC C_ (soD Φ s dn)) s_)))), (5, .int (nI s_))] [] := by
    intro d_
    induction d_ with
    | zero => intros; exact absurd (by assumption) (Nat.not_lt_zero _)
    | succ d_ ih => 
      intro s_ hd_ hs
      refine r_iload C 5 (dk oX10_sureBy 11 rfl) rfl ?_
      refine r_sipush C (dk oX10_sureBy 12 rfl) (v := nI 4096) (by decide) ?_
      refine r_icmp_ge (tgt := 84) C (dk oX10_sureBy 13 rfl) (by decide) (fun hb20 => ?_) (fun hb20 => ?_)
      · simp (disch := omega) only [nI_leI, nI_ltI, nI_eq, nI_eq0] at hb20
        refine r_iload_n C 3 (dk oX10_sureBy 46 rfl) rfl ?_
        refine r_if_eq (tgt := 92) C (dk oX10_sureBy 47 rfl) (by decide) (fun hb85 => ?_) (fun hb85 => ?_)
        · rw [b32_0] at hb85
          refine r_iload C 4 (dk oX10_sureBy 50 rfl) rfl ?_
          refine r_if_eq (tgt := 101) C (dk oX10_sureBy 51 rfl) (by decide) (fun hb94 => ?_) (fun hb94 => ?_)
          · rw [b32_0] at hb94
            refine r_iconst C (dk oX10_sureBy 54 rfl) (v := -1) (by decide) ?_
            refine hret (dk oX10_sureBy 55 rfl) rfl ?_
            have hs4 : s_ = 4096 := by omega
            subst hs4
            refine ⟨?_, rfl, rfl⟩
            unfold suD
            cases hA : anyB (fun s => sub s (opN Φ ||| dn) && !(evC C_ (soD Φ s dn))) 4096 with
            | false =>
              rw [hA] at hb85
              first
                | exact absurd hb85 (by decide)
                | rw [if_pos rfl]
            | true =>
              rw [hA] at hb85
              rw [if_neg (by decide)]
              first
                | exact absurd hb85 (by decide)
                | (cases hB : anyB (fun s => sub s (opN Φ ||| dn) && evC C_ (soD Φ s dn)) 4096 with
                   | false =>
                     rw [hB] at hb94
                     first
                       | exact absurd hb94 (by decide)
                       | rw [if_pos rfl]
                   | true =>
                     rw [hB] at hb94
                     first
                       | exact absurd hb94 (by decide)
                       | exact (if_neg (by decide)).symm)
          · rw [b32_n] at hb94
            refine r_iconst C (dk oX10_sureBy 52 rfl) (v := nI 0) (by decide) ?_
            refine r_goto (tgt := 102) C (dk oX10_sureBy 53 rfl) (by decide) ?_
            refine hret (dk oX10_sureBy 55 rfl) rfl ?_
            have hs4 : s_ = 4096 := by omega
            subst hs4
            refine ⟨?_, rfl, rfl⟩
            unfold suD
            cases hA : anyB (fun s => sub s (opN Φ ||| dn) && !(evC C_ (soD Φ s dn))) 4096 with
            | false =>
              rw [hA] at hb85
              first
                | exact absurd hb85 (by decide)
                | rw [if_pos rfl]
            | true =>
              rw [hA] at hb85
              rw [if_neg (by decide)]
              first
                | exact absurd hb85 (by decide)
                | (cases hB : anyB (fun s => sub s (opN Φ ||| dn) && evC C_ (soD Φ s dn)) 4096 with
                   | false =>
                     rw [hB] at hb94
                     first
                       | exact absurd hb94 (by decide)
                       | rw [if_pos rfl]
                   | true =>
                     rw [hB] at hb94
                     first
                       | exact absurd hb94 (by decide)
                       | exact (if_neg (by decide)).symm)
        · rw [b32_n] at hb85
          refine r_iconst C (dk oX10_sureBy 48 rfl) (v := nI 1) (by decide) ?_
          refine r_goto (tgt := 102) C (dk oX10_sureBy 49 rfl) (by decide) ?_
          refine hret (dk oX10_sureBy 55 rfl) rfl ?_
          have hs4 : s_ = 4096 := by omega
          subst hs4
          refine ⟨?_, rfl, rfl⟩
          unfold suD
          cases hA : anyB (fun s => sub s (opN Φ ||| dn) && !(evC C_ (soD Φ s dn))) 4096 with
          | false =>
            rw [hA] at hb85
            first
              | exact absurd hb85 (by decide)
              | rw [if_pos rfl]
          | true =>
            rw [hA] at hb85
            rw [if_neg (by decide)]
            first
              | exact absurd hb85 (by decide)
              | (cases hB : anyB (fun s => sub s (opN Φ ||| dn) && evC C_ (soD Φ s dn)) 4096 with
                 | false =>
                   rw [hB] at hb94
                   first
                     | exact absurd hb94 (by decide)
                     | rw [if_pos rfl]
                 | true =>
                   rw [hB] at hb94
                   first
                     | exact absurd hb94 (by decide)
                     | exact (if_neg (by decide)).symm)
      · simp (disch := omega) only [nI_leI, nI_ltI, nI_eq, nI_eq0] at hb20
        refine r_iload C 5 (dk oX10_sureBy 14 rfl) rfl ?_
        refine r_iload_n C 2 (dk oX10_sureBy 15 rfl) rfl ?_
        refine r_iconst C (dk oX10_sureBy 16 rfl) (v := -1) (by decide) ?_
        refine r_ixor C (dk oX10_sureBy 17 rfl) ?_
        refine r_iand C (dk oX10_sureBy 18 rfl) ?_
        rw [nI_not (by omega)]
        have han : anN s_ (opN Φ ||| dn) < 4096 := anN_lt (k := 12) (by omega)
        refine r_if_ne (tgt := 78) C (dk oX10_sureBy 19 rfl) (by decide) (fun hb29 => ?_) (fun hb29 => ?_)
        · simp (disch := omega) only [nI_leI, nI_ltI, nI_eq, nI_eq0] at hb29
          have hsub : sub s_ (opN Φ ||| dn) = false := by rw [sub_anN]; exact decide_eq_false hb29
          refine r_iinc (lo' := [(5, _), (0, _), (1, _), (2, _), (3, _), (4, _)]) C 5 (dk oX10_sureBy 44 rfl) rfl (by first | exact nI_inc _ | rfl) (by decide) rfl ?_
          refine r_goto (tgt := 15) C (dk oX10_sureBy 45 rfl) (by decide) ?_
          refine V.sub [1, 2, 3, 4, 5, 0] rfl ?_
          first
            | exact ih (s_ + 1) (by omega) (by omega)
            | (have hih := ih (s_ + 1) (by omega) (by omega)
               rw [any_skip (P := (fun s => sub s (opN Φ ||| dn) && !(evC C_ (soD Φ s dn)))) (s := s_) (by show (sub s_ (opN Φ ||| dn) && _) = false; rw [hsub, Bool.false_and]), any_skip (P := (fun s => sub s (opN Φ ||| dn) && evC C_ (soD Φ s dn))) (s := s_) (by show (sub s_ (opN Φ ||| dn) && _) = false; rw [hsub, Bool.false_and])] at hih
               exact hih)
        · simp (disch := omega) only [nI_leI, nI_ltI, nI_eq, nI_eq0] at hb29
          have hsub : sub s_ (opN Φ ||| dn) = true := by rw [sub_anN]; exact decide_eq_true hb29
          refine r_aload_n C 0 (dk oX10_sureBy 20 rfl) rfl ?_
          refine r_getR C (dk oX10_sureBy 21 rfl) fl_X10_93 rfl (km hn rfl) ?_
          refine r_aload_n C 0 (dk oX10_sureBy 22 rfl) rfl ?_
          refine r_iload C 5 (dk oX10_sureBy 23 rfl) rfl ?_
          refine r_iload_n C 1 (dk oX10_sureBy 24 rfl) rfl ?_
          refine r_ivi C Z (dk oX10_sureBy 25 rfl) cl_X10_281 ci_X10_soBy rfl (km hn rfl) (c_X10_soBy hn I J Φ hM s_ dn (by omega) hdn) rfl rfl (Nat.le_of_ble_eq_true rfl) ⟨Nat.le_of_ble_eq_true rfl, Nat.le_of_ble_eq_true rfl⟩ ⟨Nat.zero_le _, Nat.zero_le _⟩ (fun r40 I40 J40 h40 => ?_)
          obtain ⟨h40, e1_, e2_⟩ := h40
          have e1_ := e1_.symm
          have e2_ := e2_.symm
          subst e1_
          subst e2_
          subst h40
          refine r_zald C _ (dk oX10_sureBy 26 rfl) rfl (km hn rfl) rfl soD_lt (by decide) ?_
          rw [hH _ soD_lt]
          refine r_istore (lo' := [(6, _), (0, _), (1, _), (2, _), (3, _), (4, _), (5, _)]) C (dk oX10_sureBy 27 rfl) (by decide) rfl ?_
          refine r_iload_n C 4 (dk oX10_sureBy 28 rfl) rfl ?_
          refine r_if_eq (tgt := 59) C (dk oX10_sureBy 29 rfl) (by decide) (fun hb47 => ?_) (fun hb47 => ?_)
          · rw [b32_0] at hb47
            refine r_iconst C (dk oX10_sureBy 34 rfl) (v := nI 0) (by decide) ?_
            refine r_topI (show nI 0 = b32 (!(anyB (fun s => sub s (opN Φ ||| dn) && !(evC C_ (soD Φ s dn))) s_ || (sub s_ (opN Φ ||| dn) && !(evC C_ (soD Φ s_ dn))))) from by
              first
                | exact al0a hb47
                | exact al0b hsub hb52) ?_
            refine r_istore_n (lo' := [(3, _), (6, _), (0, _), (1, _), (2, _), (4, _), (5, _)]) C (dk oX10_sureBy 35 rfl) rfl (by decide) rfl ?_
            refine r_iload C 5 (dk oX10_sureBy 36 rfl) rfl ?_
            refine r_if_eq (tgt := 75) C (dk oX10_sureBy 37 rfl) (by decide) (fun hb63 => ?_) (fun hb63 => ?_)
            · rw [b32_0] at hb63
              refine r_iconst C (dk oX10_sureBy 42 rfl) (v := nI 0) (by decide) ?_
              refine r_topI (show nI 0 = b32 (!(anyB (fun s => sub s (opN Φ ||| dn) && evC C_ (soD Φ s dn)) s_ || (sub s_ (opN Φ ||| dn) && (evC C_ (soD Φ s_ dn))))) from by
                first
                  | exact nl0a hb63
                  | exact nl0b hsub hb68) ?_
              refine r_istore (lo' := [(4, _), (3, _), (6, _), (0, _), (1, _), (2, _), (5, _)]) C (dk oX10_sureBy 43 rfl) (by decide) rfl ?_
              refine r_iinc (lo' := [(5, _), (4, _), (3, _), (6, _), (0, _), (1, _), (2, _)]) C 6 (dk oX10_sureBy 44 rfl) rfl (by first | exact nI_inc _ | rfl) (by decide) rfl ?_
              refine r_goto (tgt := 15) C (dk oX10_sureBy 45 rfl) (by decide) ?_
              refine V.sub [4, 5, 6, 2, 1, 0] rfl ?_
              first
                | exact ih (s_ + 1) (by omega) (by omega)
                | (have hih := ih (s_ + 1) (by omega) (by omega)
                   rw [any_skip (P := (fun s => sub s (opN Φ ||| dn) && !(evC C_ (soD Φ s dn)))) (s := s_) (by show (sub s_ (opN Φ ||| dn) && _) = false; rw [hsub, Bool.false_and]), any_skip (P := (fun s => sub s (opN Φ ||| dn) && evC C_ (soD Φ s dn))) (s := s_) (by show (sub s_ (opN Φ ||| dn) && _) = false; rw [hsub, Bool.false_and])] at hih
                   exact hih)
            · rw [b32_n] at hb63
              refine r_iload C 1 (dk oX10_sureBy 38 rfl) rfl ?_
              refine r_if_ne (tgt := 75) C (dk oX10_sureBy 39 rfl) (by decide) (fun hb68 => ?_) (fun hb68 => ?_)
              · rw [b32_n] at hb68
                refine r_iconst C (dk oX10_sureBy 42 rfl) (v := nI 0) (by decide) ?_
                refine r_topI (show nI 0 = b32 (!(anyB (fun s => sub s (opN Φ ||| dn) && evC C_ (soD Φ s dn)) s_ || (sub s_ (opN Φ ||| dn) && (evC C_ (soD Φ s_ dn))))) from by
                  first
                    | exact nl0a hb63
                    | exact nl0b hsub hb68) ?_
                refine r_istore (lo' := [(4, _), (3, _), (6, _), (0, _), (1, _), (2, _), (5, _)]) C (dk oX10_sureBy 43 rfl) (by decide) rfl ?_
                refine r_iinc (lo' := [(5, _), (4, _), (3, _), (6, _), (0, _), (1, _), (2, _)]) C 6 (dk oX10_sureBy 44 rfl) rfl (by first | exact nI_inc _ | rfl) (by decide) rfl ?_
                refine r_goto (tgt := 15) C (dk oX10_sureBy 45 rfl) (by decide) ?_
                refine V.sub [4, 5, 6, 2, 1, 0] rfl ?_
                first
                  | exact ih (s_ + 1) (by omega) (by omega)
                  | (have hih := ih (s_ + 1) (by omega) (by omega)
                     rw [any_skip (P := (fun s => sub s (opN Φ ||| dn) && !(evC C_ (soD Φ s dn)))) (s := s_) (by show (sub s_ (opN Φ ||| dn) && _) = false; rw [hsub, Bool.false_and]), any_skip (P := (fun s => sub s (opN Φ ||| dn) && evC C_ (soD Φ s dn))) (s := s_) (by show (sub s_ (opN Φ ||| dn) && _) = false; rw [hsub, Bool.false_and])] at hih
                     exact hih)
              · rw [b32_0] at hb68
                refine r_iconst C (dk oX10_sureBy 40 rfl) (v := nI 1) (by decide) ?_
                refine r_topI (show nI 1 = b32 (!(anyB (fun s => sub s (opN Φ ||| dn) && evC C_ (soD Φ s dn)) s_ || (sub s_ (opN Φ ||| dn) && (evC C_ (soD Φ s_ dn))))) from nl1 hsub hb63 hb68) ?_
                refine r_goto (tgt := 76) C (dk oX10_sureBy 41 rfl) (by decide) ?_
                refine r_istore (lo' := [(4, _), (3, _), (6, _), (0, _), (1, _), (2, _), (5, _)]) C (dk oX10_sureBy 43 rfl) (by decide) rfl ?_
                refine r_iinc (lo' := [(5, _), (4, _), (3, _), (6, _), (0, _), (1, _), (2, _)]) C 6 (dk oX10_sureBy 44 rfl) rfl (by first | exact nI_inc _ | rfl) (by decide) rfl ?_
                refine r_goto (tgt := 15) C (dk oX10_sureBy 45 rfl) (by decide) ?_
                refine V.sub [4, 5, 6, 2, 1, 0] rfl ?_
                first
                  | exact ih (s_ + 1) (by omega) (by omega)
                  | (have hih := ih (s_ + 1) (by omega) (by omega)
                     rw [any_skip (P := (fun s => sub s (opN Φ ||| dn) && !(evC C_ (soD Φ s dn)))) (s := s_) (by show (sub s_ (opN Φ ||| dn) && _) = false; rw [hsub, Bool.false_and]), any_skip (P := (fun s => sub s (opN Φ ||| dn) && evC C_ (soD Φ s dn))) (s := s_) (by show (sub s_ (opN Φ ||| dn) && _) = false; rw [hsub, Bool.false_and])] at hih
                     exact hih)
          · rw [b32_n] at hb47
            refine r_iload C 0 (dk oX10_sureBy 30 rfl) rfl ?_
            refine r_if_eq (tgt := 59) C (dk oX10_sureBy 31 rfl) (by decide) (fun hb52 => ?_) (fun hb52 => ?_)
            · rw [b32_0] at hb52
              refine r_iconst C (dk oX10_sureBy 34 rfl) (v := nI 0) (by decide) ?_
              refine r_topI (show nI 0 = b32 (!(anyB (fun s => sub s (opN Φ ||| dn) && !(evC C_ (soD Φ s dn))) s_ || (sub s_ (opN Φ ||| dn) && !(evC C_ (soD Φ s_ dn))))) from by
                first
                  | exact al0a hb47
                  | exact al0b hsub hb52) ?_
              refine r_istore_n (lo' := [(3, _), (6, _), (0, _), (1, _), (2, _), (4, _), (5, _)]) C (dk oX10_sureBy 35 rfl) rfl (by decide) rfl ?_
              refine r_iload C 5 (dk oX10_sureBy 36 rfl) rfl ?_
              refine r_if_eq (tgt := 75) C (dk oX10_sureBy 37 rfl) (by decide) (fun hb63 => ?_) (fun hb63 => ?_)
              · rw [b32_0] at hb63
                refine r_iconst C (dk oX10_sureBy 42 rfl) (v := nI 0) (by decide) ?_
                refine r_topI (show nI 0 = b32 (!(anyB (fun s => sub s (opN Φ ||| dn) && evC C_ (soD Φ s dn)) s_ || (sub s_ (opN Φ ||| dn) && (evC C_ (soD Φ s_ dn))))) from by
                  first
                    | exact nl0a hb63
                    | exact nl0b hsub hb68) ?_
                refine r_istore (lo' := [(4, _), (3, _), (6, _), (0, _), (1, _), (2, _), (5, _)]) C (dk oX10_sureBy 43 rfl) (by decide) rfl ?_
                refine r_iinc (lo' := [(5, _), (4, _), (3, _), (6, _), (0, _), (1, _), (2, _)]) C 6 (dk oX10_sureBy 44 rfl) rfl (by first | exact nI_inc _ | rfl) (by decide) rfl ?_
                refine r_goto (tgt := 15) C (dk oX10_sureBy 45 rfl) (by decide) ?_
                refine V.sub [4, 5, 6, 2, 1, 0] rfl ?_
                first
                  | exact ih (s_ + 1) (by omega) (by omega)
                  | (have hih := ih (s_ + 1) (by omega) (by omega)
                     rw [any_skip (P := (fun s => sub s (opN Φ ||| dn) && !(evC C_ (soD Φ s dn)))) (s := s_) (by show (sub s_ (opN Φ ||| dn) && _) = false; rw [hsub, Bool.false_and]), any_skip (P := (fun s => sub s (opN Φ ||| dn) && evC C_ (soD Φ s dn))) (s := s_) (by show (sub s_ (opN Φ ||| dn) && _) = false; rw [hsub, Bool.false_and])] at hih
                     exact hih)
              · rw [b32_n] at hb63
                refine r_iload C 1 (dk oX10_sureBy 38 rfl) rfl ?_
                refine r_if_ne (tgt := 75) C (dk oX10_sureBy 39 rfl) (by decide) (fun hb68 => ?_) (fun hb68 => ?_)
                · rw [b32_n] at hb68
                  refine r_iconst C (dk oX10_sureBy 42 rfl) (v := nI 0) (by decide) ?_
                  refine r_topI (show nI 0 = b32 (!(anyB (fun s => sub s (opN Φ ||| dn) && evC C_ (soD Φ s dn)) s_ || (sub s_ (opN Φ ||| dn) && (evC C_ (soD Φ s_ dn))))) from by
                    first
                      | exact nl0a hb63
                      | exact nl0b hsub hb68) ?_
                  refine r_istore (lo' := [(4, _), (3, _), (6, _), (0, _), (1, _), (2, _), (5, _)]) C (dk oX10_sureBy 43 rfl) (by decide) rfl ?_
                  refine r_iinc (lo' := [(5, _), (4, _), (3, _), (6, _), (0, _), (1, _), (2, _)]) C 6 (dk oX10_sureBy 44 rfl) rfl (by first | exact nI_inc _ | rfl) (by decide) rfl ?_
                  refine r_goto (tgt := 15) C (dk oX10_sureBy 45 rfl) (by decide) ?_
                  refine V.sub [4, 5, 6, 2, 1, 0] rfl ?_
                  first
                    | exact ih (s_ + 1) (by omega) (by omega)
                    | (have hih := ih (s_ + 1) (by omega) (by omega)
                       rw [any_skip (P := (fun s => sub s (opN Φ ||| dn) && !(evC C_ (soD Φ s dn)))) (s := s_) (by show (sub s_ (opN Φ ||| dn) && _) = false; rw [hsub, Bool.false_and]), any_skip (P := (fun s => sub s (opN Φ ||| dn) && evC C_ (soD Φ s dn))) (s := s_) (by show (sub s_ (opN Φ ||| dn) && _) = false; rw [hsub, Bool.false_and])] at hih
                       exact hih)
                · rw [b32_0] at hb68
                  refine r_iconst C (dk oX10_sureBy 40 rfl) (v := nI 1) (by decide) ?_
                  refine r_topI (show nI 1 = b32 (!(anyB (fun s => sub s (opN Φ ||| dn) && evC C_ (soD Φ s dn)) s_ || (sub s_ (opN Φ ||| dn) && (evC C_ (soD Φ s_ dn))))) from nl1 hsub hb63 hb68) ?_
                  refine r_goto (tgt := 76) C (dk oX10_sureBy 41 rfl) (by decide) ?_
                  refine r_istore (lo' := [(4, _), (3, _), (6, _), (0, _), (1, _), (2, _), (5, _)]) C (dk oX10_sureBy 43 rfl) (by decide) rfl ?_
                  refine r_iinc (lo' := [(5, _), (4, _), (3, _), (6, _), (0, _), (1, _), (2, _)]) C 6 (dk oX10_sureBy 44 rfl) rfl (by first | exact nI_inc _ | rfl) (by decide) rfl ?_
                  refine r_goto (tgt := 15) C (dk oX10_sureBy 45 rfl) (by decide) ?_
                  refine V.sub [4, 5, 6, 2, 1, 0] rfl ?_
                  first
                    | exact ih (s_ + 1) (by omega) (by omega)
                    | (have hih := ih (s_ + 1) (by omega) (by omega)
                       rw [any_skip (P := (fun s => sub s (opN Φ ||| dn) && !(evC C_ (soD Φ s dn)))) (s := s_) (by show (sub s_ (opN Φ ||| dn) && _) = false; rw [hsub, Bool.false_and]), any_skip (P := (fun s => sub s (opN Φ ||| dn) && evC C_ (soD Φ s dn))) (s := s_) (by show (sub s_ (opN Φ ||| dn) && _) = false; rw [hsub, Bool.false_and])] at hih
                       exact hih)
            · rw [b32_n] at hb52
              refine r_iconst C (dk oX10_sureBy 32 rfl) (v := nI 1) (by decide) ?_
              refine r_topI (show nI 1 = b32 (!(anyB (fun s => sub s (opN Φ ||| dn) && !(evC C_ (soD Φ s dn))) s_ || (sub s_ (opN Φ ||| dn) && !(evC C_ (soD Φ s_ dn))))) from al1 hsub hb47 hb52) ?_
              refine r_goto (tgt := 60) C (dk oX10_sureBy 33 rfl) (by decide) ?_
              refine r_istore_n (lo' := [(3, _), (6, _), (0, _), (1, _), (2, _), (4, _), (5, _)]) C (dk oX10_sureBy 35 rfl) rfl (by decide) rfl ?_
              refine r_iload C 5 (dk oX10_sureBy 36 rfl) rfl ?_
              refine r_if_eq (tgt := 75) C (dk oX10_sureBy 37 rfl) (by decide) (fun hb63 => ?_) (fun hb63 => ?_)
              · rw [b32_0] at hb63
                refine r_iconst C (dk oX10_sureBy 42 rfl) (v := nI 0) (by decide) ?_
                refine r_topI (show nI 0 = b32 (!(anyB (fun s => sub s (opN Φ ||| dn) && evC C_ (soD Φ s dn)) s_ || (sub s_ (opN Φ ||| dn) && (evC C_ (soD Φ s_ dn))))) from by
                  first
                    | exact nl0a hb63
                    | exact nl0b hsub hb68) ?_
                refine r_istore (lo' := [(4, _), (3, _), (6, _), (0, _), (1, _), (2, _), (5, _)]) C (dk oX10_sureBy 43 rfl) (by decide) rfl ?_
                refine r_iinc (lo' := [(5, _), (4, _), (3, _), (6, _), (0, _), (1, _), (2, _)]) C 6 (dk oX10_sureBy 44 rfl) rfl (by first | exact nI_inc _ | rfl) (by decide) rfl ?_
                refine r_goto (tgt := 15) C (dk oX10_sureBy 45 rfl) (by decide) ?_
                refine V.sub [4, 5, 6, 2, 1, 0] rfl ?_
                first
                  | exact ih (s_ + 1) (by omega) (by omega)
                  | (have hih := ih (s_ + 1) (by omega) (by omega)
                     rw [any_skip (P := (fun s => sub s (opN Φ ||| dn) && !(evC C_ (soD Φ s dn)))) (s := s_) (by show (sub s_ (opN Φ ||| dn) && _) = false; rw [hsub, Bool.false_and]), any_skip (P := (fun s => sub s (opN Φ ||| dn) && evC C_ (soD Φ s dn))) (s := s_) (by show (sub s_ (opN Φ ||| dn) && _) = false; rw [hsub, Bool.false_and])] at hih
                     exact hih)
              · rw [b32_n] at hb63
                refine r_iload C 1 (dk oX10_sureBy 38 rfl) rfl ?_
                refine r_if_ne (tgt := 75) C (dk oX10_sureBy 39 rfl) (by decide) (fun hb68 => ?_) (fun hb68 => ?_)
                · rw [b32_n] at hb68
                  refine r_iconst C (dk oX10_sureBy 42 rfl) (v := nI 0) (by decide) ?_
                  refine r_topI (show nI 0 = b32 (!(anyB (fun s => sub s (opN Φ ||| dn) && evC C_ (soD Φ s dn)) s_ || (sub s_ (opN Φ ||| dn) && (evC C_ (soD Φ s_ dn))))) from by
                    first
                      | exact nl0a hb63
                      | exact nl0b hsub hb68) ?_
                  refine r_istore (lo' := [(4, _), (3, _), (6, _), (0, _), (1, _), (2, _), (5, _)]) C (dk oX10_sureBy 43 rfl) (by decide) rfl ?_
                  refine r_iinc (lo' := [(5, _), (4, _), (3, _), (6, _), (0, _), (1, _), (2, _)]) C 6 (dk oX10_sureBy 44 rfl) rfl (by first | exact nI_inc _ | rfl) (by decide) rfl ?_
                  refine r_goto (tgt := 15) C (dk oX10_sureBy 45 rfl) (by decide) ?_
                  refine V.sub [4, 5, 6, 2, 1, 0] rfl ?_
                  first
                    | exact ih (s_ + 1) (by omega) (by omega)
                    | (have hih := ih (s_ + 1) (by omega) (by omega)
                       rw [any_skip (P := (fun s => sub s (opN Φ ||| dn) && !(evC C_ (soD Φ s dn)))) (s := s_) (by show (sub s_ (opN Φ ||| dn) && _) = false; rw [hsub, Bool.false_and]), any_skip (P := (fun s => sub s (opN Φ ||| dn) && evC C_ (soD Φ s dn))) (s := s_) (by show (sub s_ (opN Φ ||| dn) && _) = false; rw [hsub, Bool.false_and])] at hih
                       exact hih)
                · rw [b32_0] at hb68
                  refine r_iconst C (dk oX10_sureBy 40 rfl) (v := nI 1) (by decide) ?_
                  refine r_topI (show nI 1 = b32 (!(anyB (fun s => sub s (opN Φ ||| dn) && evC C_ (soD Φ s dn)) s_ || (sub s_ (opN Φ ||| dn) && (evC C_ (soD Φ s_ dn))))) from nl1 hsub hb63 hb68) ?_
                  refine r_goto (tgt := 76) C (dk oX10_sureBy 41 rfl) (by decide) ?_
                  refine r_istore (lo' := [(4, _), (3, _), (6, _), (0, _), (1, _), (2, _), (5, _)]) C (dk oX10_sureBy 43 rfl) (by decide) rfl ?_
                  refine r_iinc (lo' := [(5, _), (4, _), (3, _), (6, _), (0, _), (1, _), (2, _)]) C 6 (dk oX10_sureBy 44 rfl) rfl (by first | exact nI_inc _ | rfl) (by decide) rfl ?_
                  refine r_goto (tgt := 15) C (dk oX10_sureBy 45 rfl) (by decide) ?_
                  refine V.sub [4, 5, 6, 2, 1, 0] rfl ?_
                  first
                    | exact ih (s_ + 1) (by omega) (by omega)
                    | (have hih := ih (s_ + 1) (by omega) (by omega)
                       rw [any_skip (P := (fun s => sub s (opN Φ ||| dn) && !(evC C_ (soD Φ s dn)))) (s := s_) (by show (sub s_ (opN Φ ||| dn) && _) = false; rw [hsub, Bool.false_and]), any_skip (P := (fun s => sub s (opN Φ ||| dn) && evC C_ (soD Φ s dn))) (s := s_) (by show (sub s_ (opN Φ ||| dn) && _) = false; rw [hsub, Bool.false_and])] at hih
                       exact hih)
  refine V.sub [4, 5, 3, 2, 1, 0] rfl ?_
  exact L15 4097 0 (by omega) (Nat.zero_le _)

set_option maxHeartbeats 1000000 in
set_option maxRecDepth 100000 in
theorem c_X10_standing (hn : 148 ≤ n) (I : MI) (J : MJ) (np : Nat) (dy : Nat → Nat) (lt : Nat → Bool) (ac : Nat → Nat → Nat) (hP : MPap I 0 np dy lt ac) (x : Int32) : Ci l n ad cA D z 4 yX10_standing cX10_standing 4 .int I J [.ref (ad 117), .int x] (fun r I' J' => r = nI (fb_ct (fun f => decide (stF ac (ltX lt (-1)) f np 0 = x)) 12) ∧ mH I I' ∧ J' = J) := by
  refine Ci.of (by decide) (Nat.le_of_ble_eq_true rfl) ?_
  intro p e s m args below meth c A C hin Z Q hret
  refine r_aload_n C 0 (dk oX10_standing 0 rfl) rfl ?_
  refine r_iconst C (dk oX10_standing 1 rfl) (v := -1) (by decide) ?_
  refine r_ivv C Z (dk oX10_standing 2 rfl) cl_X10_247 ci_X10_hearAll rfl (km hn rfl) (c_X10_hearAll hn I J np dy lt ac hP (-1)) rfl rfl (Nat.le_of_ble_eq_true rfl) ⟨Nat.le_of_ble_eq_true rfl, Nat.le_of_ble_eq_true rfl⟩ ⟨Nat.zero_le _, Nat.zero_le _⟩ (fun I2 J2 h2 => ?_)
  obtain ⟨hM, _, hO, e2_⟩ := h2
  have e2_ := e2_.symm
  subst e2_
  refine r_iconst C (dk oX10_standing 3 rfl) (v := nI 0) (by decide) ?_
  refine r_istore_n (lo' := [(2, _), (0, _), (1, _)]) C (dk oX10_standing 4 rfl) rfl (by decide) rfl ?_
  refine r_iconst C (dk oX10_standing 5 rfl) (v := nI 0) (by decide) ?_
  refine r_istore_n (lo' := [(3, _), (2, _), (0, _), (1, _)]) C (dk oX10_standing 6 rfl) rfl (by decide) rfl ?_
  have L9 : ∀ (d_ : Nat) (f_ : Nat), 12 - f_ < d_ → f_ ≤ 12 → V p l e (rmL 4) s m args below meth c Q D A 4 0 0 n ad (mE cA ad I2 J) 9 [(0, .ref (ad 117)), (1, .int x), (2, .int (nI (fb_ct (fun f => decide (stF ac (ltX lt (-1)) f np 0 = x)) f_))), (3, .int (nI f_))] [] := by
    intro d_
    induction d_ with
    | zero => intros; exact absurd (by assumption) (Nat.not_lt_zero _)
    | succ d_ ih => 
      intro f_ hd_ hf
      refine r_iload_n C 3 (dk oX10_standing 7 rfl) rfl ?_
      refine r_bipush C (dk oX10_standing 8 rfl) (v := nI 12) (by decide) ?_
      refine r_icmp_ge (tgt := 42) C (dk oX10_standing 9 rfl) (by decide) (fun hb12 => ?_) (fun hb12 => ?_)
      · simp (disch := omega) only [nI_leI, nI_ltI, nI_eq, nI_eq0] at hb12
        refine r_iload_n C 2 (dk oX10_standing 25 rfl) rfl ?_
        refine hret (dk oX10_standing 26 rfl) rfl ?_
        exact ⟨by rw [show f_ = 12 by omega], hO, rfl⟩
      · simp (disch := omega) only [nI_leI, nI_ltI, nI_eq, nI_eq0] at hb12
        refine r_iload_n C 2 (dk oX10_standing 10 rfl) rfl ?_
        refine r_aload_n C 0 (dk oX10_standing 11 rfl) rfl ?_
        refine r_getR C (dk oX10_standing 12 rfl) fl_X10_62 rfl (km hn rfl) ?_
        refine r_iload_n C 3 (dk oX10_standing 13 rfl) rfl ?_
        refine r_iald C _ (dk oX10_standing 14 rfl) rfl (km hn rfl) rfl (by omega) (by decide) ?_
        rw [show I2 135 f_ = stF ac (ltX lt (-1)) f_ np 0 from hM f_ (by omega) 0 (by decide)]
        refine r_iload_n C 1 (dk oX10_standing 15 rfl) rfl ?_
        refine r_icmp_ne (tgt := 30) C (dk oX10_standing 16 rfl) (by decide) (fun hb23 => ?_) (fun hb23 => ?_)
        · refine r_iconst C (dk oX10_standing 19 rfl) (v := nI 0) (by decide) ?_
          refine r_topI (show nI 0 = b32 (decide (stF ac (ltX lt (-1)) f_ np 0 = x)) from b32_df hb23) ?_
          refine r_isi C Z (dk oX10_standing 20 rfl) cl_X10_109 st_X10_one (c_X10_one _ J _) rfl rfl (Nat.le_of_ble_eq_true rfl) ⟨Nat.le_of_ble_eq_true rfl, Nat.le_of_ble_eq_true rfl⟩ ⟨Nat.zero_le _, Nat.zero_le _⟩ (fun r31 I31 J31 h31 => ?_)
          obtain ⟨h31, e1_, e2_⟩ := h31
          have e1_ := e1_.symm
          have e2_ := e2_.symm
          subst e1_
          subst e2_
          subst h31
          refine r_iadd C (dk oX10_standing 21 rfl) ?_
          rw [show b32 (decide (stF ac (ltX lt (-1)) f_ np 0 = x)) = nI ((fun f => decide (stF ac (ltX lt (-1)) f np 0 = x)) f_).toNat from rfl, toI32_ct]
          refine r_istore_n (lo' := [(2, _), (0, _), (1, _), (3, _)]) C (dk oX10_standing 22 rfl) rfl (by decide) rfl ?_
          refine r_iinc (lo' := [(3, _), (2, _), (0, _), (1, _)]) C 3 (dk oX10_standing 23 rfl) rfl (by first | exact nI_inc _ | rfl) (by decide) rfl ?_
          refine r_goto (tgt := 9) C (dk oX10_standing 24 rfl) (by decide) ?_
          refine V.sub [2, 3, 1, 0] rfl ?_
          exact ih (f_ + 1) (by omega) (by omega)
        · refine r_iconst C (dk oX10_standing 17 rfl) (v := nI 1) (by decide) ?_
          refine r_topI (show nI 1 = b32 (decide (stF ac (ltX lt (-1)) f_ np 0 = x)) from b32_dt hb23) ?_
          refine r_goto (tgt := 31) C (dk oX10_standing 18 rfl) (by decide) ?_
          refine r_isi C Z (dk oX10_standing 20 rfl) cl_X10_109 st_X10_one (c_X10_one _ J _) rfl rfl (Nat.le_of_ble_eq_true rfl) ⟨Nat.le_of_ble_eq_true rfl, Nat.le_of_ble_eq_true rfl⟩ ⟨Nat.zero_le _, Nat.zero_le _⟩ (fun r31 I31 J31 h31 => ?_)
          obtain ⟨h31, e1_, e2_⟩ := h31
          have e1_ := e1_.symm
          have e2_ := e2_.symm
          subst e1_
          subst e2_
          subst h31
          refine r_iadd C (dk oX10_standing 21 rfl) ?_
          rw [show b32 (decide (stF ac (ltX lt (-1)) f_ np 0 = x)) = nI ((fun f => decide (stF ac (ltX lt (-1)) f np 0 = x)) f_).toNat from rfl, toI32_ct]
          refine r_istore_n (lo' := [(2, _), (0, _), (1, _), (3, _)]) C (dk oX10_standing 22 rfl) rfl (by decide) rfl ?_
          refine r_iinc (lo' := [(3, _), (2, _), (0, _), (1, _)]) C 3 (dk oX10_standing 23 rfl) rfl (by first | exact nI_inc _ | rfl) (by decide) rfl ?_
          refine r_goto (tgt := 9) C (dk oX10_standing 24 rfl) (by decide) ?_
          refine V.sub [2, 3, 1, 0] rfl ?_
          exact ih (f_ + 1) (by omega) (by omega)
  refine V.sub [2, 3, 1, 0] rfl ?_
  exact L9 13 0 (by omega) (Nat.zero_le _)

set_option maxHeartbeats 1000000 in
set_option maxRecDepth 100000 in
theorem c_X10_isEnough (hn : 148 ≤ n) (I : MI) (J : MJ) (Φ : Nat → FS) (hM : FcM I 134 Φ) (hok : fsA Φ) (S_ : Nat) (hS : S_ < 4096) (C_ : List Nat) (hH : ∀ s, s < 4096 → I 144 s = b32 (evC C_ s)) : Ci l n ad cA D z 2 yX10_isEnough cX10_isEnough 4 .boolean I J [.ref (ad 117), .int (nI S_), .int (nI (opN Φ))] (fun r I' J' => r = b32 (enM C_ Φ S_) ∧ I' = I ∧ J' = J) := by
  refine Ci.of (by decide) (Nat.le_of_ble_eq_true rfl) ?_
  intro p e s m args below meth c A C hin Z Q hret
  refine r_iconst C (dk oX10_isEnough 0 rfl) (v := nI 0) (by decide) ?_
  refine r_istore_n (lo' := [(3, _), (0, _), (1, _), (2, _)]) C (dk oX10_isEnough 1 rfl) rfl (by decide) rfl ?_
  have L2 : ∀ (d_ : Nat) (s_ : Nat), 4096 - s_ < d_ → s_ ≤ 4096 → anyB (fun s => sub s (opN Φ) && sub S_ s && !(evC C_ (soD Φ s 0))) s_ = false → V p l e (rmL 2) s m args below meth c Q D A 4 0 0 n ad (mE cA ad I J) 2 [(0, .ref (ad 117)), (1, .int (nI S_)), (2, .int (nI (opN Φ))), (3, .int (nI s_))] [] := by
    intro d_
    induction d_ with
    | zero => intros; exact absurd (by assumption) (Nat.not_lt_zero _)
    | succ d_ ih => 
      intro s_ hd_ hs hv
      refine r_iload_n C 3 (dk oX10_isEnough 2 rfl) rfl ?_
      refine r_sipush C (dk oX10_isEnough 3 rfl) (v := nI 4096) (by decide) ?_
      refine r_icmp_ge (tgt := 47) C (dk oX10_isEnough 4 rfl) (by decide) (fun hb6 => ?_) (fun hb6 => ?_)
      · simp (disch := omega) only [nI_leI, nI_ltI, nI_eq, nI_eq0] at hb6
        refine r_iconst C (dk oX10_isEnough 29 rfl) (v := nI 1) (by decide) ?_
        refine hret (dk oX10_isEnough 30 rfl) rfl ?_
        refine ⟨?_, rfl, rfl⟩
        unfold enM
        rw [show (4096 : Nat) = s_ by omega, hv]
        rfl
      · simp (disch := omega) only [nI_leI, nI_ltI, nI_eq, nI_eq0] at hb6
        refine r_iload_n C 3 (dk oX10_isEnough 5 rfl) rfl ?_
        refine r_iload_n C 2 (dk oX10_isEnough 6 rfl) rfl ?_
        refine r_iconst C (dk oX10_isEnough 7 rfl) (v := -1) (by decide) ?_
        refine r_ixor C (dk oX10_isEnough 8 rfl) ?_
        refine r_iand C (dk oX10_isEnough 9 rfl) ?_
        rw [nI_not (by omega)]
        have han : anN s_ (opN Φ) < 4096 := anN_lt (k := 12) (by omega)
        refine r_if_ne (tgt := 41) C (dk oX10_isEnough 10 rfl) (by decide) (fun hb14 => ?_) (fun hb14 => ?_)
        · simp (disch := omega) only [nI_leI, nI_ltI, nI_eq, nI_eq0] at hb14
          have hsk : (fun s => sub s (opN Φ) && sub S_ s && !(evC C_ (soD Φ s 0))) s_ = false := by
            show (sub s_ (opN Φ) && sub S_ s_ && _) = false
            rw [show sub s_ (opN Φ) = false from by rw [sub_anN]; exact decide_eq_false hb14]; rfl
          refine r_iinc (lo' := [(3, _), (0, _), (1, _), (2, _)]) C 3 (dk oX10_isEnough 27 rfl) rfl (by first | exact nI_inc _ | rfl) (by decide) rfl ?_
          refine r_goto (tgt := 2) C (dk oX10_isEnough 28 rfl) (by decide) ?_
          refine V.sub [1, 2, 3, 0] rfl ?_
          exact ih (s_ + 1) (by omega) (by omega) (by rw [any_skip (P := (fun s => sub s (opN Φ) && sub S_ s && !(evC C_ (soD Φ s 0)))) hsk]; exact hv)
        · simp (disch := omega) only [nI_leI, nI_ltI, nI_eq, nI_eq0] at hb14
          refine r_iload_n C 1 (dk oX10_isEnough 11 rfl) rfl ?_
          refine r_iload_n C 3 (dk oX10_isEnough 12 rfl) rfl ?_
          refine r_iconst C (dk oX10_isEnough 13 rfl) (v := -1) (by decide) ?_
          refine r_ixor C (dk oX10_isEnough 14 rfl) ?_
          refine r_iand C (dk oX10_isEnough 15 rfl) ?_
          rw [nI_not (by omega)]
          have han2 : anN S_ s_ < 4096 := anN_lt (k := 12) (by omega)
          refine r_if_ne (tgt := 41) C (dk oX10_isEnough 16 rfl) (by decide) (fun hb22 => ?_) (fun hb22 => ?_)
          · simp (disch := omega) only [nI_leI, nI_ltI, nI_eq, nI_eq0] at hb22
            have hsk : (fun s => sub s (opN Φ) && sub S_ s && !(evC C_ (soD Φ s 0))) s_ = false := by
              show (sub s_ (opN Φ) && sub S_ s_ && _) = false
              rw [show sub S_ s_ = false from by rw [sub_anN]; exact decide_eq_false hb22, Bool.and_false]; rfl
            refine r_iinc (lo' := [(3, _), (0, _), (1, _), (2, _)]) C 3 (dk oX10_isEnough 27 rfl) rfl (by first | exact nI_inc _ | rfl) (by decide) rfl ?_
            refine r_goto (tgt := 2) C (dk oX10_isEnough 28 rfl) (by decide) ?_
            refine V.sub [1, 2, 3, 0] rfl ?_
            exact ih (s_ + 1) (by omega) (by omega) (by rw [any_skip (P := (fun s => sub s (opN Φ) && sub S_ s && !(evC C_ (soD Φ s 0)))) hsk]; exact hv)
          · simp (disch := omega) only [nI_leI, nI_ltI, nI_eq, nI_eq0] at hb22
            refine r_aload_n C 0 (dk oX10_isEnough 17 rfl) rfl ?_
            refine r_getR C (dk oX10_isEnough 18 rfl) fl_X10_93 rfl (km hn rfl) ?_
            refine r_aload_n C 0 (dk oX10_isEnough 19 rfl) rfl ?_
            refine r_iload_n C 3 (dk oX10_isEnough 20 rfl) rfl ?_
            refine r_iconst C (dk oX10_isEnough 21 rfl) (v := nI 0) (by decide) ?_
            refine r_ivi C Z (dk oX10_isEnough 22 rfl) cl_X10_281 ci_X10_soBy rfl (km hn rfl) (c_X10_soBy hn I J Φ hM s_ 0 (by omega) (by decide)) rfl rfl (Nat.le_of_ble_eq_true rfl) ⟨Nat.le_of_ble_eq_true rfl, Nat.le_of_ble_eq_true rfl⟩ ⟨Nat.zero_le _, Nat.zero_le _⟩ (fun r32 I32 J32 h32 => ?_)
            obtain ⟨h32, e1_, e2_⟩ := h32
            have e1_ := e1_.symm
            have e2_ := e2_.symm
            subst e1_
            subst e2_
            subst h32
            refine r_zald C _ (dk oX10_isEnough 23 rfl) rfl (km hn rfl) rfl soD_lt (by decide) ?_
            rw [hH _ soD_lt]
            refine r_if_ne (tgt := 41) C (dk oX10_isEnough 24 rfl) (by decide) (fun hb36 => ?_) (fun hb36 => ?_)
            · rw [b32_n] at hb36
              have hsk : (fun s => sub s (opN Φ) && sub S_ s && !(evC C_ (soD Φ s 0))) s_ = false := by
                show (sub s_ (opN Φ) && sub S_ s_ && !(evC C_ (soD Φ s_ 0))) = false
                rw [hb36]; exact Bool.and_false _
              refine r_iinc (lo' := [(3, _), (0, _), (1, _), (2, _)]) C 3 (dk oX10_isEnough 27 rfl) rfl (by first | exact nI_inc _ | rfl) (by decide) rfl ?_
              refine r_goto (tgt := 2) C (dk oX10_isEnough 28 rfl) (by decide) ?_
              refine V.sub [1, 2, 3, 0] rfl ?_
              exact ih (s_ + 1) (by omega) (by omega) (by rw [any_skip (P := (fun s => sub s (opN Φ) && sub S_ s && !(evC C_ (soD Φ s 0)))) hsk]; exact hv)
            · rw [b32_0] at hb36
              refine r_iconst C (dk oX10_isEnough 25 rfl) (v := nI 0) (by decide) ?_
              refine hret (dk oX10_isEnough 26 rfl) rfl ?_
              refine ⟨?_, rfl, rfl⟩
              unfold enM
              rw [(anyB_t 4096).mpr ⟨s_, Nat.not_le.mp hb6, by
                show (sub s_ (opN Φ) && sub S_ s_ && !(evC C_ (soD Φ s_ 0))) = true
                rw [show sub s_ (opN Φ) = true from by rw [sub_anN]; exact decide_eq_true hb14, show sub S_ s_ = true from by rw [sub_anN]; exact decide_eq_true hb22, hb36]; rfl⟩]
              rfl
  refine V.sub [1, 2, 3, 0] rfl ?_
  exact L2 4097 0 (by omega) (Nat.zero_le _) rfl

set_option maxHeartbeats 1000000 in
set_option maxRecDepth 100000 in
theorem c_X10_counts (hn : 148 ≤ n) (I : MI) (J : MJ) (Φ : Nat → FS) (hM : FcM I 134 Φ) (hok : fsA Φ) (k_ : Prf) (hK : MK0 I k_) (j_ : Nat) (hj : j_ < k_.1) : Ci l n ad cA D z 2 yX10_counts cX10_counts 3 .int I J [.ref (ad 117), .int (nI j_)] (fun r I' J' => r = berF (k_.2.1 j_) (Φ (k_.2.2.1 j_)) ∧ I' = I ∧ J' = J) := by
  refine Ci.of (by decide) (Nat.le_of_ble_eq_true rfl) ?_
  intro p e s m args below meth c A C hin Z Q hret
  have hnk := hK.1
  have q4 := hK.2.2 j_ hj
  have hf12 := q4.2.2.2.1
  have hop := @opN_lt Φ
  refine r_aload_n C 0 (dk oX10_counts 0 rfl) rfl ?_
  refine r_getR C (dk oX10_counts 1 rfl) fl_X10_41 rfl (km hn rfl) ?_
  refine r_iload_n C 1 (dk oX10_counts 2 rfl) rfl ?_
  refine r_iald C _ (dk oX10_counts 3 rfl) rfl (km hn rfl) rfl (by omega) (by decide) ?_
  rw [q4.2.2.1]
  refine r_istore_n (lo' := [(2, _), (0, _), (1, _)]) C (dk oX10_counts 4 rfl) rfl (by decide) rfl ?_
  refine r_aload_n C 1 (dk oX10_counts 5 rfl) rfl ?_
  refine r_ivi C Z (dk oX10_counts 6 rfl) cl_X10_278 ci_X10_openFacts rfl (km hn rfl) (c_X10_openFacts hn I J Φ hM hok) rfl rfl (Nat.le_of_ble_eq_true rfl) ⟨Nat.le_of_ble_eq_true rfl, Nat.le_of_ble_eq_true rfl⟩ ⟨Nat.zero_le _, Nat.zero_le _⟩ (fun r8 I8 J8 h8 => ?_)
  obtain ⟨h8, e1_, e2_⟩ := h8
  have e1_ := e1_.symm
  have e2_ := e2_.symm
  subst e1_
  subst e2_
  subst h8
  refine r_iload_n C 0 (dk oX10_counts 7 rfl) rfl ?_
  refine r_isi C Z (dk oX10_counts 8 rfl) cl_X10_231 st_X10_has (c_X10_has I J (opN Φ) (k_.2.2.1 j_) (by omega) (by omega)) rfl rfl (Nat.le_of_ble_eq_true rfl) ⟨Nat.le_of_ble_eq_true rfl, Nat.le_of_ble_eq_true rfl⟩ ⟨Nat.zero_le _, Nat.zero_le _⟩ (fun r12 I12 J12 h12 => ?_)
  obtain ⟨h12, e1_, e2_⟩ := h12
  have e1_ := e1_.symm
  have e2_ := e2_.symm
  subst e1_
  subst e2_
  subst h12
  refine r_if_ne (tgt := 20) C (dk oX10_counts 9 rfl) (by decide) (fun hb15 => ?_) (fun hb15 => ?_)
  · rw [b32_n, opN_bit hf12] at hb15
    refine r_aload_n C 1 (dk oX10_counts 12 rfl) rfl ?_
    refine r_getR C (dk oX10_counts 13 rfl) fl_X10_38 rfl (km hn rfl) ?_
    refine r_iload_n C 2 (dk oX10_counts 14 rfl) rfl ?_
    refine r_iald C _ (dk oX10_counts 15 rfl) rfl (km hn rfl) rfl (by omega) (by decide) ?_
    rw [q4.1]
    refine r_aload_n C 1 (dk oX10_counts 16 rfl) rfl ?_
    refine r_getR C (dk oX10_counts 17 rfl) fl_X10_68 rfl (km hn rfl) ?_
    refine r_iload_n C 0 (dk oX10_counts 18 rfl) rfl ?_
    refine r_iald C _ (dk oX10_counts 19 rfl) rfl (km hn rfl) rfl (by omega) (by decide) ?_
    rw [show I 137 (k_.2.2.1 j_) = Φ (k_.2.2.1 j_) 2 from hM _ hf12 2 (by decide)]
    refine r_icmp_ne (tgt := 39) C (dk oX10_counts 20 rfl) (by decide) (fun hb32 => ?_) (fun hb32 => ?_)
    · refine r_aload_n C 1 (dk oX10_counts 23 rfl) rfl ?_
      refine r_getR C (dk oX10_counts 24 rfl) fl_X10_62 rfl (km hn rfl) ?_
      refine r_iload_n C 0 (dk oX10_counts 25 rfl) rfl ?_
      refine r_iald C _ (dk oX10_counts 26 rfl) rfl (km hn rfl) rfl (by omega) (by decide) ?_
      rw [show I 135 (k_.2.2.1 j_) = Φ (k_.2.2.1 j_) 0 from hM _ hf12 0 (by decide)]
      refine r_iconst C (dk oX10_counts 27 rfl) (v := nI 4) (by decide) ?_
      refine r_icmp_ne (tgt := 53) C (dk oX10_counts 28 rfl) (by decide) (fun hb46 => ?_) (fun hb46 => ?_)
      · refine r_iconst C (dk oX10_counts 31 rfl) (v := nI 0) (by decide) ?_
        refine hret (dk oX10_counts 32 rfl) rfl ?_
        refine ⟨?_, rfl, rfl⟩
        rw [ber_o hb15]
        first
          | exact (if_pos hb32.symm).symm
          | exact ((if_neg (Ne.symm hb32)).trans (if_pos hb46)).symm
          | exact ((if_neg (Ne.symm hb32)).trans (if_neg hb46)).symm
      · refine r_iconst C (dk oX10_counts 29 rfl) (v := -1) (by decide) ?_
        refine r_goto (tgt := 54) C (dk oX10_counts 30 rfl) (by decide) ?_
        refine hret (dk oX10_counts 32 rfl) rfl ?_
        refine ⟨?_, rfl, rfl⟩
        rw [ber_o hb15]
        first
          | exact (if_pos hb32.symm).symm
          | exact ((if_neg (Ne.symm hb32)).trans (if_pos hb46)).symm
          | exact ((if_neg (Ne.symm hb32)).trans (if_neg hb46)).symm
    · refine r_iconst C (dk oX10_counts 21 rfl) (v := nI 1) (by decide) ?_
      refine r_goto (tgt := 54) C (dk oX10_counts 22 rfl) (by decide) ?_
      refine hret (dk oX10_counts 32 rfl) rfl ?_
      refine ⟨?_, rfl, rfl⟩
      rw [ber_o hb15]
      first
        | exact (if_pos hb32.symm).symm
        | exact ((if_neg (Ne.symm hb32)).trans (if_pos hb46)).symm
        | exact ((if_neg (Ne.symm hb32)).trans (if_neg hb46)).symm
  · rw [b32_0, opN_bit hf12] at hb15
    refine r_iconst C (dk oX10_counts 10 rfl) (v := -1) (by decide) ?_
    refine hret (dk oX10_counts 11 rfl) rfl ?_
    exact ⟨(ber_c hb15).symm, rfl, rfl⟩

end MOD4
