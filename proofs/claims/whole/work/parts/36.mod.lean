section MOD5
variable {l : Launch} {n : Nat} {ad : Nat → Nat} {cA : Nat → ClassId} {D : va_G} {z : Zw}
def sumN (g : Nat → Nat) : Nat → Nat
  | 0 => 0
  | n + 1 => sumN g n + g n
theorem sum_cong {g h : Nat → Nat} : ∀ n, (∀ i, i < n → g i = h i) → sumN g n = sumN h n
  | 0, _ => rfl
  | n + 1, e => by
    unfold sumN
    rw [sum_cong n (fun i hi => e i (by omega)), e n (by omega)]
theorem sum_0 {g : Nat → Nat} : ∀ n, (∀ i, i < n → g i = 0) → sumN g n = 0
  | 0, _ => rfl
  | n + 1, e => by
    unfold sumN
    rw [sum_0 n (fun i hi => e i (by omega)), e n (by omega)]
theorem add_z {a b c : Nat} (h1 : a = c) (h2 : b = 0) : a + b = c := by omega
theorem sum_pair {g : Nat → Nat} : ∀ n, sumN g (2 * n) = sumN (fun t => g (2 * t)) n + sumN (fun t => g (2 * t + 1)) n
  | 0 => rfl
  | n + 1 => by
    rw [show 2 * (n + 1) = 2 * n + 1 + 1 by omega]
    show sumN g (2 * n) + g (2 * n) + g (2 * n + 1) = (sumN _ n + g (2 * n)) + (sumN _ n + g (2 * n + 1))
    rw [sum_pair n]
    omega
/-- how likely a way is, of the first f facts -/
def wyN (op : Nat) (sh : Nat → Nat) (s : Nat) : Nat → Nat
  | 0 => 1000000
  | f + 1 => if op.testBit f = true then wyN op sh s f * (if s.testBit f = true then sh f else 1000 - sh f) / 1000 else wyN op sh s f
theorem wy_le {op : Nat} {sh : Nat → Nat} {s : Nat} (hs : ∀ f, sh f ≤ 1000) : ∀ f, wyN op sh s f ≤ 1000000
  | 0 => Nat.le_refl _
  | f + 1 => by
    have ih := wy_le (op := op) (s := s) hs f
    unfold wyN
    split
    · have h1 : (if s.testBit f = true then sh f else 1000 - sh f) ≤ 1000 := by
        have := hs f
        split <;> omega
      have h2 : wyN op sh s f * (if s.testBit f = true then sh f else 1000 - sh f) ≤ 1000000 * 1000 := Nat.mul_le_mul ih h1
      omega
    · exact ih
theorem wy_0 {op : Nat} {sh : Nat → Nat} {s : Nat} {f : Nat} (h : wyN op sh s f = 0) : ∀ d, wyN op sh s (f + d) = 0
  | 0 => h
  | d + 1 => by
    have ih := wy_0 h d
    show wyN op sh s (f + d + 1) = 0
    unfold wyN
    rw [ih, Nat.zero_mul, Nat.zero_div, ite_self]
def wyG (op : Nat) (sh : Nat → Nat) (s : Nat) : Nat → Nat → Nat → Nat
  | 0, _, w => w
  | m + 1, f, w => wyG op sh s m (f + 1) (if op.testBit f = true then w * (if s.testBit f = true then sh f else 1000 - sh f) / 1000 else w)
theorem wyG_N {op : Nat} {sh : Nat → Nat} {s : Nat} : ∀ m f, wyG op sh s m f (wyN op sh s f) = wyN op sh s (f + m)
  | 0, f => rfl
  | m + 1, f => by
    show wyG op sh s m (f + 1) (wyN op sh s (f + 1)) = _
    rw [wyG_N m (f + 1)]
    congr 1
    omega
theorem tb_add {a t f j : Nat} (ha : a < 2 ^ f) : (a + 2 ^ f * t).testBit j = if j < f then a.testBit j else t.testBit (j - f) := by rw [Nat.add_comm, Nat.testBit_two_pow_mul_add t ha]
theorem sub_t {s w : Nat} : sub s w = true ↔ ∀ j, s.testBit j = true → w.testBit j = true := by
  unfold sub
  rw [decide_eq_true_eq]
  constructor
  · intro h j hj
    have h2 := congrArg (fun x => x.testBit j) h
    simp only [Nat.testBit_and, hj, Bool.true_and] at h2
    exact h2
  · intro h
    apply Nat.eq_of_testBit_eq
    intro j
    rw [Nat.testBit_and]
    cases e : s.testBit j
    · rfl
    · rw [h j e]; rfl
theorem ways_sum {op : Nat} {sh : Nat → Nat} {h : Nat → Bool} (hop : op < 4096) : ∀ m shown w, m ≤ 12 → shown < 2 ^ (12 - m) → sub shown op = true → sumN (fun t => if h (shown + 2 ^ (12 - m) * t) = true then (if sub (shown + 2 ^ (12 - m) * t) op = true then wyG op sh (shown + 2 ^ (12 - m) * t) m (12 - m) w else 0) else 0) (2 ^ m) = spN op sh h m shown w
  | 0, shown, w, hm, hs, hsub => by
    show 0 + (if h (shown + 2 ^ 12 * 0) = true then (if sub (shown + 2 ^ 12 * 0) op = true then w else 0) else 0) = if h shown = true then w else 0
    rw [Nat.mul_zero, Nat.add_zero, Nat.zero_add, if_pos hsub]
  | m + 1, shown, w, hm, hs, hsub => by
    have hf : 12 - m = (12 - (m + 1)) + 1 := by omega
    obtain ⟨f, hfe⟩ : ∃ f, f = 12 - (m + 1) := ⟨_, rfl⟩
    rw [← hfe] at hs hf ⊢
    have hp : 2 ^ (f + 1) = 2 * 2 ^ f := by rw [Nat.pow_succ]; omega
    rw [Nat.pow_succ, Nat.mul_comm, sum_pair]
    have hsf : shown.testBit f = false := Nat.testBit_lt_two_pow hs
    have e0 : ∀ t, shown + 2 ^ f * (2 * t) = shown + 2 ^ (f + 1) * t := fun t => by rw [hp, Nat.mul_comm 2 (2 ^ f), Nat.mul_assoc]
    have e1 : ∀ t, shown + 2 ^ f * (2 * t + 1) = (shown + 2 ^ f) + 2 ^ (f + 1) * t := fun t => by rw [hp, Nat.mul_add, Nat.mul_one, Nat.mul_comm 2 (2 ^ f), Nat.mul_assoc]; omega
    have hs2 : shown < 2 ^ (f + 1) := by omega
    have hs3 : shown + 2 ^ f < 2 ^ (f + 1) := by omega
    have hor : shown ||| 2 ^ f = shown + 2 ^ f := by
      have := Nat.two_pow_add_eq_or_of_lt hs 1
      rw [Nat.mul_one] at this
      rw [Nat.or_comm, ← this, Nat.add_comm]
    have b0 : ∀ t, (shown + 2 ^ (f + 1) * t).testBit f = false := fun t => by rw [tb_add hs2, if_pos (by omega), hsf]
    have hsb : (shown + 2 ^ f).testBit f = true := by rw [← hor, Nat.testBit_or, Nat.testBit_two_pow_self, Bool.or_true]
    have b1 : ∀ t, ((shown + 2 ^ f) + 2 ^ (f + 1) * t).testBit f = true := fun t => by rw [tb_add hs3, if_pos (by omega), hsb]
    unfold spN
    rw [← hfe]
    by_cases ho : op.testBit f = true
    · rw [if_pos ho, Nat.add_comm]
      have ih1 := ways_sum (op := op) (sh := sh) (h := h) hop m (shown + 2 ^ f) (w * sh f / 1000) (by omega) (by rw [hf]; exact hs3) (by
        rw [sub_t] at hsub ⊢
        intro j hj
        rw [← hor, Nat.testBit_or, Nat.testBit_two_pow] at hj
        by_cases e : f = j
        · rw [← e]; exact ho
        · rw [decide_eq_false e, Bool.or_false] at hj; exact hsub j hj)
      have ih0 := ways_sum (op := op) (sh := sh) (h := h) hop m shown (w * (1000 - sh f) / 1000) (by omega) (by rw [hf]; exact hs2) hsub
      rw [hf] at ih0 ih1
      rw [hor, ← ih0, ← ih1]
      congr 1
      · refine sum_cong _ (fun t ht => ?_)
        show (if h (shown + 2 ^ f * (2 * t + 1)) = true then (if sub (shown + 2 ^ f * (2 * t + 1)) op = true then wyG op sh (shown + 2 ^ f * (2 * t + 1)) (m + 1) f w else 0) else 0) = _
        rw [e1 t]
        show (if h _ = true then (if sub _ op = true then wyG op sh ((shown + 2 ^ f) + 2 ^ (f + 1) * t) m (f + 1) (if op.testBit f = true then w * (if ((shown + 2 ^ f) + 2 ^ (f + 1) * t).testBit f = true then sh f else 1000 - sh f) / 1000 else w) else 0) else 0) = _
        rw [if_pos ho, b1 t, if_pos rfl]
      · refine sum_cong _ (fun t ht => ?_)
        show (if h (shown + 2 ^ f * (2 * t)) = true then (if sub (shown + 2 ^ f * (2 * t)) op = true then wyG op sh (shown + 2 ^ f * (2 * t)) (m + 1) f w else 0) else 0) = _
        rw [e0 t]
        show (if h _ = true then (if sub _ op = true then wyG op sh (shown + 2 ^ (f + 1) * t) m (f + 1) (if op.testBit f = true then w * (if (shown + 2 ^ (f + 1) * t).testBit f = true then sh f else 1000 - sh f) / 1000 else w) else 0) else 0) = _
        rw [if_pos ho, b0 t, if_neg (show ¬ (false = true) by decide)]
    · rw [if_neg ho]
      have ih0 := ways_sum (op := op) (sh := sh) (h := h) hop m shown w (by omega) (by rw [hf]; exact hs2) hsub
      rw [hf] at ih0
      rw [← ih0]
      refine add_z ?_ (sum_0 _ (fun t ht => ?_))
      · refine sum_cong _ (fun t ht => ?_)
        show (if h (shown + 2 ^ f * (2 * t)) = true then (if sub (shown + 2 ^ f * (2 * t)) op = true then wyG op sh (shown + 2 ^ f * (2 * t)) (m + 1) f w else 0) else 0) = _
        rw [e0 t]
        show (if h _ = true then (if sub _ op = true then wyG op sh (shown + 2 ^ (f + 1) * t) m (f + 1) (if op.testBit f = true then w * (if (shown + 2 ^ (f + 1) * t).testBit f = true then sh f else 1000 - sh f) / 1000 else w) else 0) else 0) = _
        rw [if_neg ho]
      · show (if h (shown + 2 ^ f * (2 * t + 1)) = true then (if sub (shown + 2 ^ f * (2 * t + 1)) op = true then wyG op sh (shown + 2 ^ f * (2 * t + 1)) (m + 1) f w else 0) else 0) = 0
        rw [e1 t, if_neg (c := sub ((shown + 2 ^ f) + 2 ^ (f + 1) * t) op = true) (fun q => ho ((sub_t.mp q) f (b1 t))), ite_self]
theorem sd_on {φ : FS} {sh : Bool} (h : fsOK φ) (hs : sh = true → opB φ = true) : sdB φ sh false = (asB φ || (sh ^^ onB φ)) := by
  unfold sdB asB onB
  have hs2 : sh = true → φ 0 ≠ nI 0 ∧ φ 0 ≠ nI 2 := fun q => of_decide_eq_true (hs q)
  rcases h with h | h
  · cases sh
    · have e : ¬ nI 0 = nI 2 := by decide
      simp [h.1, e]
    · exact absurd h.1 (hs2 rfl).1
  · rcases h.1 with h1 | h1 | h1 | h1 <;> rcases h.2.2 with h2 | h2 <;> cases sh <;> first
      | (rw [h1, h2]; decide)
      | (exact absurd h1 (hs2 rfl).2)
theorem soD_0 {Φ : Nat → FS} (hok : fsA Φ) {s : Nat} (hs : sub s (opN Φ) = true) : soD Φ s 0 = soN Φ s := by
  apply Nat.eq_of_testBit_eq
  intro f
  unfold soD soN
  rw [bS_bit, Nat.testBit_or, Nat.testBit_xor, bS_bit, bS_bit, Nat.zero_testBit]
  by_cases hf : f < 12
  · rw [decide_eq_true hf, Bool.true_and, Bool.true_and, Bool.true_and]
    exact sd_on (hok f hf) (fun q => by rw [← opN_bit hf]; exact sub_t.mp hs f q)
  · rw [decide_eq_false hf, Bool.false_and, Bool.false_and, Bool.false_and, Bool.xor_false, Bool.false_or]
    cases e : s.testBit f
    · rfl
    · have h2 := sub_t.mp hs f e
      rw [Nat.testBit_lt_two_pow (Nat.lt_of_lt_of_le (opN_lt (Φ := Φ)) (show 2 ^ 12 ≤ 2 ^ f from Nat.pow_le_pow_right (by decide) (by omega)))] at h2
      cases h2
/-- how likely each way is -/
def wyM (Φ : Nat → FS) (sh : Nat → Nat) (s : Nat) : Nat := if sub s (opN Φ) = true then wyN (opN Φ) sh s 12 else 0
theorem wyM_le {Φ : Nat → FS} {sh : Nat → Nat} {s : Nat} (hs : ∀ f, sh f ≤ 1000) : wyM Φ sh s ≤ 1000000 := by
  unfold wyM
  split
  · exact wy_le hs 12
  · exact Nat.zero_le _
theorem chM_eq {Φ : Nat → FS} (hok : fsA Φ) {sh : Nat → Nat} {C : List Nat} : sumN (fun s => if evC C (soD Φ s 0) = true then wyM Φ sh s else 0) 4096 = spN (opN Φ) sh (fun x => evC C (soN Φ x)) 12 0 1000000 := by
  rw [← ways_sum (op := opN Φ) (sh := sh) (h := fun x => evC C (soN Φ x)) opN_lt 12 0 1000000 (Nat.le_refl _) (by decide) (by unfold sub; rw [Nat.zero_and]; rfl)]
  refine sum_cong _ (fun s hs => ?_)
  show (if evC C (soD Φ s 0) = true then (if sub s (opN Φ) = true then wyN (opN Φ) sh s 12 else 0) else 0) = (if evC C (soN Φ (0 + 2 ^ (12 - 12) * s)) = true then (if sub (0 + 2 ^ (12 - 12) * s) (opN Φ) = true then wyG (opN Φ) sh (0 + 2 ^ (12 - 12) * s) 12 (12 - 12) 1000000 else 0) else 0)
  rw [show 0 + 2 ^ (12 - 12) * s = s by rw [Nat.sub_self, Nat.pow_zero]; omega]
  by_cases e : sub s (opN Φ) = true
  · rw [if_pos e, if_pos e, soD_0 hok e]
    rw [show wyG (opN Φ) sh s 12 (12 - 12) 1000000 = wyN (opN Φ) sh s 12 from wyG_N 12 0]
  · rw [if_neg e, if_neg e, ite_self, ite_self]
theorem negdiv {m : Nat} (h : m < 2 ^ 31) : (-nI m) / nI 1000 = -(nI (m / 1000)) := by
  apply Int32.toInt_inj.mp
  have h1 : (nI m).toInt = (m : Int) := nI_toI h
  have h2 : (nI (m / 1000)).toInt = ((m / 1000 : Nat) : Int) := nI_toI (by omega)
  have h3 : (nI 1000).toInt = 1000 := nI_toI (by decide)
  have n1 : (-nI m).toInt = -(m : Int) := by
    rw [Int32.toInt_neg, h1]
    apply Int.bmod_eq_of_le <;> omega
  have n2 : (-nI (m / 1000)).toInt = -((m / 1000 : Nat) : Int) := by
    rw [Int32.toInt_neg, h2]
    apply Int.bmod_eq_of_le <;> omega
  rw [Int32.toInt_div, n1, n2, h3, Int.neg_tdiv, show ((m : Int)).tdiv 1000 = ((m / 1000 : Nat) : Int) from rfl]
  apply Int.bmod_eq_of_le <;> omega
theorem wt_neg {a c : Nat} (ha : a ≤ 999) (hc : c ≤ 1000000) : -nI a * nI c / nI 1000 = -(nI (a * c / 1000)) := by
  have h : a * c ≤ 999 * 1000000 := Nat.mul_le_mul ha hc
  rw [Int32.neg_mul, pk_mul, negdiv (by omega)]
theorem wt_pos {a c : Nat} (ha : a ≤ 999) (hc : c ≤ 1000000) : nI a * nI c / nI 1000 = nI (a * c / 1000) := by
  have h : a * c ≤ 999 * 1000000 := Nat.mul_le_mul ha hc
  rw [pk_mul, pk_div (by omega) (by decide) (by decide)]
theorem wt_l {a c : Nat} (ha : a ≤ 999) (hc : c ≤ 1000000) : ((nI a).toInt64 * (nI c).toInt64 / 1000).toInt32 = nI (a * c / 1000) := by
  have h : a * c ≤ 999 * 1000000 := Nat.mul_le_mul ha hc
  rw [nI_l (by omega), nI_l (by omega), lN_mul, show (1000 : Int64) = lN 1000 from rfl, pk_lDiv (by omega) (by decide) (by decide), lN_i]
theorem neg_lt0 {a : Nat} (ha : a ≤ 999) : -nI a < 0 ↔ 0 < a := by
  rw [fa_lt, Int32.toInt_neg, nI_toI (by omega), Int.bmod_eq_of_le (by omega) (by omega)]
  show -(a : Int) < 0 ↔ _
  omega
theorem lgw {w : Nat} (h : w < 2 ^ 63) : lg_cmp (lN w) 0 ≤ 0 ↔ w = 0 := by
  rw [← Int32.not_lt, lgc_gt, show (0 : Int64) = lN 0 from rfl, pk_lLT (by decide) h]
  omega
set_option maxHeartbeats 1000000 in
set_option maxRecDepth 100000 in
theorem c_X10_likelyBy (hn : 148 ≤ n) (I : MI) (J : MJ) (Φ : Nat → FS) (hM : FcM I 134 Φ) (hok : fsA Φ) (k_ : Prf) (hK : MK0 I k_) (f_ m_ : Nat) (hf : f_ < 12) (hm : m_ < 65536) : Ci l n ad cA D z 3 yX10_likelyBy cX10_likelyBy 6 .int I J [.ref (ad 117), .int (nI f_), .int (nI m_)] (fun r I' J' => r = nI (shQ k_ Φ (brQ k_ ||| m_) f_) ∧ I' = I ∧ J' = J) := by
  refine Ci.of (by decide) (Nat.le_of_ble_eq_true rfl) ?_
  intro p e s m args below meth c A C hin Z Q hret
  have hnk := hK.1
  have hK2 := hK
  refine r_sipush C (dk oX10_likelyBy 0 rfl) (v := nI 1000) (by decide) ?_
  refine r_istore_n (lo' := [(3, _), (0, _), (1, _), (2, _)]) C (dk oX10_likelyBy 1 rfl) rfl (by decide) rfl ?_
  refine r_iconst C (dk oX10_likelyBy 2 rfl) (v := nI 0) (by decide) ?_
  refine r_istore (lo' := [(4, _), (3, _), (0, _), (1, _), (2, _)]) C (dk oX10_likelyBy 3 rfl) (by decide) rfl ?_
  have L7 : ∀ (d_ : Nat) (j_ : Nat), k_.1 - j_ < d_ → j_ ≤ k_.1 → V p l e (rmL 3) s m args below meth c Q D A 6 0 0 n ad (mE cA ad I J) 7 [(0, .ref (ad 117)), (1, .int (nI f_)), (2, .int (nI m_)), (3, .int (nI (cutN (cutP (brQ k_ ||| m_) k_.2.1 k_.2.2.1 Φ (nI 1) f_) k_.2.2.2.1 1000 j_))), (4, .int (nI j_))] [] := by
    intro d_
    induction d_ with
    | zero => intros; exact absurd (by assumption) (Nat.not_lt_zero _)
    | succ d_ ih => 
      intro j_ hd_ hj
      refine r_iload C 4 (dk oX10_likelyBy 4 rfl) rfl ?_
      refine r_aload_n C 0 (dk oX10_likelyBy 5 rfl) rfl ?_
      refine r_getR C (dk oX10_likelyBy 6 rfl) fl_X10_35 rfl (km hn rfl) ?_
      refine r_iconst C (dk oX10_likelyBy 7 rfl) (v := nI 0) (by decide) ?_
      refine r_iald C 0 (dk oX10_likelyBy 8 rfl) rfl (km hn rfl) rfl (by decide) (by decide) ?_
      rw [hK.2.1]
      refine r_icmp_ge (tgt := 82) C (dk oX10_likelyBy 9 rfl) (by decide) (fun hb15 => ?_) (fun hb15 => ?_)
      · simp (disch := omega) only [nI_leI, nI_ltI, nI_eq, nI_eq0] at hb15
        refine r_sipush C (dk oX10_likelyBy 43 rfl) (v := nI 1000) (by decide) ?_
        refine r_iload_n C 3 (dk oX10_likelyBy 44 rfl) rfl ?_
        refine r_isub C (dk oX10_likelyBy 45 rfl) ?_
        rw [pk_sub (cutN_le _), show j_ = k_.1 by omega]
        refine r_istore (lo' := [(4, _), (0, _), (1, _), (2, _), (3, _)]) C (dk oX10_likelyBy 46 rfl) (by decide) rfl ?_
        refine r_iconst C (dk oX10_likelyBy 47 rfl) (v := nI 0) (by decide) ?_
        refine r_istore (lo' := [(5, _), (4, _), (0, _), (1, _), (2, _), (3, _)]) C (dk oX10_likelyBy 48 rfl) (by decide) rfl ?_
        have L92 : ∀ (d_ : Nat) (j_ : Nat), k_.1 - j_ < d_ → j_ ≤ k_.1 → V p l e (rmL 3) s m args below meth c Q D A 6 0 0 n ad (mE cA ad I J) 92 [(0, .ref (ad 117)), (1, .int (nI f_)), (2, .int (nI m_)), (4, .int (nI (cutN (cutP (brQ k_ ||| m_) k_.2.1 k_.2.2.1 Φ (nI 0) f_) k_.2.2.2.1 (1000 - (cutN (cutP (brQ k_ ||| m_) k_.2.1 k_.2.2.1 Φ (nI 1) f_) k_.2.2.2.1 1000 k_.1)) j_))), (5, .int (nI j_))] [] := by
          intro d_
          induction d_ with
          | zero => intros; exact absurd (by assumption) (Nat.not_lt_zero _)
          | succ d_ ih => 
            intro j_ hd2 hj
            refine r_iload C 4 (dk oX10_likelyBy 49 rfl) rfl ?_
            refine r_aload_n C 0 (dk oX10_likelyBy 50 rfl) rfl ?_
            refine r_getR C (dk oX10_likelyBy 51 rfl) fl_X10_35 rfl (km hn rfl) ?_
            refine r_iconst C (dk oX10_likelyBy 52 rfl) (v := nI 0) (by decide) ?_
            refine r_iald C 0 (dk oX10_likelyBy 53 rfl) rfl (km hn rfl) rfl (by decide) (by decide) ?_
            rw [hK.2.1]
            refine r_icmp_ge (tgt := 168) C (dk oX10_likelyBy 54 rfl) (by decide) (fun hb100 => ?_) (fun hb100 => ?_)
            · simp (disch := omega) only [nI_leI, nI_ltI, nI_eq, nI_eq0] at hb100
              refine r_iload C 3 (dk oX10_likelyBy 87 rfl) rfl ?_
              refine hret (dk oX10_likelyBy 88 rfl) rfl ?_
              exact ⟨by rw [show j_ = k_.1 by omega]; rfl, rfl, rfl⟩
            · simp (disch := omega) only [nI_leI, nI_ltI, nI_eq, nI_eq0] at hb100
              refine r_aload_n C 0 (dk oX10_likelyBy 55 rfl) rfl ?_
              refine r_getR C (dk oX10_likelyBy 56 rfl) fl_X10_41 rfl (km hn rfl) ?_
              refine r_iload C 4 (dk oX10_likelyBy 57 rfl) rfl ?_
              refine r_iald C _ (dk oX10_likelyBy 58 rfl) rfl (km hn rfl) rfl (by omega) (by decide) ?_
              have q4 := hK.2.2 j_ (by omega)
              have hod := q4.2.2.2.2.2.1
              have hf12 := q4.2.2.2.1
              rw [q4.2.2.1]
              refine r_iload_n C 1 (dk oX10_likelyBy 59 rfl) rfl ?_
              refine r_icmp_ne (tgt := 162) C (dk oX10_likelyBy 60 rfl) (by decide) (fun hb111 => ?_) (fun hb111 => ?_)
              · simp (disch := omega) only [nI_leI, nI_ltI, nI_eq, nI_eq0] at hb111
                have hcp : cutP (brQ k_ ||| m_) k_.2.1 k_.2.2.1 Φ (nI 0) f_ j_ = false := by
                  show ((brQ k_ ||| m_).testBit j_ && decide (k_.2.2.1 j_ = f_) && decide (berF (k_.2.1 j_) (Φ (k_.2.2.1 j_)) = nI 0)) = false
                  rw [decide_eq_false hb111, Bool.and_false]; rfl
                refine r_iinc (lo' := [(5, _), (0, _), (1, _), (2, _), (4, _)]) C 4 (dk oX10_likelyBy 85 rfl) rfl (by first | exact nI_inc _ | rfl) (by decide) rfl ?_
                refine r_goto (tgt := 92) C (dk oX10_likelyBy 86 rfl) (by decide) ?_
                refine V.sub [1, 2, 3, 4, 0] rfl ?_
                have hih := ih (j_ + 1) (by omega) (by omega)
                first
                  | rw [cut_0 hcp] at hih
                  | rw [cut_1 hcp] at hih
                exact hih
              · simp (disch := omega) only [nI_leI, nI_ltI, nI_eq, nI_eq0] at hb111
                refine r_aload_n C 0 (dk oX10_likelyBy 61 rfl) rfl ?_
                refine r_getR C (dk oX10_likelyBy 62 rfl) fl_X10_50 rfl (km hn rfl) ?_
                refine r_iload C 4 (dk oX10_likelyBy 63 rfl) rfl ?_
                refine r_zald C _ (dk oX10_likelyBy 64 rfl) rfl (km hn rfl) rfl (by omega) (by decide) ?_
                rw [q4.2.2.2.2.2.2.2.2]
                refine r_if_ne (tgt := 133) C (dk oX10_likelyBy 65 rfl) (by decide) (fun hb121 => ?_) (fun hb121 => ?_)
                · rw [b32_n] at hb121
                  have hBb : (brQ k_ ||| m_).testBit j_ = true := by rw [Nat.testBit_or, bS_br (by omega), hb121]; rfl
                  refine r_aload_n C 0 (dk oX10_likelyBy 70 rfl) rfl ?_
                  refine r_iload C 4 (dk oX10_likelyBy 71 rfl) rfl ?_
                  refine r_ivi C Z (dk oX10_likelyBy 72 rfl) cl_X10_310 ci_X10_counts rfl (km hn rfl) (c_X10_counts hn I J Φ hM hok k_ hK2 j_ (by omega)) rfl rfl (Nat.le_of_ble_eq_true rfl) ⟨Nat.le_of_ble_eq_true rfl, Nat.le_of_ble_eq_true rfl⟩ ⟨Nat.zero_le _, Nat.zero_le _⟩ (fun r136 I136 J136 h136 => ?_)
                  obtain ⟨h136, e1_, e2_⟩ := h136
                  have e1_ := e1_.symm
                  have e2_ := e2_.symm
                  subst e1_
                  subst e2_
                  subst h136
                  refine r_if_ne (tgt := 162) C (dk oX10_likelyBy 73 rfl) (by decide) (fun hb139 => ?_) (fun hb139 => ?_)
                  · rw [show (0 : Int32) = nI 0 from rfl] at hb139
                    have hcp : cutP (brQ k_ ||| m_) k_.2.1 k_.2.2.1 Φ (nI 0) f_ j_ = false := by
                      show ((brQ k_ ||| m_).testBit j_ && decide (k_.2.2.1 j_ = f_) && decide (berF (k_.2.1 j_) (Φ (k_.2.2.1 j_)) = nI 0)) = false
                      rw [decide_eq_false hb139]; exact Bool.and_false _
                    refine r_iinc (lo' := [(5, _), (0, _), (1, _), (2, _), (4, _)]) C 4 (dk oX10_likelyBy 85 rfl) rfl (by first | exact nI_inc _ | rfl) (by decide) rfl ?_
                    refine r_goto (tgt := 92) C (dk oX10_likelyBy 86 rfl) (by decide) ?_
                    refine V.sub [1, 2, 3, 4, 0] rfl ?_
                    have hih := ih (j_ + 1) (by omega) (by omega)
                    first
                      | rw [cut_0 hcp] at hih
                      | rw [cut_1 hcp] at hih
                    exact hih
                  · rw [show (0 : Int32) = nI 0 from rfl] at hb139
                    have hcp : cutP (brQ k_ ||| m_) k_.2.1 k_.2.2.1 Φ (nI 0) f_ j_ = true := by
                      show ((brQ k_ ||| m_).testBit j_ && decide (k_.2.2.1 j_ = f_) && decide (berF (k_.2.1 j_) (Φ (k_.2.2.1 j_)) = nI 0)) = true
                      rw [hBb, decide_eq_true hb111, decide_eq_true hb139]; rfl
                    refine r_iload C 3 (dk oX10_likelyBy 74 rfl) rfl ?_
                    refine r_sipush C (dk oX10_likelyBy 75 rfl) (v := nI 1000) (by decide) ?_
                    refine r_aload_n C 0 (dk oX10_likelyBy 76 rfl) rfl ?_
                    refine r_getR C (dk oX10_likelyBy 77 rfl) fl_X10_44 rfl (km hn rfl) ?_
                    refine r_iload C 4 (dk oX10_likelyBy 78 rfl) rfl ?_
                    refine r_iald C _ (dk oX10_likelyBy 79 rfl) rfl (km hn rfl) rfl (by omega) (by decide) ?_
                    rw [q4.2.2.2.2.1]
                    refine r_isub C (dk oX10_likelyBy 80 rfl) ?_
                    rw [pk_sub hod]
                    refine r_imul C (dk oX10_likelyBy 81 rfl) ?_
                    rw [pk_mul]
                    have hcl := @cutN_le (cutP (brQ k_ ||| m_) k_.2.1 k_.2.2.1 Φ (nI 0) f_) k_.2.2.2.1 (1000 - (cutN (cutP (brQ k_ ||| m_) k_.2.1 k_.2.2.1 Φ (nI 1) f_) k_.2.2.2.1 1000 k_.1)) j_
                    have hmu : (cutN (cutP (brQ k_ ||| m_) k_.2.1 k_.2.2.1 Φ (nI 0) f_) k_.2.2.2.1 (1000 - (cutN (cutP (brQ k_ ||| m_) k_.2.1 k_.2.2.1 Φ (nI 1) f_) k_.2.2.2.1 1000 k_.1)) j_) * (1000 - k_.2.2.2.1 j_) ≤ 1000 * 1000 := Nat.mul_le_mul (by omega) (by omega)
                    refine r_sipush C (dk oX10_likelyBy 82 rfl) (v := nI 1000) (by decide) ?_
                    refine r_idiv C (dk oX10_likelyBy 83 rfl) (by decide) ?_
                    rw [pk_div (by omega) (by decide) (by decide)]
                    refine r_istore (lo' := [(4, _), (0, _), (1, _), (2, _), (5, _)]) C (dk oX10_likelyBy 84 rfl) (by decide) rfl ?_
                    refine r_iinc (lo' := [(5, _), (4, _), (0, _), (1, _), (2, _)]) C 4 (dk oX10_likelyBy 85 rfl) rfl (by first | exact nI_inc _ | rfl) (by decide) rfl ?_
                    refine r_goto (tgt := 92) C (dk oX10_likelyBy 86 rfl) (by decide) ?_
                    refine V.sub [2, 3, 4, 1, 0] rfl ?_
                    have hih := ih (j_ + 1) (by omega) (by omega)
                    first
                      | rw [cut_0 hcp] at hih
                      | rw [cut_1 hcp] at hih
                    exact hih
                · rw [b32_0] at hb121
                  have hbr0 := hb121
                  refine r_iload_n C 2 (dk oX10_likelyBy 66 rfl) rfl ?_
                  refine r_iload C 4 (dk oX10_likelyBy 67 rfl) rfl ?_
                  refine r_isi C Z (dk oX10_likelyBy 68 rfl) cl_X10_231 st_X10_has (c_X10_has I J (m_) (j_) (by omega) (by omega)) rfl rfl (Nat.le_of_ble_eq_true rfl) ⟨Nat.le_of_ble_eq_true rfl, Nat.le_of_ble_eq_true rfl⟩ ⟨Nat.zero_le _, Nat.zero_le _⟩ (fun r127 I127 J127 h127 => ?_)
                  obtain ⟨h127, e1_, e2_⟩ := h127
                  have e1_ := e1_.symm
                  have e2_ := e2_.symm
                  subst e1_
                  subst e2_
                  subst h127
                  refine r_if_eq (tgt := 162) C (dk oX10_likelyBy 69 rfl) (by decide) (fun hb130 => ?_) (fun hb130 => ?_)
                  · rw [b32_0] at hb130
                    have hcp : cutP (brQ k_ ||| m_) k_.2.1 k_.2.2.1 Φ (nI 0) f_ j_ = false := by
                      show ((brQ k_ ||| m_).testBit j_ && decide (k_.2.2.1 j_ = f_) && decide (berF (k_.2.1 j_) (Φ (k_.2.2.1 j_)) = nI 0)) = false
                      rw [show (brQ k_ ||| m_).testBit j_ = false from by rw [Nat.testBit_or, bS_br (by omega), hbr0, hb130]; rfl]; rfl
                    refine r_iinc (lo' := [(5, _), (0, _), (1, _), (2, _), (4, _)]) C 4 (dk oX10_likelyBy 85 rfl) rfl (by first | exact nI_inc _ | rfl) (by decide) rfl ?_
                    refine r_goto (tgt := 92) C (dk oX10_likelyBy 86 rfl) (by decide) ?_
                    refine V.sub [1, 2, 3, 4, 0] rfl ?_
                    have hih := ih (j_ + 1) (by omega) (by omega)
                    first
                      | rw [cut_0 hcp] at hih
                      | rw [cut_1 hcp] at hih
                    exact hih
                  · rw [b32_n] at hb130
                    have hBb : (brQ k_ ||| m_).testBit j_ = true := by rw [Nat.testBit_or, bS_br (by omega), hb130, Bool.or_true]
                    refine r_aload_n C 0 (dk oX10_likelyBy 70 rfl) rfl ?_
                    refine r_iload C 4 (dk oX10_likelyBy 71 rfl) rfl ?_
                    refine r_ivi C Z (dk oX10_likelyBy 72 rfl) cl_X10_310 ci_X10_counts rfl (km hn rfl) (c_X10_counts hn I J Φ hM hok k_ hK2 j_ (by omega)) rfl rfl (Nat.le_of_ble_eq_true rfl) ⟨Nat.le_of_ble_eq_true rfl, Nat.le_of_ble_eq_true rfl⟩ ⟨Nat.zero_le _, Nat.zero_le _⟩ (fun r136 I136 J136 h136 => ?_)
                    obtain ⟨h136, e1_, e2_⟩ := h136
                    have e1_ := e1_.symm
                    have e2_ := e2_.symm
                    subst e1_
                    subst e2_
                    subst h136
                    refine r_if_ne (tgt := 162) C (dk oX10_likelyBy 73 rfl) (by decide) (fun hb139 => ?_) (fun hb139 => ?_)
                    · rw [show (0 : Int32) = nI 0 from rfl] at hb139
                      have hcp : cutP (brQ k_ ||| m_) k_.2.1 k_.2.2.1 Φ (nI 0) f_ j_ = false := by
                        show ((brQ k_ ||| m_).testBit j_ && decide (k_.2.2.1 j_ = f_) && decide (berF (k_.2.1 j_) (Φ (k_.2.2.1 j_)) = nI 0)) = false
                        rw [decide_eq_false hb139]; exact Bool.and_false _
                      refine r_iinc (lo' := [(5, _), (0, _), (1, _), (2, _), (4, _)]) C 4 (dk oX10_likelyBy 85 rfl) rfl (by first | exact nI_inc _ | rfl) (by decide) rfl ?_
                      refine r_goto (tgt := 92) C (dk oX10_likelyBy 86 rfl) (by decide) ?_
                      refine V.sub [1, 2, 3, 4, 0] rfl ?_
                      have hih := ih (j_ + 1) (by omega) (by omega)
                      first
                        | rw [cut_0 hcp] at hih
                        | rw [cut_1 hcp] at hih
                      exact hih
                    · rw [show (0 : Int32) = nI 0 from rfl] at hb139
                      have hcp : cutP (brQ k_ ||| m_) k_.2.1 k_.2.2.1 Φ (nI 0) f_ j_ = true := by
                        show ((brQ k_ ||| m_).testBit j_ && decide (k_.2.2.1 j_ = f_) && decide (berF (k_.2.1 j_) (Φ (k_.2.2.1 j_)) = nI 0)) = true
                        rw [hBb, decide_eq_true hb111, decide_eq_true hb139]; rfl
                      refine r_iload C 3 (dk oX10_likelyBy 74 rfl) rfl ?_
                      refine r_sipush C (dk oX10_likelyBy 75 rfl) (v := nI 1000) (by decide) ?_
                      refine r_aload_n C 0 (dk oX10_likelyBy 76 rfl) rfl ?_
                      refine r_getR C (dk oX10_likelyBy 77 rfl) fl_X10_44 rfl (km hn rfl) ?_
                      refine r_iload C 4 (dk oX10_likelyBy 78 rfl) rfl ?_
                      refine r_iald C _ (dk oX10_likelyBy 79 rfl) rfl (km hn rfl) rfl (by omega) (by decide) ?_
                      rw [q4.2.2.2.2.1]
                      refine r_isub C (dk oX10_likelyBy 80 rfl) ?_
                      rw [pk_sub hod]
                      refine r_imul C (dk oX10_likelyBy 81 rfl) ?_
                      rw [pk_mul]
                      have hcl := @cutN_le (cutP (brQ k_ ||| m_) k_.2.1 k_.2.2.1 Φ (nI 0) f_) k_.2.2.2.1 (1000 - (cutN (cutP (brQ k_ ||| m_) k_.2.1 k_.2.2.1 Φ (nI 1) f_) k_.2.2.2.1 1000 k_.1)) j_
                      have hmu : (cutN (cutP (brQ k_ ||| m_) k_.2.1 k_.2.2.1 Φ (nI 0) f_) k_.2.2.2.1 (1000 - (cutN (cutP (brQ k_ ||| m_) k_.2.1 k_.2.2.1 Φ (nI 1) f_) k_.2.2.2.1 1000 k_.1)) j_) * (1000 - k_.2.2.2.1 j_) ≤ 1000 * 1000 := Nat.mul_le_mul (by omega) (by omega)
                      refine r_sipush C (dk oX10_likelyBy 82 rfl) (v := nI 1000) (by decide) ?_
                      refine r_idiv C (dk oX10_likelyBy 83 rfl) (by decide) ?_
                      rw [pk_div (by omega) (by decide) (by decide)]
                      refine r_istore (lo' := [(4, _), (0, _), (1, _), (2, _), (5, _)]) C (dk oX10_likelyBy 84 rfl) (by decide) rfl ?_
                      refine r_iinc (lo' := [(5, _), (4, _), (0, _), (1, _), (2, _)]) C 4 (dk oX10_likelyBy 85 rfl) rfl (by first | exact nI_inc _ | rfl) (by decide) rfl ?_
                      refine r_goto (tgt := 92) C (dk oX10_likelyBy 86 rfl) (by decide) ?_
                      refine V.sub [2, 3, 4, 1, 0] rfl ?_
                      have hih := ih (j_ + 1) (by omega) (by omega)
                      first
                        | rw [cut_0 hcp] at hih
                        | rw [cut_1 hcp] at hih
                      exact hih
        refine V.sub [2, 3, 4, 1, 0] rfl ?_
        exact L92 (k_.1 + 1) 0 (by omega) (Nat.zero_le _)
      · simp (disch := omega) only [nI_leI, nI_ltI, nI_eq, nI_eq0] at hb15
        refine r_aload_n C 0 (dk oX10_likelyBy 10 rfl) rfl ?_
        refine r_getR C (dk oX10_likelyBy 11 rfl) fl_X10_41 rfl (km hn rfl) ?_
        refine r_iload C 4 (dk oX10_likelyBy 12 rfl) rfl ?_
        refine r_iald C _ (dk oX10_likelyBy 13 rfl) rfl (km hn rfl) rfl (by omega) (by decide) ?_
        have q4 := hK.2.2 j_ (by omega)
        have hod := q4.2.2.2.2.2.1
        have hf12 := q4.2.2.2.1
        rw [q4.2.2.1]
        refine r_iload_n C 1 (dk oX10_likelyBy 14 rfl) rfl ?_
        refine r_icmp_ne (tgt := 76) C (dk oX10_likelyBy 15 rfl) (by decide) (fun hb26 => ?_) (fun hb26 => ?_)
        · simp (disch := omega) only [nI_leI, nI_ltI, nI_eq, nI_eq0] at hb26
          have hcp : cutP (brQ k_ ||| m_) k_.2.1 k_.2.2.1 Φ (nI 1) f_ j_ = false := by
            show ((brQ k_ ||| m_).testBit j_ && decide (k_.2.2.1 j_ = f_) && decide (berF (k_.2.1 j_) (Φ (k_.2.2.1 j_)) = nI 1)) = false
            rw [decide_eq_false hb26, Bool.and_false]; rfl
          refine r_iinc (lo' := [(4, _), (0, _), (1, _), (2, _), (3, _)]) C 4 (dk oX10_likelyBy 41 rfl) rfl (by first | exact nI_inc _ | rfl) (by decide) rfl ?_
          refine r_goto (tgt := 7) C (dk oX10_likelyBy 42 rfl) (by decide) ?_
          refine V.sub [1, 2, 3, 4, 0] rfl ?_
          have hih := ih (j_ + 1) (by omega) (by omega)
          first
            | rw [cut_0 hcp] at hih
            | rw [cut_1 hcp] at hih
          exact hih
        · simp (disch := omega) only [nI_leI, nI_ltI, nI_eq, nI_eq0] at hb26
          refine r_aload_n C 0 (dk oX10_likelyBy 16 rfl) rfl ?_
          refine r_getR C (dk oX10_likelyBy 17 rfl) fl_X10_50 rfl (km hn rfl) ?_
          refine r_iload C 4 (dk oX10_likelyBy 18 rfl) rfl ?_
          refine r_zald C _ (dk oX10_likelyBy 19 rfl) rfl (km hn rfl) rfl (by omega) (by decide) ?_
          rw [q4.2.2.2.2.2.2.2.2]
          refine r_if_ne (tgt := 48) C (dk oX10_likelyBy 20 rfl) (by decide) (fun hb36 => ?_) (fun hb36 => ?_)
          · rw [b32_n] at hb36
            have hBb : (brQ k_ ||| m_).testBit j_ = true := by rw [Nat.testBit_or, bS_br (by omega), hb36]; rfl
            refine r_aload_n C 0 (dk oX10_likelyBy 25 rfl) rfl ?_
            refine r_iload C 4 (dk oX10_likelyBy 26 rfl) rfl ?_
            refine r_ivi C Z (dk oX10_likelyBy 27 rfl) cl_X10_310 ci_X10_counts rfl (km hn rfl) (c_X10_counts hn I J Φ hM hok k_ hK2 j_ (by omega)) rfl rfl (Nat.le_of_ble_eq_true rfl) ⟨Nat.le_of_ble_eq_true rfl, Nat.le_of_ble_eq_true rfl⟩ ⟨Nat.zero_le _, Nat.zero_le _⟩ (fun r51 I51 J51 h51 => ?_)
            obtain ⟨h51, e1_, e2_⟩ := h51
            have e1_ := e1_.symm
            have e2_ := e2_.symm
            subst e1_
            subst e2_
            subst h51
            refine r_iconst C (dk oX10_likelyBy 28 rfl) (v := nI 1) (by decide) ?_
            refine r_icmp_ne (tgt := 76) C (dk oX10_likelyBy 29 rfl) (by decide) (fun hb55 => ?_) (fun hb55 => ?_)
            · have hcp : cutP (brQ k_ ||| m_) k_.2.1 k_.2.2.1 Φ (nI 1) f_ j_ = false := by
                show ((brQ k_ ||| m_).testBit j_ && decide (k_.2.2.1 j_ = f_) && decide (berF (k_.2.1 j_) (Φ (k_.2.2.1 j_)) = nI 1)) = false
                rw [decide_eq_false hb55]; exact Bool.and_false _
              refine r_iinc (lo' := [(4, _), (0, _), (1, _), (2, _), (3, _)]) C 4 (dk oX10_likelyBy 41 rfl) rfl (by first | exact nI_inc _ | rfl) (by decide) rfl ?_
              refine r_goto (tgt := 7) C (dk oX10_likelyBy 42 rfl) (by decide) ?_
              refine V.sub [1, 2, 3, 4, 0] rfl ?_
              have hih := ih (j_ + 1) (by omega) (by omega)
              first
                | rw [cut_0 hcp] at hih
                | rw [cut_1 hcp] at hih
              exact hih
            · have hcp : cutP (brQ k_ ||| m_) k_.2.1 k_.2.2.1 Φ (nI 1) f_ j_ = true := by
                show ((brQ k_ ||| m_).testBit j_ && decide (k_.2.2.1 j_ = f_) && decide (berF (k_.2.1 j_) (Φ (k_.2.2.1 j_)) = nI 1)) = true
                rw [hBb, decide_eq_true hb26, decide_eq_true hb55]; rfl
              refine r_iload_n C 3 (dk oX10_likelyBy 30 rfl) rfl ?_
              refine r_sipush C (dk oX10_likelyBy 31 rfl) (v := nI 1000) (by decide) ?_
              refine r_aload_n C 0 (dk oX10_likelyBy 32 rfl) rfl ?_
              refine r_getR C (dk oX10_likelyBy 33 rfl) fl_X10_44 rfl (km hn rfl) ?_
              refine r_iload C 4 (dk oX10_likelyBy 34 rfl) rfl ?_
              refine r_iald C _ (dk oX10_likelyBy 35 rfl) rfl (km hn rfl) rfl (by omega) (by decide) ?_
              rw [q4.2.2.2.2.1]
              refine r_isub C (dk oX10_likelyBy 36 rfl) ?_
              rw [pk_sub hod]
              refine r_imul C (dk oX10_likelyBy 37 rfl) ?_
              rw [pk_mul]
              have hcl := @cutN_le (cutP (brQ k_ ||| m_) k_.2.1 k_.2.2.1 Φ (nI 1) f_) k_.2.2.2.1 1000 j_
              have hmu : (cutN (cutP (brQ k_ ||| m_) k_.2.1 k_.2.2.1 Φ (nI 1) f_) k_.2.2.2.1 1000 j_) * (1000 - k_.2.2.2.1 j_) ≤ 1000 * 1000 := Nat.mul_le_mul hcl (by omega)
              refine r_sipush C (dk oX10_likelyBy 38 rfl) (v := nI 1000) (by decide) ?_
              refine r_idiv C (dk oX10_likelyBy 39 rfl) (by decide) ?_
              rw [pk_div (by omega) (by decide) (by decide)]
              refine r_istore_n (lo' := [(3, _), (0, _), (1, _), (2, _), (4, _)]) C (dk oX10_likelyBy 40 rfl) rfl (by decide) rfl ?_
              refine r_iinc (lo' := [(4, _), (3, _), (0, _), (1, _), (2, _)]) C 4 (dk oX10_likelyBy 41 rfl) rfl (by first | exact nI_inc _ | rfl) (by decide) rfl ?_
              refine r_goto (tgt := 7) C (dk oX10_likelyBy 42 rfl) (by decide) ?_
              refine V.sub [2, 3, 4, 1, 0] rfl ?_
              have hih := ih (j_ + 1) (by omega) (by omega)
              first
                | rw [cut_0 hcp] at hih
                | rw [cut_1 hcp] at hih
              exact hih
          · rw [b32_0] at hb36
            have hbr0 := hb36
            refine r_iload_n C 2 (dk oX10_likelyBy 21 rfl) rfl ?_
            refine r_iload C 4 (dk oX10_likelyBy 22 rfl) rfl ?_
            refine r_isi C Z (dk oX10_likelyBy 23 rfl) cl_X10_231 st_X10_has (c_X10_has I J (m_) (j_) (by omega) (by omega)) rfl rfl (Nat.le_of_ble_eq_true rfl) ⟨Nat.le_of_ble_eq_true rfl, Nat.le_of_ble_eq_true rfl⟩ ⟨Nat.zero_le _, Nat.zero_le _⟩ (fun r42 I42 J42 h42 => ?_)
            obtain ⟨h42, e1_, e2_⟩ := h42
            have e1_ := e1_.symm
            have e2_ := e2_.symm
            subst e1_
            subst e2_
            subst h42
            refine r_if_eq (tgt := 76) C (dk oX10_likelyBy 24 rfl) (by decide) (fun hb45 => ?_) (fun hb45 => ?_)
            · rw [b32_0] at hb45
              have hcp : cutP (brQ k_ ||| m_) k_.2.1 k_.2.2.1 Φ (nI 1) f_ j_ = false := by
                show ((brQ k_ ||| m_).testBit j_ && decide (k_.2.2.1 j_ = f_) && decide (berF (k_.2.1 j_) (Φ (k_.2.2.1 j_)) = nI 1)) = false
                rw [show (brQ k_ ||| m_).testBit j_ = false from by rw [Nat.testBit_or, bS_br (by omega), hbr0, hb45]; rfl]; rfl
              refine r_iinc (lo' := [(4, _), (0, _), (1, _), (2, _), (3, _)]) C 4 (dk oX10_likelyBy 41 rfl) rfl (by first | exact nI_inc _ | rfl) (by decide) rfl ?_
              refine r_goto (tgt := 7) C (dk oX10_likelyBy 42 rfl) (by decide) ?_
              refine V.sub [1, 2, 3, 4, 0] rfl ?_
              have hih := ih (j_ + 1) (by omega) (by omega)
              first
                | rw [cut_0 hcp] at hih
                | rw [cut_1 hcp] at hih
              exact hih
            · rw [b32_n] at hb45
              have hBb : (brQ k_ ||| m_).testBit j_ = true := by rw [Nat.testBit_or, bS_br (by omega), hb45, Bool.or_true]
              refine r_aload_n C 0 (dk oX10_likelyBy 25 rfl) rfl ?_
              refine r_iload C 4 (dk oX10_likelyBy 26 rfl) rfl ?_
              refine r_ivi C Z (dk oX10_likelyBy 27 rfl) cl_X10_310 ci_X10_counts rfl (km hn rfl) (c_X10_counts hn I J Φ hM hok k_ hK2 j_ (by omega)) rfl rfl (Nat.le_of_ble_eq_true rfl) ⟨Nat.le_of_ble_eq_true rfl, Nat.le_of_ble_eq_true rfl⟩ ⟨Nat.zero_le _, Nat.zero_le _⟩ (fun r51 I51 J51 h51 => ?_)
              obtain ⟨h51, e1_, e2_⟩ := h51
              have e1_ := e1_.symm
              have e2_ := e2_.symm
              subst e1_
              subst e2_
              subst h51
              refine r_iconst C (dk oX10_likelyBy 28 rfl) (v := nI 1) (by decide) ?_
              refine r_icmp_ne (tgt := 76) C (dk oX10_likelyBy 29 rfl) (by decide) (fun hb55 => ?_) (fun hb55 => ?_)
              · have hcp : cutP (brQ k_ ||| m_) k_.2.1 k_.2.2.1 Φ (nI 1) f_ j_ = false := by
                  show ((brQ k_ ||| m_).testBit j_ && decide (k_.2.2.1 j_ = f_) && decide (berF (k_.2.1 j_) (Φ (k_.2.2.1 j_)) = nI 1)) = false
                  rw [decide_eq_false hb55]; exact Bool.and_false _
                refine r_iinc (lo' := [(4, _), (0, _), (1, _), (2, _), (3, _)]) C 4 (dk oX10_likelyBy 41 rfl) rfl (by first | exact nI_inc _ | rfl) (by decide) rfl ?_
                refine r_goto (tgt := 7) C (dk oX10_likelyBy 42 rfl) (by decide) ?_
                refine V.sub [1, 2, 3, 4, 0] rfl ?_
                have hih := ih (j_ + 1) (by omega) (by omega)
                first
                  | rw [cut_0 hcp] at hih
                  | rw [cut_1 hcp] at hih
                exact hih
              · have hcp : cutP (brQ k_ ||| m_) k_.2.1 k_.2.2.1 Φ (nI 1) f_ j_ = true := by
                  show ((brQ k_ ||| m_).testBit j_ && decide (k_.2.2.1 j_ = f_) && decide (berF (k_.2.1 j_) (Φ (k_.2.2.1 j_)) = nI 1)) = true
                  rw [hBb, decide_eq_true hb26, decide_eq_true hb55]; rfl
                refine r_iload_n C 3 (dk oX10_likelyBy 30 rfl) rfl ?_
                refine r_sipush C (dk oX10_likelyBy 31 rfl) (v := nI 1000) (by decide) ?_
                refine r_aload_n C 0 (dk oX10_likelyBy 32 rfl) rfl ?_
                refine r_getR C (dk oX10_likelyBy 33 rfl) fl_X10_44 rfl (km hn rfl) ?_
                refine r_iload C 4 (dk oX10_likelyBy 34 rfl) rfl ?_
                refine r_iald C _ (dk oX10_likelyBy 35 rfl) rfl (km hn rfl) rfl (by omega) (by decide) ?_
                rw [q4.2.2.2.2.1]
                refine r_isub C (dk oX10_likelyBy 36 rfl) ?_
                rw [pk_sub hod]
                refine r_imul C (dk oX10_likelyBy 37 rfl) ?_
                rw [pk_mul]
                have hcl := @cutN_le (cutP (brQ k_ ||| m_) k_.2.1 k_.2.2.1 Φ (nI 1) f_) k_.2.2.2.1 1000 j_
                have hmu : (cutN (cutP (brQ k_ ||| m_) k_.2.1 k_.2.2.1 Φ (nI 1) f_) k_.2.2.2.1 1000 j_) * (1000 - k_.2.2.2.1 j_) ≤ 1000 * 1000 := Nat.mul_le_mul hcl (by omega)
                refine r_sipush C (dk oX10_likelyBy 38 rfl) (v := nI 1000) (by decide) ?_
                refine r_idiv C (dk oX10_likelyBy 39 rfl) (by decide) ?_
                rw [pk_div (by omega) (by decide) (by decide)]
                refine r_istore_n (lo' := [(3, _), (0, _), (1, _), (2, _), (4, _)]) C (dk oX10_likelyBy 40 rfl) rfl (by decide) rfl ?_
                refine r_iinc (lo' := [(4, _), (3, _), (0, _), (1, _), (2, _)]) C 4 (dk oX10_likelyBy 41 rfl) rfl (by first | exact nI_inc _ | rfl) (by decide) rfl ?_
                refine r_goto (tgt := 7) C (dk oX10_likelyBy 42 rfl) (by decide) ?_
                refine V.sub [2, 3, 4, 1, 0] rfl ?_
                have hih := ih (j_ + 1) (by omega) (by omega)
                first
                  | rw [cut_0 hcp] at hih
                  | rw [cut_1 hcp] at hih
                exact hih
  refine V.sub [2, 3, 4, 1, 0] rfl ?_
  exact L7 (k_.1 + 1) 0 (by omega) (Nat.zero_le _)

set_option maxHeartbeats 1000000 in
set_option maxRecDepth 100000 in
theorem c_X10_choose (hn : 148 ≤ n) (I : MI) (J : MJ) (k_ : Prf) (hK : MK0 I k_) (s_ m_ : Nat) (hs : s_ < 2) (hm : m_ ≤ 16) : Cv l n ad cA D z 0 yX10_choose cX10_choose 4 I J [.ref (ad 117), .int (nI s_), .int (nI m_)] (fun I' J' => I' 117 43 = nI (chN (chQ k_ s_) m_ k_.1) ∧ (∀ i, i < chN (chQ k_ s_) m_ k_.1 → I' 147 i = nI (chI (chQ k_ s_) m_ k_.1 i)) ∧ (∀ k, k ≠ 117 → k ≠ 147 → I' k = I k) ∧ (∀ i, i ≠ 43 → I' 117 i = I 117 i) ∧ J' = J) := by
  refine Cv.of (by decide) (Nat.le_of_ble_eq_true rfl) ?_
  intro p e s m args below meth c A C hin Z Q hret
  have hnk := hK.1
  refine r_aload_n C 0 (dk oX10_choose 0 rfl) rfl ?_
  refine r_iconst C (dk oX10_choose 1 rfl) (v := nI 0) (by decide) ?_
  refine r_putI C (dk oX10_choose 2 rfl) fl_X10_330 ft_10_43 rfl (km hn rfl) ?_
  refine r_iconst C (dk oX10_choose 3 rfl) (v := nI 0) (by decide) ?_
  refine r_istore_n (lo' := [(3, _), (0, _), (1, _), (2, _)]) C (dk oX10_choose 4 rfl) rfl (by decide) rfl ?_
  have L7 : ∀ (d_ : Nat) (j_ : Nat) (I1 : MI), k_.1 - j_ < d_ → j_ ≤ k_.1 → I1 117 43 = nI (chN (chQ k_ s_) m_ j_) → (∀ i, i < chN (chQ k_ s_) m_ j_ → I1 147 i = nI (chI (chQ k_ s_) m_ j_ i)) → (∀ k, k ≠ 117 → k ≠ 147 → I1 k = I k) → (∀ i, i ≠ 43 → I1 117 i = I 117 i) → V p l e (rmL 0) s m args below meth c Q D A 4 0 0 n ad (mE cA ad I1 J) 7 [(0, .ref (ad 117)), (1, .int (nI s_)), (2, .int (nI m_)), (3, .int (nI j_))] [] := by
    intro d_
    induction d_ with
    | zero => intros; exact absurd (by assumption) (Nat.not_lt_zero _)
    | succ d_ ih => 
      intro j_ I1 hd_ hj h43 h147 hO hO2
      refine r_iload_n C 3 (dk oX10_choose 5 rfl) rfl ?_
      refine r_aload_n C 0 (dk oX10_choose 6 rfl) rfl ?_
      refine r_getR C (dk oX10_choose 7 rfl) fl_X10_35 rfl (km hn rfl) ?_
      refine r_iconst C (dk oX10_choose 8 rfl) (v := nI 0) (by decide) ?_
      refine r_iald C 0 (dk oX10_choose 9 rfl) rfl (km hn rfl) rfl (by decide) (by decide) ?_
      rw [hO 126 (by decide) (by decide), hK.2.1]
      refine r_icmp_ge (tgt := 70) C (dk oX10_choose 10 rfl) (by decide) (fun hb14 => ?_) (fun hb14 => ?_)
      · simp (disch := omega) only [nI_leI, nI_ltI, nI_eq, nI_eq0] at hb14
        refine hret (dk oX10_choose 40 rfl) ?_
        first
          | (have e : k_.1 = j_ := by omega
             rw [e]
             exact ⟨h43, h147, hO, hO2, rfl⟩)
          | (have hcap := chI_cap (q := chQ k_ s_) (m := m_) hb22 k_.1 (by omega)
             rw [hcap.1, hcap.2]
             exact ⟨h43, h147, hO, hO2, rfl⟩)
      · simp (disch := omega) only [nI_leI, nI_ltI, nI_eq, nI_eq0] at hb14
        refine r_aload_n C 0 (dk oX10_choose 11 rfl) rfl ?_
        refine r_getI C (dk oX10_choose 12 rfl) fl_X10_330 rfl (km hn rfl) ?_
        have hch := @chN_le (chQ k_ s_) m_ j_
        rw [h43]
        refine r_iload_n C 2 (dk oX10_choose 13 rfl) rfl ?_
        refine r_icmp_ge (tgt := 70) C (dk oX10_choose 14 rfl) (by decide) (fun hb22 => ?_) (fun hb22 => ?_)
        · simp (disch := omega) only [nI_leI, nI_ltI, nI_eq, nI_eq0] at hb22
          refine hret (dk oX10_choose 40 rfl) ?_
          first
            | (have e : k_.1 = j_ := by omega
               rw [e]
               exact ⟨h43, h147, hO, hO2, rfl⟩)
            | (have hcap := chI_cap (q := chQ k_ s_) (m := m_) hb22 k_.1 (by omega)
               rw [hcap.1, hcap.2]
               exact ⟨h43, h147, hO, hO2, rfl⟩)
        · simp (disch := omega) only [nI_leI, nI_ltI, nI_eq, nI_eq0] at hb22
          refine r_aload_n C 0 (dk oX10_choose 15 rfl) rfl ?_
          refine r_getR C (dk oX10_choose 16 rfl) fl_X10_38 rfl (km hn rfl) ?_
          refine r_iload_n C 3 (dk oX10_choose 17 rfl) rfl ?_
          refine r_iald C _ (dk oX10_choose 18 rfl) rfl (km hn rfl) rfl (by omega) (by decide) ?_
          have q4 := hK.2.2 j_ (by omega)
          have hs2 := q4.2.1
          rw [hO 127 (by decide) (by decide), q4.1]
          refine r_iload_n C 1 (dk oX10_choose 19 rfl) rfl ?_
          refine r_icmp_ne (tgt := 64) C (dk oX10_choose 20 rfl) (by decide) (fun hb32 => ?_) (fun hb32 => ?_)
          · simp (disch := omega) only [nI_leI, nI_ltI, nI_eq, nI_eq0] at hb32
            have hq : ¬ (chN (chQ k_ s_) m_ j_ < m_ ∧ (chQ k_ s_) j_ = true) := fun q => by
              have q2 : (decide (k_.2.1 j_ = s_) && !(k_.2.2.2.2.2 j_)) = true := q.2
              rw [decide_eq_false hb32] at q2; cases q2
            refine r_iinc (lo' := [(3, _), (0, _), (1, _), (2, _)]) C 3 (dk oX10_choose 38 rfl) rfl (by first | exact nI_inc _ | rfl) (by decide) rfl ?_
            refine r_goto (tgt := 7) C (dk oX10_choose 39 rfl) (by decide) ?_
            refine V.sub [1, 2, 3, 0] rfl ?_
            first
              | exact ih (j_ + 1) I1 (by omega) (by omega) (by rw [chN_s, if_neg hq]; exact h43) (by rw [chN_s, chI_s, if_neg hq, if_neg hq]; exact h147) hO hO2
              | (refine ih (j_ + 1) _ (by omega) (by omega) ?_ ?_ (fun k a b => by rw [up2_ne a, up2_ne b]; exact hO k a b) (fun i hi => by rw [up2_off hi, up2_ne (by decide)]; exact hO2 i hi)
                 · rw [chN_s, if_pos hq, up2_at]
                 · rw [chN_s, chI_s, if_pos hq, if_pos hq]
                   intro i hi
                   rw [up2_ne (by decide)]
                   show _ = nI (if i = chN (chQ k_ s_) m_ j_ then j_ else chI (chQ k_ s_) m_ j_ i)
                   by_cases e : i = chN (chQ k_ s_) m_ j_
                   · rw [if_pos e, e, up2_at]
                   · rw [if_neg e, up2_off e]; exact h147 i (by omega))
          · simp (disch := omega) only [nI_leI, nI_ltI, nI_eq, nI_eq0] at hb32
            refine r_aload_n C 0 (dk oX10_choose 21 rfl) rfl ?_
            refine r_getR C (dk oX10_choose 22 rfl) fl_X10_50 rfl (km hn rfl) ?_
            refine r_iload_n C 3 (dk oX10_choose 23 rfl) rfl ?_
            refine r_zald C _ (dk oX10_choose 24 rfl) rfl (km hn rfl) rfl (by omega) (by decide) ?_
            rw [hO 131 (by decide) (by decide), q4.2.2.2.2.2.2.2.2]
            refine r_if_ne (tgt := 64) C (dk oX10_choose 25 rfl) (by decide) (fun hb41 => ?_) (fun hb41 => ?_)
            · rw [b32_n] at hb41
              have hq : ¬ (chN (chQ k_ s_) m_ j_ < m_ ∧ (chQ k_ s_) j_ = true) := fun q => by
                have q2 : (decide (k_.2.1 j_ = s_) && !(k_.2.2.2.2.2 j_)) = true := q.2
                rw [hb41, Bool.not_true, Bool.and_false] at q2; cases q2
              refine r_iinc (lo' := [(3, _), (0, _), (1, _), (2, _)]) C 3 (dk oX10_choose 38 rfl) rfl (by first | exact nI_inc _ | rfl) (by decide) rfl ?_
              refine r_goto (tgt := 7) C (dk oX10_choose 39 rfl) (by decide) ?_
              refine V.sub [1, 2, 3, 0] rfl ?_
              first
                | exact ih (j_ + 1) I1 (by omega) (by omega) (by rw [chN_s, if_neg hq]; exact h43) (by rw [chN_s, chI_s, if_neg hq, if_neg hq]; exact h147) hO hO2
                | (refine ih (j_ + 1) _ (by omega) (by omega) ?_ ?_ (fun k a b => by rw [up2_ne a, up2_ne b]; exact hO k a b) (fun i hi => by rw [up2_off hi, up2_ne (by decide)]; exact hO2 i hi)
                   · rw [chN_s, if_pos hq, up2_at]
                   · rw [chN_s, chI_s, if_pos hq, if_pos hq]
                     intro i hi
                     rw [up2_ne (by decide)]
                     show _ = nI (if i = chN (chQ k_ s_) m_ j_ then j_ else chI (chQ k_ s_) m_ j_ i)
                     by_cases e : i = chN (chQ k_ s_) m_ j_
                     · rw [if_pos e, e, up2_at]
                     · rw [if_neg e, up2_off e]; exact h147 i (by omega))
            · rw [b32_0] at hb41
              have hq : chN (chQ k_ s_) m_ j_ < m_ ∧ (chQ k_ s_) j_ = true := ⟨by omega, by
                show (decide (k_.2.1 j_ = s_) && !(k_.2.2.2.2.2 j_)) = true
                rw [hb41, decide_eq_true hb32]; rfl⟩
              refine r_aload_n C 0 (dk oX10_choose 26 rfl) rfl ?_
              refine r_getR C (dk oX10_choose 27 rfl) fl_X10_102 rfl (km hn rfl) ?_
              refine r_aload_n C 0 (dk oX10_choose 28 rfl) rfl ?_
              refine r_getI C (dk oX10_choose 29 rfl) fl_X10_330 rfl (km hn rfl) ?_
              rw [h43]
              refine r_iload_n C 3 (dk oX10_choose 30 rfl) rfl ?_
              refine r_iast C _ (dk oX10_choose 31 rfl) rfl (km hn rfl) rfl (by omega) (by decide) ?_
              refine r_aload_n C 0 (dk oX10_choose 32 rfl) rfl ?_
              refine r_dup C (dk oX10_choose 33 rfl) rfl ?_
              refine r_getI C (dk oX10_choose 34 rfl) fl_X10_330 rfl (km hn rfl) ?_
              rw [up2_ne (by decide), h43]
              refine r_iconst C (dk oX10_choose 35 rfl) (v := nI 1) (by decide) ?_
              refine r_iadd C (dk oX10_choose 36 rfl) ?_
              rw [nI_add]
              refine r_putI C (dk oX10_choose 37 rfl) fl_X10_330 ft_10_43 rfl (km hn rfl) ?_
              refine r_iinc (lo' := [(3, _), (0, _), (1, _), (2, _)]) C 3 (dk oX10_choose 38 rfl) rfl (by first | exact nI_inc _ | rfl) (by decide) rfl ?_
              refine r_goto (tgt := 7) C (dk oX10_choose 39 rfl) (by decide) ?_
              refine V.sub [1, 2, 3, 0] rfl ?_
              first
                | exact ih (j_ + 1) I1 (by omega) (by omega) (by rw [chN_s, if_neg hq]; exact h43) (by rw [chN_s, chI_s, if_neg hq, if_neg hq]; exact h147) hO hO2
                | (refine ih (j_ + 1) _ (by omega) (by omega) ?_ ?_ (fun k a b => by rw [up2_ne a, up2_ne b]; exact hO k a b) (fun i hi => by rw [up2_off hi, up2_ne (by decide)]; exact hO2 i hi)
                   · rw [chN_s, if_pos hq, up2_at]
                   · rw [chN_s, chI_s, if_pos hq, if_pos hq]
                     intro i hi
                     rw [up2_ne (by decide)]
                     show _ = nI (if i = chN (chQ k_ s_) m_ j_ then j_ else chI (chQ k_ s_) m_ j_ i)
                     by_cases e : i = chN (chQ k_ s_) m_ j_
                     · rw [if_pos e, e, up2_at]
                     · rw [if_neg e, up2_off e]; exact h147 i (by omega))
  refine V.sub [1, 2, 3, 0] rfl ?_
  exact L7 (k_.1 + 1) 0 _ (by omega) (Nat.zero_le _) up2_at (fun i hi => absurd hi (Nat.not_lt_zero _)) (fun k a b => up2_ne a) (fun i hi => up2_off hi)

set_option maxHeartbeats 1000000 in
set_option maxRecDepth 100000 in
theorem c_X10_setOf (hn : 148 ≤ n) (I : MI) (J : MJ) (n_ : Nat) (ch : Nat → Nat) (h43 : I 117 43 = nI n_) (hn16 : n_ ≤ 16) (h147 : ∀ i, i < n_ → I 147 i = nI (ch i) ∧ ch i < 16) (p_ : Nat) (hp : p_ < 65537) : Ci l n ad cA D z 1 yX10_setOf cX10_setOf 4 .int I J [.ref (ad 117), .int (nI p_)] (fun r I' J' => r = nI (seN ch p_ n_) ∧ I' = I ∧ J' = J) := by
  refine Ci.of (by decide) (Nat.le_of_ble_eq_true rfl) ?_
  intro p e s m args below meth c A C hin Z Q hret
  refine r_iconst C (dk oX10_setOf 0 rfl) (v := nI 0) (by decide) ?_
  refine r_istore_n (lo' := [(2, _), (0, _), (1, _)]) C (dk oX10_setOf 1 rfl) rfl (by decide) rfl ?_
  refine r_iconst C (dk oX10_setOf 2 rfl) (v := nI 0) (by decide) ?_
  refine r_istore_n (lo' := [(3, _), (2, _), (0, _), (1, _)]) C (dk oX10_setOf 3 rfl) rfl (by decide) rfl ?_
  have L4 : ∀ (d_ : Nat) (i_ : Nat), n_ - i_ < d_ → i_ ≤ n_ → V p l e (rmL 1) s m args below meth c Q D A 4 0 0 n ad (mE cA ad I J) 4 [(0, .ref (ad 117)), (1, .int (nI p_)), (2, .int (nI (seN ch p_ i_))), (3, .int (nI i_))] [] := by
    intro d_
    induction d_ with
    | zero => intros; exact absurd (by assumption) (Nat.not_lt_zero _)
    | succ d_ ih => 
      intro i_ hd_ hi
      refine r_iload_n C 3 (dk oX10_setOf 4 rfl) rfl ?_
      refine r_aload_n C 0 (dk oX10_setOf 5 rfl) rfl ?_
      refine r_getI C (dk oX10_setOf 6 rfl) fl_X10_330 rfl (km hn rfl) ?_
      rw [h43]
      refine r_icmp_ge (tgt := 41) C (dk oX10_setOf 7 rfl) (by decide) (fun hb9 => ?_) (fun hb9 => ?_)
      · simp (disch := omega) only [nI_leI, nI_ltI, nI_eq, nI_eq0] at hb9
        refine r_iload_n C 2 (dk oX10_setOf 25 rfl) rfl ?_
        refine hret (dk oX10_setOf 26 rfl) rfl ?_
        exact ⟨by rw [show i_ = n_ by omega], rfl, rfl⟩
      · simp (disch := omega) only [nI_leI, nI_ltI, nI_eq, nI_eq0] at hb9
        refine r_iload_n C 2 (dk oX10_setOf 8 rfl) rfl ?_
        refine r_iload_n C 1 (dk oX10_setOf 9 rfl) rfl ?_
        refine r_iload_n C 3 (dk oX10_setOf 10 rfl) rfl ?_
        refine r_isi C Z (dk oX10_setOf 11 rfl) cl_X10_231 st_X10_has (c_X10_has I J (p_) (i_) (by omega) (by omega)) rfl rfl (Nat.le_of_ble_eq_true rfl) ⟨Nat.le_of_ble_eq_true rfl, Nat.le_of_ble_eq_true rfl⟩ ⟨Nat.zero_le _, Nat.zero_le _⟩ (fun r15 I15 J15 h15 => ?_)
        obtain ⟨h15, e1_, e2_⟩ := h15
        have e1_ := e1_.symm
        have e2_ := e2_.symm
        subst e1_
        subst e2_
        subst h15
        refine r_if_eq (tgt := 32) C (dk oX10_setOf 12 rfl) (by decide) (fun hb18 => ?_) (fun hb18 => ?_)
        · rw [b32_0] at hb18
          refine r_iconst C (dk oX10_setOf 20 rfl) (v := nI 0) (by decide) ?_
          refine r_ior C (dk oX10_setOf 21 rfl) ?_
          first
            | rw [fa_or]
            | skip
          refine r_istore_n (lo' := [(2, _), (0, _), (1, _), (3, _)]) C (dk oX10_setOf 22 rfl) rfl (by decide) rfl ?_
          refine r_iinc (lo' := [(3, _), (2, _), (0, _), (1, _)]) C 3 (dk oX10_setOf 23 rfl) rfl (by first | exact nI_inc _ | rfl) (by decide) rfl ?_
          refine r_goto (tgt := 4) C (dk oX10_setOf 24 rfl) (by decide) ?_
          refine V.sub [2, 3, 1, 0] rfl ?_
          have hih := ih (i_ + 1) (by omega) (by omega)
          rw [show seN ch p_ (i_ + 1) = if p_.testBit i_ = true then seN ch p_ i_ ||| 2 ^ ch i_ else seN ch p_ i_ from rfl, hb18] at hih
          first
            | (rw [if_pos rfl] at hih; exact hih)
            | (rw [Nat.or_zero]; exact hih)
        · rw [b32_n] at hb18
          refine r_iconst C (dk oX10_setOf 13 rfl) (v := nI 1) (by decide) ?_
          refine r_aload_n C 0 (dk oX10_setOf 14 rfl) rfl ?_
          refine r_getR C (dk oX10_setOf 15 rfl) fl_X10_102 rfl (km hn rfl) ?_
          refine r_iload_n C 3 (dk oX10_setOf 16 rfl) rfl ?_
          refine r_iald C _ (dk oX10_setOf 17 rfl) rfl (km hn rfl) rfl (by omega) (by decide) ?_
          rw [(h147 i_ (by omega)).1]
          have hc16 := (h147 i_ (by omega)).2
          refine r_ishl C (dk oX10_setOf 18 rfl) ?_
          rw [shl1 (by omega)]
          refine r_goto (tgt := 33) C (dk oX10_setOf 19 rfl) (by decide) ?_
          refine r_ior C (dk oX10_setOf 21 rfl) ?_
          first
            | rw [fa_or]
            | skip
          refine r_istore_n (lo' := [(2, _), (0, _), (1, _), (3, _)]) C (dk oX10_setOf 22 rfl) rfl (by decide) rfl ?_
          refine r_iinc (lo' := [(3, _), (2, _), (0, _), (1, _)]) C 3 (dk oX10_setOf 23 rfl) rfl (by first | exact nI_inc _ | rfl) (by decide) rfl ?_
          refine r_goto (tgt := 4) C (dk oX10_setOf 24 rfl) (by decide) ?_
          refine V.sub [2, 3, 1, 0] rfl ?_
          have hih := ih (i_ + 1) (by omega) (by omega)
          rw [show seN ch p_ (i_ + 1) = if p_.testBit i_ = true then seN ch p_ i_ ||| 2 ^ ch i_ else seN ch p_ i_ from rfl, hb18] at hih
          first
            | (rw [if_pos rfl] at hih; exact hih)
            | (rw [Nat.or_zero]; exact hih)
  refine V.sub [2, 3, 1, 0] rfl ?_
  exact L4 (n_ + 1) 0 (by omega) (Nat.zero_le _)

set_option maxHeartbeats 1000000 in
set_option maxRecDepth 100000 in
theorem c_X10_costOf (hn : 148 ≤ n) (I : MI) (J : MJ) (k_ : Prf) (hK : MK0 I k_) (S_ : Nat) (hS : S_ < 65536) : Ci l n ad cA D z 1 yX10_costOf cX10_costOf 4 .int I J [.ref (ad 117), .int (nI S_)] (fun r I' J' => r = nI (csN k_.2.2.2.2.1 S_ k_.1) ∧ I' = I ∧ J' = J) := by
  refine Ci.of (by decide) (Nat.le_of_ble_eq_true rfl) ?_
  intro p e s m args below meth c A C hin Z Q hret
  have hnk := hK.1
  refine r_iconst C (dk oX10_costOf 0 rfl) (v := nI 0) (by decide) ?_
  refine r_istore_n (lo' := [(2, _), (0, _), (1, _)]) C (dk oX10_costOf 1 rfl) rfl (by decide) rfl ?_
  refine r_iconst C (dk oX10_costOf 2 rfl) (v := nI 0) (by decide) ?_
  refine r_istore_n (lo' := [(3, _), (2, _), (0, _), (1, _)]) C (dk oX10_costOf 3 rfl) rfl (by decide) rfl ?_
  have L4 : ∀ (d_ : Nat) (j_ : Nat), k_.1 - j_ < d_ → j_ ≤ k_.1 → V p l e (rmL 1) s m args below meth c Q D A 4 0 0 n ad (mE cA ad I J) 4 [(0, .ref (ad 117)), (1, .int (nI S_)), (2, .int (nI (csN k_.2.2.2.2.1 S_ j_))), (3, .int (nI j_))] [] := by
    intro d_
    induction d_ with
    | zero => intros; exact absurd (by assumption) (Nat.not_lt_zero _)
    | succ d_ ih => 
      intro j_ hd_ hj
      refine r_iload_n C 3 (dk oX10_costOf 4 rfl) rfl ?_
      refine r_aload_n C 0 (dk oX10_costOf 5 rfl) rfl ?_
      refine r_getR C (dk oX10_costOf 6 rfl) fl_X10_35 rfl (km hn rfl) ?_
      refine r_iconst C (dk oX10_costOf 7 rfl) (v := nI 0) (by decide) ?_
      refine r_iald C 0 (dk oX10_costOf 8 rfl) rfl (km hn rfl) rfl (by decide) (by decide) ?_
      rw [hK.2.1]
      refine r_icmp_ge (tgt := 41) C (dk oX10_costOf 9 rfl) (by decide) (fun hb11 => ?_) (fun hb11 => ?_)
      · simp (disch := omega) only [nI_leI, nI_ltI, nI_eq, nI_eq0] at hb11
        refine r_iload_n C 2 (dk oX10_costOf 25 rfl) rfl ?_
        refine hret (dk oX10_costOf 26 rfl) rfl ?_
        exact ⟨by rw [show j_ = k_.1 by omega], rfl, rfl⟩
      · simp (disch := omega) only [nI_leI, nI_ltI, nI_eq, nI_eq0] at hb11
        refine r_iload_n C 2 (dk oX10_costOf 10 rfl) rfl ?_
        refine r_iload_n C 1 (dk oX10_costOf 11 rfl) rfl ?_
        refine r_iload_n C 3 (dk oX10_costOf 12 rfl) rfl ?_
        refine r_isi C Z (dk oX10_costOf 13 rfl) cl_X10_231 st_X10_has (c_X10_has I J (S_) (j_) (by omega) (by omega)) rfl rfl (Nat.le_of_ble_eq_true rfl) ⟨Nat.le_of_ble_eq_true rfl, Nat.le_of_ble_eq_true rfl⟩ ⟨Nat.zero_le _, Nat.zero_le _⟩ (fun r17 I17 J17 h17 => ?_)
        obtain ⟨h17, e1_, e2_⟩ := h17
        have e1_ := e1_.symm
        have e2_ := e2_.symm
        subst e1_
        subst e2_
        subst h17
        refine r_if_eq (tgt := 32) C (dk oX10_costOf 14 rfl) (by decide) (fun hb20 => ?_) (fun hb20 => ?_)
        · rw [b32_0] at hb20
          refine r_iconst C (dk oX10_costOf 20 rfl) (v := nI 0) (by decide) ?_
          refine r_iadd C (dk oX10_costOf 21 rfl) ?_
          rw [nI_add]
          refine r_istore_n (lo' := [(2, _), (0, _), (1, _), (3, _)]) C (dk oX10_costOf 22 rfl) rfl (by decide) rfl ?_
          refine r_iinc (lo' := [(3, _), (2, _), (0, _), (1, _)]) C 3 (dk oX10_costOf 23 rfl) rfl (by first | exact nI_inc _ | rfl) (by decide) rfl ?_
          refine r_goto (tgt := 4) C (dk oX10_costOf 24 rfl) (by decide) ?_
          refine V.sub [2, 3, 1, 0] rfl ?_
          have hih := ih (j_ + 1) (by omega) (by omega)
          rw [show csN k_.2.2.2.2.1 S_ (j_ + 1) = if S_.testBit j_ = true then csN k_.2.2.2.2.1 S_ j_ + k_.2.2.2.2.1 j_ else csN k_.2.2.2.2.1 S_ j_ from rfl, hb20] at hih
          first
            | (rw [if_pos rfl] at hih; exact hih)
            | (rw [Nat.add_zero]; exact hih)
        · rw [b32_n] at hb20
          refine r_aload_n C 0 (dk oX10_costOf 15 rfl) rfl ?_
          refine r_getR C (dk oX10_costOf 16 rfl) fl_X10_47 rfl (km hn rfl) ?_
          refine r_iload_n C 3 (dk oX10_costOf 17 rfl) rfl ?_
          refine r_iald C _ (dk oX10_costOf 18 rfl) rfl (km hn rfl) rfl (by omega) (by decide) ?_
          rw [(hK.2.2 j_ (by omega)).2.2.2.2.2.2.1]
          refine r_goto (tgt := 33) C (dk oX10_costOf 19 rfl) (by decide) ?_
          refine r_iadd C (dk oX10_costOf 21 rfl) ?_
          rw [nI_add]
          refine r_istore_n (lo' := [(2, _), (0, _), (1, _), (3, _)]) C (dk oX10_costOf 22 rfl) rfl (by decide) rfl ?_
          refine r_iinc (lo' := [(3, _), (2, _), (0, _), (1, _)]) C 3 (dk oX10_costOf 23 rfl) rfl (by first | exact nI_inc _ | rfl) (by decide) rfl ?_
          refine r_goto (tgt := 4) C (dk oX10_costOf 24 rfl) (by decide) ?_
          refine V.sub [2, 3, 1, 0] rfl ?_
          have hih := ih (j_ + 1) (by omega) (by omega)
          rw [show csN k_.2.2.2.2.1 S_ (j_ + 1) = if S_.testBit j_ = true then csN k_.2.2.2.2.1 S_ j_ + k_.2.2.2.2.1 j_ else csN k_.2.2.2.2.1 S_ j_ from rfl, hb20] at hih
          first
            | (rw [if_pos rfl] at hih; exact hih)
            | (rw [Nat.add_zero]; exact hih)
  refine V.sub [2, 3, 1, 0] rfl ?_
  exact L4 (k_.1 + 1) 0 (by omega) (Nat.zero_le _)

set_option maxHeartbeats 1000000 in
set_option maxRecDepth 100000 in
theorem c_X10_findWays (hn : 148 ≤ n) (I : MI) (J : MJ) (Φ : Nat → FS) (hM : FcM I 134 Φ) (hok : fsA Φ) (k_ : Prf) (hK : MK0 I k_) (m_ : Nat) (hm : m_ < 65536) : Cv l n ad cA D z 4 yX10_findWays cX10_findWays 7 I J [.ref (ad 117), .int (nI m_)] (fun I' J' => (∀ s, s < 4096 → I' 145 s = nI (wyM Φ (fun f => shQ k_ Φ (brQ k_ ||| m_) f) s)) ∧ (∀ k, k ≠ 145 → k ≠ 146 → I' k = I k) ∧ J' = J) := by
  refine Cv.of (by decide) (Nat.le_of_ble_eq_true rfl) ?_
  intro p e s m args below meth c A C hin Z Q hret
  have hop := @opN_lt Φ
  refine r_aload_n C 0 (dk oX10_findWays 0 rfl) rfl ?_
  refine r_ivi C Z (dk oX10_findWays 1 rfl) cl_X10_278 ci_X10_openFacts rfl (km hn rfl) (c_X10_openFacts hn I J Φ hM hok) rfl rfl (Nat.le_of_ble_eq_true rfl) ⟨Nat.le_of_ble_eq_true rfl, Nat.le_of_ble_eq_true rfl⟩ ⟨Nat.zero_le _, Nat.zero_le _⟩ (fun r1 I1 J1 h1 => ?_)
  obtain ⟨h1, e1_, e2_⟩ := h1
  have e1_ := e1_.symm
  have e2_ := e2_.symm
  subst e1_
  subst e2_
  subst h1
  refine r_istore_n (lo' := [(2, _), (0, _), (1, _)]) C (dk oX10_findWays 2 rfl) rfl (by decide) rfl ?_
  refine r_iconst C (dk oX10_findWays 3 rfl) (v := nI 0) (by decide) ?_
  refine r_istore_n (lo' := [(3, _), (2, _), (0, _), (1, _)]) C (dk oX10_findWays 4 rfl) rfl (by decide) rfl ?_
  have L7 : ∀ (d_ : Nat) (g_ : Nat) (I1 : MI), 12 - g_ < d_ → g_ ≤ 12 → (∀ g, g < g_ → I1 146 g = nI (if (opN Φ).testBit g = true then shQ k_ Φ (brQ k_ ||| m_) g else 0)) → (∀ k, k ≠ 146 → I1 k = I k) → V p l e (rmL 4) s m args below meth c Q D A 7 0 0 n ad (mE cA ad I1 J) 7 [(0, .ref (ad 117)), (1, .int (nI m_)), (2, .int (nI (opN Φ))), (3, .int (nI g_))] [] := by
    intro d_
    induction d_ with
    | zero => intros; exact absurd (by assumption) (Nat.not_lt_zero _)
    | succ d_ ih => 
      intro g_ I1 hd_ hg hL hO1
      refine r_iload_n C 3 (dk oX10_findWays 5 rfl) rfl ?_
      refine r_bipush C (dk oX10_findWays 6 rfl) (v := nI 12) (by decide) ?_
      refine r_icmp_ge (tgt := 43) C (dk oX10_findWays 7 rfl) (by decide) (fun hb10 => ?_) (fun hb10 => ?_)
      · simp (disch := omega) only [nI_leI, nI_ltI, nI_eq, nI_eq0] at hb10
        refine r_iconst C (dk oX10_findWays 24 rfl) (v := nI 0) (by decide) ?_
        refine r_istore_n (lo' := [(3, _), (0, _), (1, _), (2, _)]) C (dk oX10_findWays 25 rfl) rfl (by decide) rfl ?_
        have L45 : ∀ (d_ : Nat) (s_ : Nat) (I2 : MI), 4096 - s_ < d_ → s_ ≤ 4096 → (∀ s, s < s_ → I2 145 s = nI (wyM Φ (fun f => shQ k_ Φ (brQ k_ ||| m_) f) s)) → (∀ g, g < 12 → I2 146 g = nI (if (opN Φ).testBit g = true then shQ k_ Φ (brQ k_ ||| m_) g else 0)) → (∀ k, k ≠ 145 → k ≠ 146 → I2 k = I k) → V p l e (rmL 4) s m args below meth c Q D A 7 0 0 n ad (mE cA ad I2 J) 45 [(0, .ref (ad 117)), (1, .int (nI m_)), (2, .int (nI (opN Φ))), (3, .int (nI s_))] [] := by
          intro d_
          induction d_ with
          | zero => intros; exact absurd (by assumption) (Nat.not_lt_zero _)
          | succ d_ ih => 
            intro s_ I2 hd2 hs hW hL2 hO2
            refine r_iload_n C 3 (dk oX10_findWays 26 rfl) rfl ?_
            refine r_sipush C (dk oX10_findWays 27 rfl) (v := nI 4096) (by decide) ?_
            refine r_icmp_ge (tgt := 156) C (dk oX10_findWays 28 rfl) (by decide) (fun hb49 => ?_) (fun hb49 => ?_)
            · simp (disch := omega) only [nI_leI, nI_ltI, nI_eq, nI_eq0] at hb49
              refine hret (dk oX10_findWays 83 rfl) ?_
              exact ⟨fun s hs2 => hW s (by omega), hO2, rfl⟩
            · simp (disch := omega) only [nI_leI, nI_ltI, nI_eq, nI_eq0] at hb49
              have ihO := ih
              refine r_iload_n C 3 (dk oX10_findWays 29 rfl) rfl ?_
              refine r_iload_n C 2 (dk oX10_findWays 30 rfl) rfl ?_
              refine r_iconst C (dk oX10_findWays 31 rfl) (v := -1) (by decide) ?_
              refine r_ixor C (dk oX10_findWays 32 rfl) ?_
              refine r_iand C (dk oX10_findWays 33 rfl) ?_
              rw [nI_not (by omega)]
              have han : anN s_ (opN Φ) < 4096 := anN_lt (k := 12) (by omega)
              refine r_if_ne (tgt := 66) C (dk oX10_findWays 34 rfl) (by decide) (fun hb57 => ?_) (fun hb57 => ?_)
              · simp (disch := omega) only [nI_leI, nI_ltI, nI_eq, nI_eq0] at hb57
                have hsub : sub s_ (opN Φ) = false := by rw [sub_anN]; exact decide_eq_false hb57
                refine r_lconst C (dk oX10_findWays 37 rfl) (v := 0) (by decide) ?_
                rw [show (0 : Int64) = lN (if sub s_ (opN Φ) = true then wyN (opN Φ) (fun f => shQ k_ Φ (brQ k_ ||| m_) f) s_ 0 else 0) from by rw [if_neg (by rw [hsub]; decide)]; rfl]
                refine r_lstore (lo' := [(4, _), (0, _), (1, _), (2, _), (3, _)]) C (dk oX10_findWays 38 rfl) (by decide) rfl ?_
                refine r_iconst C (dk oX10_findWays 39 rfl) (v := nI 0) (by decide) ?_
                refine r_istore (lo' := [(6, _), (4, _), (0, _), (1, _), (2, _), (3, _)]) C (dk oX10_findWays 40 rfl) (by decide) rfl ?_
                have L72 : ∀ (d_ : Nat) (f_ : Nat), 12 - f_ < d_ → f_ ≤ 12 → V p l e (rmL 4) s m args below meth c Q D A 7 0 0 n ad (mE cA ad I2 J) 72 [(0, .ref (ad 117)), (1, .int (nI m_)), (2, .int (nI (opN Φ))), (3, .int (nI s_)), (4, .long (lN (if sub s_ (opN Φ) = true then wyN (opN Φ) (fun f => shQ k_ Φ (brQ k_ ||| m_) f) s_ f_ else 0))), (6, .int (nI f_))] [] := by
                  intro d_
                  induction d_ with
                  | zero => intros; exact absurd (by assumption) (Nat.not_lt_zero _)
                  | succ d_ ih => 
                    intro f_ hd3 hf3
                    have hwl : (if sub s_ (opN Φ) = true then wyN (opN Φ) (fun f => shQ k_ Φ (brQ k_ ||| m_) f) s_ f_ else 0) ≤ 1000000 := by
                      by_cases e : sub s_ (opN Φ) = true
                      · rw [if_pos e]; exact wy_le (fun f => shF_le) f_
                      · rw [if_neg e]; exact Nat.zero_le _
                    refine r_iload C 5 (dk oX10_findWays 41 rfl) rfl ?_
                    refine r_bipush C (dk oX10_findWays 42 rfl) (v := nI 12) (by decide) ?_
                    refine r_icmp_ge (tgt := 141) C (dk oX10_findWays 43 rfl) (by decide) (fun hb76 => ?_) (fun hb76 => ?_)
                    · simp (disch := omega) only [nI_leI, nI_ltI, nI_eq, nI_eq0] at hb76
                      have hfin : (if sub s_ (opN Φ) = true then wyN (opN Φ) (fun f => shQ k_ Φ (brQ k_ ||| m_) f) s_ f_ else 0) = wyM Φ (fun f => shQ k_ Φ (brQ k_ ||| m_) f) s_ := by rw [show f_ = 12 by omega]; rfl
                      refine r_aload_n C 0 (dk oX10_findWays 75 rfl) rfl ?_
                      refine r_getR C (dk oX10_findWays 76 rfl) fl_X10_96 rfl (km hn rfl) ?_
                      refine r_iload_n C 3 (dk oX10_findWays 77 rfl) rfl ?_
                      refine r_lload C 4 (dk oX10_findWays 78 rfl) rfl ?_
                      refine r_l2i C (dk oX10_findWays 79 rfl) ?_
                      rw [lN_i]
                      refine r_iast C _ (dk oX10_findWays 80 rfl) rfl (km hn rfl) rfl (by omega) (by decide) ?_
                      refine r_iinc (lo' := [(3, _), (0, _), (1, _), (2, _), (4, _), (6, _)]) C 3 (dk oX10_findWays 81 rfl) rfl (by first | exact nI_inc _ | rfl) (by decide) rfl ?_
                      refine r_goto (tgt := 45) C (dk oX10_findWays 82 rfl) (by decide) ?_
                      refine V.sub [1, 2, 3, 0] rfl ?_
                      refine ihO (s_ + 1) _ (by omega) (by omega) (fun s hs2 => ?_) (fun g hg => by rw [up2_ne (by decide)]; exact hL2 g hg) (fun k a b => by rw [up2_ne a]; exact hO2 k a b)
                      by_cases e : s = s_
                      · subst e
                        rw [up2_at]
                        exact congrArg nI hfin
                      · rw [up2_off e]; exact hW s (by omega)
                    · simp (disch := omega) only [nI_leI, nI_ltI, nI_eq, nI_eq0] at hb76
                      refine r_lload C 4 (dk oX10_findWays 44 rfl) rfl ?_
                      refine r_lconst C (dk oX10_findWays 45 rfl) (v := 0) (by decide) ?_
                      refine r_lcmp C (dk oX10_findWays 46 rfl) ?_
                      refine r_if_le (tgt := 141) C (dk oX10_findWays 47 rfl) (by decide) (fun hb83 => ?_) (fun hb83 => ?_)
                      · rw [lgw (by omega)] at hb83
                        have hfin : (if sub s_ (opN Φ) = true then wyN (opN Φ) (fun f => shQ k_ Φ (brQ k_ ||| m_) f) s_ f_ else 0) = wyM Φ (fun f => shQ k_ Φ (brQ k_ ||| m_) f) s_ := by
                          rw [hb83]
                          unfold wyM
                          cases e : sub s_ (opN Φ)
                          · rw [if_neg (by decide)]
                          · rw [e, if_pos rfl] at hb83
                            rw [if_pos rfl]
                            have h := wy_0 hb83 (12 - f_)
                            rw [show f_ + (12 - f_) = 12 by omega] at h
                            exact h.symm
                        refine r_aload_n C 0 (dk oX10_findWays 75 rfl) rfl ?_
                        refine r_getR C (dk oX10_findWays 76 rfl) fl_X10_96 rfl (km hn rfl) ?_
                        refine r_iload_n C 3 (dk oX10_findWays 77 rfl) rfl ?_
                        refine r_lload C 4 (dk oX10_findWays 78 rfl) rfl ?_
                        refine r_l2i C (dk oX10_findWays 79 rfl) ?_
                        rw [lN_i]
                        refine r_iast C _ (dk oX10_findWays 80 rfl) rfl (km hn rfl) rfl (by omega) (by decide) ?_
                        refine r_iinc (lo' := [(3, _), (0, _), (1, _), (2, _), (4, _), (6, _)]) C 3 (dk oX10_findWays 81 rfl) rfl (by first | exact nI_inc _ | rfl) (by decide) rfl ?_
                        refine r_goto (tgt := 45) C (dk oX10_findWays 82 rfl) (by decide) ?_
                        refine V.sub [1, 2, 3, 0] rfl ?_
                        refine ihO (s_ + 1) _ (by omega) (by omega) (fun s hs2 => ?_) (fun g hg => by rw [up2_ne (by decide)]; exact hL2 g hg) (fun k a b => by rw [up2_ne a]; exact hO2 k a b)
                        by_cases e : s = s_
                        · subst e
                          rw [up2_at]
                          exact congrArg nI hfin
                        · rw [up2_off e]; exact hW s (by omega)
                      · rw [lgw (by omega)] at hb83
                        have hsub2 : sub s_ (opN Φ) = true := by
                          cases e : sub s_ (opN Φ)
                          · rw [e] at hb83; exact absurd (if_neg (by decide)) hb83
                          · rfl
                        refine r_iload_n C 2 (dk oX10_findWays 48 rfl) rfl ?_
                        refine r_iload C 5 (dk oX10_findWays 49 rfl) rfl ?_
                        refine r_isi C Z (dk oX10_findWays 50 rfl) cl_X10_231 st_X10_has (c_X10_has I2 J (opN Φ) (f_) (by omega) (by omega)) rfl rfl (Nat.le_of_ble_eq_true rfl) ⟨Nat.le_of_ble_eq_true rfl, Nat.le_of_ble_eq_true rfl⟩ ⟨Nat.zero_le _, Nat.zero_le _⟩ (fun r89 I89 J89 h89 => ?_)
                        obtain ⟨h89, e1_, e2_⟩ := h89
                        have e1_ := e1_.symm
                        have e2_ := e2_.symm
                        subst e1_
                        subst e2_
                        subst h89
                        refine r_if_eq (tgt := 135) C (dk oX10_findWays 51 rfl) (by decide) (fun hb92 => ?_) (fun hb92 => ?_)
                        · rw [b32_0] at hb92
                          refine r_iinc (lo' := [(6, _), (0, _), (1, _), (2, _), (3, _), (4, _)]) C 5 (dk oX10_findWays 73 rfl) rfl (by first | exact nI_inc _ | rfl) (by decide) rfl ?_
                          refine r_goto (tgt := 72) C (dk oX10_findWays 74 rfl) (by decide) ?_
                          refine V.sub [1, 2, 3, 4, 5, 0] rfl ?_
                          have hih := ih (f_ + 1) (by omega) (by omega)
                          rw [if_pos hsub2] at hih
                          rw [show wyN (opN Φ) (fun f => shQ k_ Φ (brQ k_ ||| m_) f) s_ (f_ + 1) = if (opN Φ).testBit f_ = true then wyN (opN Φ) (fun f => shQ k_ Φ (brQ k_ ||| m_) f) s_ f_ * (if s_.testBit f_ = true then shQ k_ Φ (brQ k_ ||| m_) f_ else 1000 - shQ k_ Φ (brQ k_ ||| m_) f_) / 1000 else wyN (opN Φ) (fun f => shQ k_ Φ (brQ k_ ||| m_) f) s_ f_ from rfl, hb92] at hih
                          rw [if_pos hsub2]
                          exact hih
                        · rw [b32_n] at hb92
                          have hsh : shQ k_ Φ (brQ k_ ||| m_) f_ ≤ 1000 := shF_le
                          refine r_lload C 4 (dk oX10_findWays 52 rfl) rfl ?_
                          refine r_iload_n C 3 (dk oX10_findWays 53 rfl) rfl ?_
                          refine r_iload C 5 (dk oX10_findWays 54 rfl) rfl ?_
                          refine r_isi C Z (dk oX10_findWays 55 rfl) cl_X10_231 st_X10_has (c_X10_has I2 J (s_) (f_) (by omega) (by omega)) rfl rfl (Nat.le_of_ble_eq_true rfl) ⟨Nat.le_of_ble_eq_true rfl, Nat.le_of_ble_eq_true rfl⟩ ⟨Nat.zero_le _, Nat.zero_le _⟩ (fun r100 I100 J100 h100 => ?_)
                          obtain ⟨h100, e1_, e2_⟩ := h100
                          have e1_ := e1_.symm
                          have e2_ := e2_.symm
                          subst e1_
                          subst e2_
                          subst h100
                          refine r_if_eq (tgt := 116) C (dk oX10_findWays 56 rfl) (by decide) (fun hb103 => ?_) (fun hb103 => ?_)
                          · rw [b32_0] at hb103
                            refine r_sipush C (dk oX10_findWays 62 rfl) (v := nI 1000) (by decide) ?_
                            refine r_aload_n C 0 (dk oX10_findWays 63 rfl) rfl ?_
                            refine r_getR C (dk oX10_findWays 64 rfl) fl_X10_99 rfl (km hn rfl) ?_
                            refine r_iload C 5 (dk oX10_findWays 65 rfl) rfl ?_
                            refine r_iald C _ (dk oX10_findWays 66 rfl) rfl (km hn rfl) rfl (by omega) (by decide) ?_
                            rw [hL2 f_ (by omega), if_pos hb92]
                            refine r_isub C (dk oX10_findWays 67 rfl) ?_
                            rw [pk_sub hsh]
                            refine r_topI (show nI (1000 - shQ k_ Φ (brQ k_ ||| m_) f_) = nI (if s_.testBit f_ = true then shQ k_ Φ (brQ k_ ||| m_) f_ else 1000 - shQ k_ Φ (brQ k_ ||| m_) f_) from by rw [if_neg (by rw [hb103]; decide)]) ?_
                            refine r_i2l C (dk oX10_findWays 68 rfl) ?_
                            rw [nI_l (by split <;> omega)]
                            refine r_lmul C (dk oX10_findWays 69 rfl) ?_
                            rw [lN_mul]
                            refine r_ldc2 C (dk oX10_findWays 70 rfl) kn_X10_305 ?_
                            refine r_ldiv C (dk oX10_findWays 71 rfl) (by decide) ?_
                            rw [show (1000 : Int64) = lN 1000 from rfl, pk_lDiv (by
                              have h1 : (if s_.testBit f_ = true then shQ k_ Φ (brQ k_ ||| m_) f_ else 1000 - shQ k_ Φ (brQ k_ ||| m_) f_) ≤ 1000 := by split <;> omega
                              have h2 : (if sub s_ (opN Φ) = true then wyN (opN Φ) (fun f => shQ k_ Φ (brQ k_ ||| m_) f) s_ f_ else 0) * (if s_.testBit f_ = true then shQ k_ Φ (brQ k_ ||| m_) f_ else 1000 - shQ k_ Φ (brQ k_ ||| m_) f_) ≤ 1000000 * 1000 := Nat.mul_le_mul hwl h1
                              omega) (by decide) (by decide)]
                            refine r_lstore (lo' := [(4, _), (0, _), (1, _), (2, _), (3, _), (6, _)]) C (dk oX10_findWays 72 rfl) (by decide) rfl ?_
                            refine r_iinc (lo' := [(6, _), (4, _), (0, _), (1, _), (2, _), (3, _)]) C 5 (dk oX10_findWays 73 rfl) rfl (by first | exact nI_inc _ | rfl) (by decide) rfl ?_
                            refine r_goto (tgt := 72) C (dk oX10_findWays 74 rfl) (by decide) ?_
                            refine V.sub [2, 3, 4, 5, 1, 0] rfl ?_
                            have hih := ih (f_ + 1) (by omega) (by omega)
                            rw [if_pos hsub2] at hih
                            rw [show wyN (opN Φ) (fun f => shQ k_ Φ (brQ k_ ||| m_) f) s_ (f_ + 1) = if (opN Φ).testBit f_ = true then wyN (opN Φ) (fun f => shQ k_ Φ (brQ k_ ||| m_) f) s_ f_ * (if s_.testBit f_ = true then shQ k_ Φ (brQ k_ ||| m_) f_ else 1000 - shQ k_ Φ (brQ k_ ||| m_) f_) / 1000 else wyN (opN Φ) (fun f => shQ k_ Φ (brQ k_ ||| m_) f) s_ f_ from rfl, hb92] at hih
                            rw [if_pos hsub2]
                            exact hih
                          · rw [b32_n] at hb103
                            refine r_aload_n C 0 (dk oX10_findWays 57 rfl) rfl ?_
                            refine r_getR C (dk oX10_findWays 58 rfl) fl_X10_99 rfl (km hn rfl) ?_
                            refine r_iload C 5 (dk oX10_findWays 59 rfl) rfl ?_
                            refine r_iald C _ (dk oX10_findWays 60 rfl) rfl (km hn rfl) rfl (by omega) (by decide) ?_
                            rw [hL2 f_ (by omega), if_pos hb92]
                            refine r_topI (show nI (shQ k_ Φ (brQ k_ ||| m_) f_) = nI (if s_.testBit f_ = true then shQ k_ Φ (brQ k_ ||| m_) f_ else 1000 - shQ k_ Φ (brQ k_ ||| m_) f_) from by rw [if_pos hb103]) ?_
                            refine r_goto (tgt := 127) C (dk oX10_findWays 61 rfl) (by decide) ?_
                            refine r_i2l C (dk oX10_findWays 68 rfl) ?_
                            rw [nI_l (by split <;> omega)]
                            refine r_lmul C (dk oX10_findWays 69 rfl) ?_
                            rw [lN_mul]
                            refine r_ldc2 C (dk oX10_findWays 70 rfl) kn_X10_305 ?_
                            refine r_ldiv C (dk oX10_findWays 71 rfl) (by decide) ?_
                            rw [show (1000 : Int64) = lN 1000 from rfl, pk_lDiv (by
                              have h1 : (if s_.testBit f_ = true then shQ k_ Φ (brQ k_ ||| m_) f_ else 1000 - shQ k_ Φ (brQ k_ ||| m_) f_) ≤ 1000 := by split <;> omega
                              have h2 : (if sub s_ (opN Φ) = true then wyN (opN Φ) (fun f => shQ k_ Φ (brQ k_ ||| m_) f) s_ f_ else 0) * (if s_.testBit f_ = true then shQ k_ Φ (brQ k_ ||| m_) f_ else 1000 - shQ k_ Φ (brQ k_ ||| m_) f_) ≤ 1000000 * 1000 := Nat.mul_le_mul hwl h1
                              omega) (by decide) (by decide)]
                            refine r_lstore (lo' := [(4, _), (0, _), (1, _), (2, _), (3, _), (6, _)]) C (dk oX10_findWays 72 rfl) (by decide) rfl ?_
                            refine r_iinc (lo' := [(6, _), (4, _), (0, _), (1, _), (2, _), (3, _)]) C 5 (dk oX10_findWays 73 rfl) rfl (by first | exact nI_inc _ | rfl) (by decide) rfl ?_
                            refine r_goto (tgt := 72) C (dk oX10_findWays 74 rfl) (by decide) ?_
                            refine V.sub [2, 3, 4, 5, 1, 0] rfl ?_
                            have hih := ih (f_ + 1) (by omega) (by omega)
                            rw [if_pos hsub2] at hih
                            rw [show wyN (opN Φ) (fun f => shQ k_ Φ (brQ k_ ||| m_) f) s_ (f_ + 1) = if (opN Φ).testBit f_ = true then wyN (opN Φ) (fun f => shQ k_ Φ (brQ k_ ||| m_) f) s_ f_ * (if s_.testBit f_ = true then shQ k_ Φ (brQ k_ ||| m_) f_ else 1000 - shQ k_ Φ (brQ k_ ||| m_) f_) / 1000 else wyN (opN Φ) (fun f => shQ k_ Φ (brQ k_ ||| m_) f) s_ f_ from rfl, hb92] at hih
                            rw [if_pos hsub2]
                            exact hih
                refine V.sub [2, 3, 4, 5, 1, 0] rfl ?_
                exact L72 13 0 (by omega) (Nat.zero_le _)
              · simp (disch := omega) only [nI_leI, nI_ltI, nI_eq, nI_eq0] at hb57
                have hsub : sub s_ (opN Φ) = true := by rw [sub_anN]; exact decide_eq_true hb57
                refine r_ldc2 C (dk oX10_findWays 35 rfl) kn_X10_316 ?_
                rw [show (1000000 : Int64) = lN (if sub s_ (opN Φ) = true then wyN (opN Φ) (fun f => shQ k_ Φ (brQ k_ ||| m_) f) s_ 0 else 0) from by rw [if_pos hsub]; rfl]
                refine r_goto (tgt := 67) C (dk oX10_findWays 36 rfl) (by decide) ?_
                refine r_lstore (lo' := [(4, _), (0, _), (1, _), (2, _), (3, _)]) C (dk oX10_findWays 38 rfl) (by decide) rfl ?_
                refine r_iconst C (dk oX10_findWays 39 rfl) (v := nI 0) (by decide) ?_
                refine r_istore (lo' := [(6, _), (4, _), (0, _), (1, _), (2, _), (3, _)]) C (dk oX10_findWays 40 rfl) (by decide) rfl ?_
                have L72 : ∀ (d_ : Nat) (f_ : Nat), 12 - f_ < d_ → f_ ≤ 12 → V p l e (rmL 4) s m args below meth c Q D A 7 0 0 n ad (mE cA ad I2 J) 72 [(0, .ref (ad 117)), (1, .int (nI m_)), (2, .int (nI (opN Φ))), (3, .int (nI s_)), (4, .long (lN (if sub s_ (opN Φ) = true then wyN (opN Φ) (fun f => shQ k_ Φ (brQ k_ ||| m_) f) s_ f_ else 0))), (6, .int (nI f_))] [] := by
                  intro d_
                  induction d_ with
                  | zero => intros; exact absurd (by assumption) (Nat.not_lt_zero _)
                  | succ d_ ih => 
                    intro f_ hd3 hf3
                    have hwl : (if sub s_ (opN Φ) = true then wyN (opN Φ) (fun f => shQ k_ Φ (brQ k_ ||| m_) f) s_ f_ else 0) ≤ 1000000 := by
                      by_cases e : sub s_ (opN Φ) = true
                      · rw [if_pos e]; exact wy_le (fun f => shF_le) f_
                      · rw [if_neg e]; exact Nat.zero_le _
                    refine r_iload C 5 (dk oX10_findWays 41 rfl) rfl ?_
                    refine r_bipush C (dk oX10_findWays 42 rfl) (v := nI 12) (by decide) ?_
                    refine r_icmp_ge (tgt := 141) C (dk oX10_findWays 43 rfl) (by decide) (fun hb76 => ?_) (fun hb76 => ?_)
                    · simp (disch := omega) only [nI_leI, nI_ltI, nI_eq, nI_eq0] at hb76
                      have hfin : (if sub s_ (opN Φ) = true then wyN (opN Φ) (fun f => shQ k_ Φ (brQ k_ ||| m_) f) s_ f_ else 0) = wyM Φ (fun f => shQ k_ Φ (brQ k_ ||| m_) f) s_ := by rw [show f_ = 12 by omega]; rfl
                      refine r_aload_n C 0 (dk oX10_findWays 75 rfl) rfl ?_
                      refine r_getR C (dk oX10_findWays 76 rfl) fl_X10_96 rfl (km hn rfl) ?_
                      refine r_iload_n C 3 (dk oX10_findWays 77 rfl) rfl ?_
                      refine r_lload C 4 (dk oX10_findWays 78 rfl) rfl ?_
                      refine r_l2i C (dk oX10_findWays 79 rfl) ?_
                      rw [lN_i]
                      refine r_iast C _ (dk oX10_findWays 80 rfl) rfl (km hn rfl) rfl (by omega) (by decide) ?_
                      refine r_iinc (lo' := [(3, _), (0, _), (1, _), (2, _), (4, _), (6, _)]) C 3 (dk oX10_findWays 81 rfl) rfl (by first | exact nI_inc _ | rfl) (by decide) rfl ?_
                      refine r_goto (tgt := 45) C (dk oX10_findWays 82 rfl) (by decide) ?_
                      refine V.sub [1, 2, 3, 0] rfl ?_
                      refine ihO (s_ + 1) _ (by omega) (by omega) (fun s hs2 => ?_) (fun g hg => by rw [up2_ne (by decide)]; exact hL2 g hg) (fun k a b => by rw [up2_ne a]; exact hO2 k a b)
                      by_cases e : s = s_
                      · subst e
                        rw [up2_at]
                        exact congrArg nI hfin
                      · rw [up2_off e]; exact hW s (by omega)
                    · simp (disch := omega) only [nI_leI, nI_ltI, nI_eq, nI_eq0] at hb76
                      refine r_lload C 4 (dk oX10_findWays 44 rfl) rfl ?_
                      refine r_lconst C (dk oX10_findWays 45 rfl) (v := 0) (by decide) ?_
                      refine r_lcmp C (dk oX10_findWays 46 rfl) ?_
                      refine r_if_le (tgt := 141) C (dk oX10_findWays 47 rfl) (by decide) (fun hb83 => ?_) (fun hb83 => ?_)
                      · rw [lgw (by omega)] at hb83
                        have hfin : (if sub s_ (opN Φ) = true then wyN (opN Φ) (fun f => shQ k_ Φ (brQ k_ ||| m_) f) s_ f_ else 0) = wyM Φ (fun f => shQ k_ Φ (brQ k_ ||| m_) f) s_ := by
                          rw [hb83]
                          unfold wyM
                          cases e : sub s_ (opN Φ)
                          · rw [if_neg (by decide)]
                          · rw [e, if_pos rfl] at hb83
                            rw [if_pos rfl]
                            have h := wy_0 hb83 (12 - f_)
                            rw [show f_ + (12 - f_) = 12 by omega] at h
                            exact h.symm
                        refine r_aload_n C 0 (dk oX10_findWays 75 rfl) rfl ?_
                        refine r_getR C (dk oX10_findWays 76 rfl) fl_X10_96 rfl (km hn rfl) ?_
                        refine r_iload_n C 3 (dk oX10_findWays 77 rfl) rfl ?_
                        refine r_lload C 4 (dk oX10_findWays 78 rfl) rfl ?_
                        refine r_l2i C (dk oX10_findWays 79 rfl) ?_
                        rw [lN_i]
                        refine r_iast C _ (dk oX10_findWays 80 rfl) rfl (km hn rfl) rfl (by omega) (by decide) ?_
                        refine r_iinc (lo' := [(3, _), (0, _), (1, _), (2, _), (4, _), (6, _)]) C 3 (dk oX10_findWays 81 rfl) rfl (by first | exact nI_inc _ | rfl) (by decide) rfl ?_
                        refine r_goto (tgt := 45) C (dk oX10_findWays 82 rfl) (by decide) ?_
                        refine V.sub [1, 2, 3, 0] rfl ?_
                        refine ihO (s_ + 1) _ (by omega) (by omega) (fun s hs2 => ?_) (fun g hg => by rw [up2_ne (by decide)]; exact hL2 g hg) (fun k a b => by rw [up2_ne a]; exact hO2 k a b)
                        by_cases e : s = s_
                        · subst e
                          rw [up2_at]
                          exact congrArg nI hfin
                        · rw [up2_off e]; exact hW s (by omega)
                      · rw [lgw (by omega)] at hb83
                        have hsub2 : sub s_ (opN Φ) = true := by
                          cases e : sub s_ (opN Φ)
                          · rw [e] at hb83; exact absurd (if_neg (by decide)) hb83
                          · rfl
                        refine r_iload_n C 2 (dk oX10_findWays 48 rfl) rfl ?_
                        refine r_iload C 5 (dk oX10_findWays 49 rfl) rfl ?_
                        refine r_isi C Z (dk oX10_findWays 50 rfl) cl_X10_231 st_X10_has (c_X10_has I2 J (opN Φ) (f_) (by omega) (by omega)) rfl rfl (Nat.le_of_ble_eq_true rfl) ⟨Nat.le_of_ble_eq_true rfl, Nat.le_of_ble_eq_true rfl⟩ ⟨Nat.zero_le _, Nat.zero_le _⟩ (fun r89 I89 J89 h89 => ?_)
                        obtain ⟨h89, e1_, e2_⟩ := h89
                        have e1_ := e1_.symm
                        have e2_ := e2_.symm
                        subst e1_
                        subst e2_
                        subst h89
                        refine r_if_eq (tgt := 135) C (dk oX10_findWays 51 rfl) (by decide) (fun hb92 => ?_) (fun hb92 => ?_)
                        · rw [b32_0] at hb92
                          refine r_iinc (lo' := [(6, _), (0, _), (1, _), (2, _), (3, _), (4, _)]) C 5 (dk oX10_findWays 73 rfl) rfl (by first | exact nI_inc _ | rfl) (by decide) rfl ?_
                          refine r_goto (tgt := 72) C (dk oX10_findWays 74 rfl) (by decide) ?_
                          refine V.sub [1, 2, 3, 4, 5, 0] rfl ?_
                          have hih := ih (f_ + 1) (by omega) (by omega)
                          rw [if_pos hsub2] at hih
                          rw [show wyN (opN Φ) (fun f => shQ k_ Φ (brQ k_ ||| m_) f) s_ (f_ + 1) = if (opN Φ).testBit f_ = true then wyN (opN Φ) (fun f => shQ k_ Φ (brQ k_ ||| m_) f) s_ f_ * (if s_.testBit f_ = true then shQ k_ Φ (brQ k_ ||| m_) f_ else 1000 - shQ k_ Φ (brQ k_ ||| m_) f_) / 1000 else wyN (opN Φ) (fun f => shQ k_ Φ (brQ k_ ||| m_) f) s_ f_ from rfl, hb92] at hih
                          rw [if_pos hsub2]
                          exact hih
                        · rw [b32_n] at hb92
                          have hsh : shQ k_ Φ (brQ k_ ||| m_) f_ ≤ 1000 := shF_le
                          refine r_lload C 4 (dk oX10_findWays 52 rfl) rfl ?_
                          refine r_iload_n C 3 (dk oX10_findWays 53 rfl) rfl ?_
                          refine r_iload C 5 (dk oX10_findWays 54 rfl) rfl ?_
                          refine r_isi C Z (dk oX10_findWays 55 rfl) cl_X10_231 st_X10_has (c_X10_has I2 J (s_) (f_) (by omega) (by omega)) rfl rfl (Nat.le_of_ble_eq_true rfl) ⟨Nat.le_of_ble_eq_true rfl, Nat.le_of_ble_eq_true rfl⟩ ⟨Nat.zero_le _, Nat.zero_le _⟩ (fun r100 I100 J100 h100 => ?_)
                          obtain ⟨h100, e1_, e2_⟩ := h100
                          have e1_ := e1_.symm
                          have e2_ := e2_.symm
                          subst e1_
                          subst e2_
                          subst h100
                          refine r_if_eq (tgt := 116) C (dk oX10_findWays 56 rfl) (by decide) (fun hb103 => ?_) (fun hb103 => ?_)
                          · rw [b32_0] at hb103
                            refine r_sipush C (dk oX10_findWays 62 rfl) (v := nI 1000) (by decide) ?_
                            refine r_aload_n C 0 (dk oX10_findWays 63 rfl) rfl ?_
                            refine r_getR C (dk oX10_findWays 64 rfl) fl_X10_99 rfl (km hn rfl) ?_
                            refine r_iload C 5 (dk oX10_findWays 65 rfl) rfl ?_
                            refine r_iald C _ (dk oX10_findWays 66 rfl) rfl (km hn rfl) rfl (by omega) (by decide) ?_
                            rw [hL2 f_ (by omega), if_pos hb92]
                            refine r_isub C (dk oX10_findWays 67 rfl) ?_
                            rw [pk_sub hsh]
                            refine r_topI (show nI (1000 - shQ k_ Φ (brQ k_ ||| m_) f_) = nI (if s_.testBit f_ = true then shQ k_ Φ (brQ k_ ||| m_) f_ else 1000 - shQ k_ Φ (brQ k_ ||| m_) f_) from by rw [if_neg (by rw [hb103]; decide)]) ?_
                            refine r_i2l C (dk oX10_findWays 68 rfl) ?_
                            rw [nI_l (by split <;> omega)]
                            refine r_lmul C (dk oX10_findWays 69 rfl) ?_
                            rw [lN_mul]
                            refine r_ldc2 C (dk oX10_findWays 70 rfl) kn_X10_305 ?_
                            refine r_ldiv C (dk oX10_findWays 71 rfl) (by decide) ?_
                            rw [show (1000 : Int64) = lN 1000 from rfl, pk_lDiv (by
                              have h1 : (if s_.testBit f_ = true then shQ k_ Φ (brQ k_ ||| m_) f_ else 1000 - shQ k_ Φ (brQ k_ ||| m_) f_) ≤ 1000 := by split <;> omega
                              have h2 : (if sub s_ (opN Φ) = true then wyN (opN Φ) (fun f => shQ k_ Φ (brQ k_ ||| m_) f) s_ f_ else 0) * (if s_.testBit f_ = true then shQ k_ Φ (brQ k_ ||| m_) f_ else 1000 - shQ k_ Φ (brQ k_ ||| m_) f_) ≤ 1000000 * 1000 := Nat.mul_le_mul hwl h1
                              omega) (by decide) (by decide)]
                            refine r_lstore (lo' := [(4, _), (0, _), (1, _), (2, _), (3, _), (6, _)]) C (dk oX10_findWays 72 rfl) (by decide) rfl ?_
                            refine r_iinc (lo' := [(6, _), (4, _), (0, _), (1, _), (2, _), (3, _)]) C 5 (dk oX10_findWays 73 rfl) rfl (by first | exact nI_inc _ | rfl) (by decide) rfl ?_
                            refine r_goto (tgt := 72) C (dk oX10_findWays 74 rfl) (by decide) ?_
                            refine V.sub [2, 3, 4, 5, 1, 0] rfl ?_
                            have hih := ih (f_ + 1) (by omega) (by omega)
                            rw [if_pos hsub2] at hih
                            rw [show wyN (opN Φ) (fun f => shQ k_ Φ (brQ k_ ||| m_) f) s_ (f_ + 1) = if (opN Φ).testBit f_ = true then wyN (opN Φ) (fun f => shQ k_ Φ (brQ k_ ||| m_) f) s_ f_ * (if s_.testBit f_ = true then shQ k_ Φ (brQ k_ ||| m_) f_ else 1000 - shQ k_ Φ (brQ k_ ||| m_) f_) / 1000 else wyN (opN Φ) (fun f => shQ k_ Φ (brQ k_ ||| m_) f) s_ f_ from rfl, hb92] at hih
                            rw [if_pos hsub2]
                            exact hih
                          · rw [b32_n] at hb103
                            refine r_aload_n C 0 (dk oX10_findWays 57 rfl) rfl ?_
                            refine r_getR C (dk oX10_findWays 58 rfl) fl_X10_99 rfl (km hn rfl) ?_
                            refine r_iload C 5 (dk oX10_findWays 59 rfl) rfl ?_
                            refine r_iald C _ (dk oX10_findWays 60 rfl) rfl (km hn rfl) rfl (by omega) (by decide) ?_
                            rw [hL2 f_ (by omega), if_pos hb92]
                            refine r_topI (show nI (shQ k_ Φ (brQ k_ ||| m_) f_) = nI (if s_.testBit f_ = true then shQ k_ Φ (brQ k_ ||| m_) f_ else 1000 - shQ k_ Φ (brQ k_ ||| m_) f_) from by rw [if_pos hb103]) ?_
                            refine r_goto (tgt := 127) C (dk oX10_findWays 61 rfl) (by decide) ?_
                            refine r_i2l C (dk oX10_findWays 68 rfl) ?_
                            rw [nI_l (by split <;> omega)]
                            refine r_lmul C (dk oX10_findWays 69 rfl) ?_
                            rw [lN_mul]
                            refine r_ldc2 C (dk oX10_findWays 70 rfl) kn_X10_305 ?_
                            refine r_ldiv C (dk oX10_findWays 71 rfl) (by decide) ?_
                            rw [show (1000 : Int64) = lN 1000 from rfl, pk_lDiv (by
                              have h1 : (if s_.testBit f_ = true then shQ k_ Φ (brQ k_ ||| m_) f_ else 1000 - shQ k_ Φ (brQ k_ ||| m_) f_) ≤ 1000 := by split <;> omega
                              have h2 : (if sub s_ (opN Φ) = true then wyN (opN Φ) (fun f => shQ k_ Φ (brQ k_ ||| m_) f) s_ f_ else 0) * (if s_.testBit f_ = true then shQ k_ Φ (brQ k_ ||| m_) f_ else 1000 - shQ k_ Φ (brQ k_ ||| m_) f_) ≤ 1000000 * 1000 := Nat.mul_le_mul hwl h1
                              omega) (by decide) (by decide)]
                            refine r_lstore (lo' := [(4, _), (0, _), (1, _), (2, _), (3, _), (6, _)]) C (dk oX10_findWays 72 rfl) (by decide) rfl ?_
                            refine r_iinc (lo' := [(6, _), (4, _), (0, _), (1, _), (2, _), (3, _)]) C 5 (dk oX10_findWays 73 rfl) rfl (by first | exact nI_inc _ | rfl) (by decide) rfl ?_
                            refine r_goto (tgt := 72) C (dk oX10_findWays 74 rfl) (by decide) ?_
                            refine V.sub [2, 3, 4, 5, 1, 0] rfl ?_
                            have hih := ih (f_ + 1) (by omega) (by omega)
                            rw [if_pos hsub2] at hih
                            rw [show wyN (opN Φ) (fun f => shQ k_ Φ (brQ k_ ||| m_) f) s_ (f_ + 1) = if (opN Φ).testBit f_ = true then wyN (opN Φ) (fun f => shQ k_ Φ (brQ k_ ||| m_) f) s_ f_ * (if s_.testBit f_ = true then shQ k_ Φ (brQ k_ ||| m_) f_ else 1000 - shQ k_ Φ (brQ k_ ||| m_) f_) / 1000 else wyN (opN Φ) (fun f => shQ k_ Φ (brQ k_ ||| m_) f) s_ f_ from rfl, hb92] at hih
                            rw [if_pos hsub2]
                            exact hih
                refine V.sub [2, 3, 4, 5, 1, 0] rfl ?_
                exact L72 13 0 (by omega) (Nat.zero_le _)
        refine V.sub [1, 2, 3, 0] rfl ?_
        exact L45 4097 0 I1 (by omega) (Nat.zero_le _) (fun s hs => absurd hs (Nat.not_lt_zero _)) (fun g hg => hL g (by omega)) (fun k _ b => hO1 k b)
      · simp (disch := omega) only [nI_leI, nI_ltI, nI_eq, nI_eq0] at hb10
        refine r_aload_n C 0 (dk oX10_findWays 8 rfl) rfl ?_
        refine r_getR C (dk oX10_findWays 9 rfl) fl_X10_99 rfl (km hn rfl) ?_
        refine r_iload_n C 3 (dk oX10_findWays 10 rfl) rfl ?_
        refine r_iload_n C 2 (dk oX10_findWays 11 rfl) rfl ?_
        refine r_iload_n C 3 (dk oX10_findWays 12 rfl) rfl ?_
        refine r_isi C Z (dk oX10_findWays 13 rfl) cl_X10_231 st_X10_has (c_X10_has I1 J (opN Φ) (g_) (by omega) (by omega)) rfl rfl (Nat.le_of_ble_eq_true rfl) ⟨Nat.le_of_ble_eq_true rfl, Nat.le_of_ble_eq_true rfl⟩ ⟨Nat.zero_le _, Nat.zero_le _⟩ (fun r20 I20 J20 h20 => ?_)
        obtain ⟨h20, e1_, e2_⟩ := h20
        have e1_ := e1_.symm
        have e2_ := e2_.symm
        subst e1_
        subst e2_
        subst h20
        refine r_if_eq (tgt := 35) C (dk oX10_findWays 14 rfl) (by decide) (fun hb23 => ?_) (fun hb23 => ?_)
        · rw [b32_0] at hb23
          refine r_iconst C (dk oX10_findWays 20 rfl) (v := nI 0) (by decide) ?_
          refine r_iast C _ (dk oX10_findWays 21 rfl) rfl (km hn rfl) rfl (by omega) (by decide) ?_
          refine r_iinc (lo' := [(3, _), (0, _), (1, _), (2, _)]) C 3 (dk oX10_findWays 22 rfl) rfl (by first | exact nI_inc _ | rfl) (by decide) rfl ?_
          refine r_goto (tgt := 7) C (dk oX10_findWays 23 rfl) (by decide) ?_
          refine V.sub [1, 2, 3, 0] rfl ?_
          refine ih (g_ + 1) _ (by omega) (by omega) (fun g hg2 => ?_) (fun k hk => by rw [up2_ne hk]; exact hO1 k hk)
          by_cases e : g = g_
          · subst e
            rw [up2_at, hb23]
            rfl
          · rw [up2_off e]; exact hL g (by omega)
        · rw [b32_n] at hb23
          refine r_aload_n C 0 (dk oX10_findWays 15 rfl) rfl ?_
          refine r_iload_n C 3 (dk oX10_findWays 16 rfl) rfl ?_
          refine r_iload_n C 1 (dk oX10_findWays 17 rfl) rfl ?_
          refine r_ivi C Z (dk oX10_findWays 18 rfl) cl_X10_313 ci_X10_likelyBy rfl (km hn rfl) (c_X10_likelyBy hn I1 J Φ (hM.of (fun c a b => hO1 c (by omega))) hok k_ (hK.of (fun c a b => hO1 c (by omega))) g_ m_ (by omega) hm) rfl rfl (Nat.le_of_ble_eq_true rfl) ⟨Nat.le_of_ble_eq_true rfl, Nat.le_of_ble_eq_true rfl⟩ ⟨Nat.zero_le _, Nat.zero_le _⟩ (fun r29 I29 J29 h29 => ?_)
          obtain ⟨h29, e1_, e2_⟩ := h29
          have e1_ := e1_.symm
          have e2_ := e2_.symm
          subst e1_
          subst e2_
          subst h29
          refine r_goto (tgt := 36) C (dk oX10_findWays 19 rfl) (by decide) ?_
          refine r_iast C _ (dk oX10_findWays 21 rfl) rfl (km hn rfl) rfl (by omega) (by decide) ?_
          refine r_iinc (lo' := [(3, _), (0, _), (1, _), (2, _)]) C 3 (dk oX10_findWays 22 rfl) rfl (by first | exact nI_inc _ | rfl) (by decide) rfl ?_
          refine r_goto (tgt := 7) C (dk oX10_findWays 23 rfl) (by decide) ?_
          refine V.sub [1, 2, 3, 0] rfl ?_
          refine ih (g_ + 1) _ (by omega) (by omega) (fun g hg2 => ?_) (fun k hk => by rw [up2_ne hk]; exact hO1 k hk)
          by_cases e : g = g_
          · subst e
            rw [up2_at, hb23]
            rfl
          · rw [up2_off e]; exact hL g (by omega)
  refine V.sub [2, 3, 1, 0] rfl ?_
  exact L7 13 0 I (by omega) (Nat.zero_le _) (fun g hg => absurd hg (Nat.not_lt_zero _)) (fun _ _ => rfl)

end MOD5
