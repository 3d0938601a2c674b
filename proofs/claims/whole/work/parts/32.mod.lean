section MOD1
variable {l : Launch} {n : Nat} {ad : Nat → Nat} {cA : Nat → ClassId} {D : va_G} {z : Zw}
theorem lgc_lt {x y : Int64} : lg_cmp x y < 0 ↔ x < y := by
  show (if y < x then (1 : Int32) else if x = y then 0 else -1) < 0 ↔ _
  by_cases h1 : y < x
  · rw [if_pos h1]
    rw [Int64.lt_iff_toInt_lt] at h1 ⊢
    exact Iff.intro (fun h => absurd h (by decide)) (fun h => by omega)
  · rw [if_neg h1]
    by_cases h2 : x = y
    · rw [if_pos h2, h2]
      rw [Int64.lt_iff_toInt_lt]
      exact Iff.intro (fun h => absurd h (by decide)) (fun h => absurd h (by omega))
    · rw [if_neg h2]
      rw [Int64.lt_iff_toInt_lt] at h1 ⊢
      have h3 : x.toInt ≠ y.toInt := fun e => h2 (Int64.toInt_inj.mp e)
      exact Iff.intro (fun _ => by omega) (fun _ => by decide)
theorem lgc_gt {x y : Int64} : 0 < lg_cmp x y ↔ y < x := by
  show 0 < (if y < x then (1 : Int32) else if x = y then 0 else -1) ↔ _
  by_cases h1 : y < x
  · rw [if_pos h1]
    exact Iff.intro (fun _ => h1) (fun _ => by decide)
  · rw [if_neg h1]
    by_cases h2 : x = y
    · rw [if_pos h2]
      exact Iff.intro (fun h => absurd h (by decide)) (fun h => absurd h h1)
    · rw [if_neg h2]
      exact Iff.intro (fun h => absurd h (by decide)) (fun h => absurd h h1)
theorem in_vd {x : Int32} {n : Nat} {lo hi : Int64} (hn : n + 1 < 2 ^ 31) (h0 : lo = lN 0) (h1 : hi = lN n) : (lo ≤ x.toInt64 ∧ x.toInt64 ≤ hi) ↔ vdN x (n + 1) := by
  subst h0
  subst h1
  rw [Int64.le_iff_toInt_le, Int64.le_iff_toInt_le, Int32.toInt_toInt64, pf_lI (by omega), pf_lI (by omega)]
  show _ ↔ 0 ≤ x ∧ x < nI (n + 1)
  rw [fa_le, fa_lt, nI_toI (by omega), show (0 : Int32).toInt = 0 from rfl]
  constructor
  · rintro ⟨a, b⟩; exact ⟨a, by omega⟩
  · rintro ⟨a, b⟩; exact ⟨a, by omega⟩
theorem in_vdm {x : Int32} {n : Nat} {lo : Int64} (hn : n < 2 ^ 31) (h0 : lo = lN 0) : (lo ≤ x.toInt64 ∧ x.toInt64 ≤ (nI n - nI 1).toInt64) ↔ vdN x n := by
  subst h0
  have e : (nI n - nI 1).toInt = (n : Int) - 1 := by
    by_cases e : n = 0
    · subst e; decide
    · rw [pk_sub (by omega), nI_toI (by omega)]; omega
  rw [Int64.le_iff_toInt_le, Int64.le_iff_toInt_le, Int32.toInt_toInt64, Int32.toInt_toInt64, e, pf_lI (by omega)]
  show _ ↔ 0 ≤ x ∧ x < nI n
  rw [fa_le, fa_lt, nI_toI (by omega), show (0 : Int32).toInt = 0 from rfl]
  constructor
  · rintro ⟨a, b⟩; exact ⟨a, by omega⟩
  · rintro ⟨a, b⟩; exact ⟨a, by omega⟩
theorem in_lo {x : Int32} {a b : Nat} {lo hi : Int64} (hb : b < 2 ^ 31) (ha : a < 2 ^ 31) (h0 : lo = lN a) (h1 : hi = lN b) : (lo ≤ x.toInt64 ∧ x.toInt64 ≤ hi) ↔ ¬ (x < nI a ∨ nI b < x) := by
  subst h0
  subst h1
  rw [Int64.le_iff_toInt_le, Int64.le_iff_toInt_le, Int32.toInt_toInt64, pf_lI (by omega), pf_lI (by omega), fa_lt, fa_lt, nI_toI (by omega), nI_toI (by omega)]
  omega
theorem or_b32 {a f : Nat} {x : Bool} (h : f < 31) : nI a ||| (b32 x <<< (nI f &&& 31)) = nI (if x = true then a ||| 2 ^ f else a) := by
  cases x
  · rw [if_neg (by decide), show b32 false <<< (nI f &&& 31) = nI 0 from by
      rw [b32_f, show nI 0 = (0 : Int32) from rfl]
      apply Int32.toBitVec_inj.1
      simp, nI_or0]
  · rw [if_pos rfl, b32_t, or_bit h]
theorem ct_sh (p : Nat → Bool) : ∀ n, fb_ct p (n + 1) = (p 0).toNat + fb_ct (fun i => p (i + 1)) n
  | 0 => by
    rw [fb_ct_succ]
    show 0 + _ = _ + 0
    cases p 0 <;> rfl
  | n + 1 => by
    rw [fb_ct_succ, ct_sh p n, fb_ct_succ]
    omega
theorem pc_ct : ∀ n a, pcN n a = fb_ct (fun i => a.testBit i) n
  | 0, a => rfl
  | n + 1, a => by
    rw [ct_sh]
    show a % 2 + pcN n (a / 2) = _
    rw [pc_ct n (a / 2)]
    have e0 : (a.testBit 0).toNat = a % 2 := by
      rw [Nat.testBit_zero]
      rcases Nat.mod_two_eq_zero_or_one a with h | h <;> rw [h] <;> rfl
    have e1 : (fun i => a.testBit (i + 1)) = fun i => (a / 2).testBit i := by funext i; exact Nat.testBit_succ a i
    rw [e0, e1]
theorem toI32_ct {p : Nat → Bool} {n : Nat} : nI (fb_ct p n) + nI (p n).toNat = nI (fb_ct p (n + 1)) := by
  rw [nI_add, fb_ct_succ]
  cases p n <;> rfl
/-- the model's facts -/
def mH (I I' : MI) : Prop := ∀ k, k < 135 ∨ 140 < k → I' k = I k
def fsA (Φ : Nat → FS) : Prop := ∀ f, f < 12 → fsOK (Φ f)
theorem fsOK_st2 {ac : Nat → Nat → Nat} {lt : Nat → Bool} {f : Nat} : ∀ p, (∀ j, j < p → ac j f ≤ 6) → fsOK (stF ac lt f p)
  | 0, _ => fsOK_fr
  | p + 1, h => fsOK_adm (fsOK_hr (fsOK_st2 p (fun j hj => h j (by omega))) (h p (by omega)))
theorem mb_1 {a p : Nat} {φ : FS} (ha : a = 1 ∨ a = 2) : alw a p φ = decide (φ 0 = nI 0) := if_pos ha
theorem mb_6 {p : Nat} {φ : FS} (h : fsOK φ) : alw 6 p φ = decide (φ 2 = nI (p % 2) ∧ ¬ φ 0 = nI 2) := by
  unfold alw
  rw [if_neg (by decide), if_pos rfl]
  apply decide_eq_decide.mpr
  constructor
  · rintro ⟨a, b, c⟩; exact ⟨c, b⟩
  · rintro ⟨a, b⟩
    refine ⟨fun e => ?_, b, a⟩
    rcases h with h | h
    · rw [h.2] at a
      exact nI_m1 (by omega) a.symm
    · rcases h.1 with h1 | h1 | h1 | h1 <;> rw [h1] at e <;> exact absurd e (by decide)
theorem side_ne {φ : FS} {p : Nat} (h : fsOK φ) (h1 : φ 0 = nI 1) : φ 2 = nI (1 - p % 2) ↔ ¬ φ 2 = nI (p % 2) := by
  rcases h with h | h
  · rw [h.1] at h1; exact absurd h1 (by decide)
  · rcases (by omega : p % 2 = 0 ∨ p % 2 = 1) with e | e <;> rcases h.2.1 with h2 | h2 <;> rw [e, h2] <;> decide
theorem mb_o {a p : Nat} {φ : FS} (h : fsOK φ) (ha : ¬ (a = 1 ∨ a = 2)) (ha6 : ¬ a = 6) : alw a p φ = decide (φ 0 = nI 1 ∧ ¬ φ 2 = nI (p % 2)) := by
  unfold alw
  rw [if_neg ha, if_neg ha6]
  apply decide_eq_decide.mpr
  constructor
  · rintro ⟨a, b⟩; exact ⟨a, (side_ne h a).mp b⟩
  · rintro ⟨a, b⟩; exact ⟨a, (side_ne h a).mpr b⟩
theorem adB_o {p : Nat} {φ : FS} (h : fsOK φ) : adB p φ = decide (φ 0 = nI 1 ∧ ¬ φ 2 = nI (p % 2)) := by
  unfold adB
  apply decide_eq_decide.mpr
  constructor
  · rintro ⟨a, b⟩; exact ⟨a, (side_ne h a).mp b⟩
  · rintro ⟨a, b⟩; exact ⟨a, (side_ne h a).mpr b⟩
theorem opB_o {φ : FS} (h : fsOK φ) : opB φ = decide (φ 0 = nI 1 ∨ φ 0 = nI 3 ∨ φ 0 = nI 4) := by
  unfold opB
  apply decide_eq_decide.mpr
  rcases h with h | h
  · rw [h.1]; decide
  · rcases h.1 with h1 | h1 | h1 | h1 <;> rw [h1] <;> decide
set_option maxHeartbeats 1000000 in
set_option maxRecDepth 100000 in
theorem c_X10_in (I : MI) (J : MJ) (v lo hi : Int64) : Ci l n ad cA D z 0 yX10_in cX10_in 6 .boolean I J [.long v, .long lo, .long hi] (fun r I' J' => r = b32 (decide (lo ≤ v ∧ v ≤ hi)) ∧ I' = I ∧ J' = J) := by
  refine Ci.of (by decide) (Nat.le_of_ble_eq_true rfl) ?_
  intro p e s m args below meth c A C hin Z Q hret
  refine r_lload_n C 0 (dk oX10_in 0 rfl) rfl ?_
  refine r_lload_n C 1 (dk oX10_in 1 rfl) rfl ?_
  refine r_lcmp C (dk oX10_in 2 rfl) ?_
  refine r_if_lt (tgt := 17) C (dk oX10_in 3 rfl) (by decide) (fun hb3 => ?_) (fun hb3 => ?_)
  · rw [lgc_lt] at hb3
    refine r_iconst C (dk oX10_in 10 rfl) (v := nI 0) (by decide) ?_
    refine hret (dk oX10_in 11 rfl) (by first | rfl | decide) ?_
    first
      | exact ⟨b32_dt ⟨Int64.not_lt.mp hb3, Int64.not_lt.mp hb10⟩, rfl, rfl⟩
      | exact ⟨b32_df (fun q => absurd hb3 (Int64.not_lt.mpr q.1)), rfl, rfl⟩
      | exact ⟨b32_df (fun q => absurd hb10 (Int64.not_lt.mpr q.2)), rfl, rfl⟩
  · rw [lgc_lt] at hb3
    refine r_lload_n C 0 (dk oX10_in 4 rfl) rfl ?_
    refine r_lload C 2 (dk oX10_in 5 rfl) rfl ?_
    refine r_lcmp C (dk oX10_in 6 rfl) ?_
    refine r_if_gt (tgt := 17) C (dk oX10_in 7 rfl) (by decide) (fun hb10 => ?_) (fun hb10 => ?_)
    · rw [lgc_gt] at hb10
      refine r_iconst C (dk oX10_in 10 rfl) (v := nI 0) (by decide) ?_
      refine hret (dk oX10_in 11 rfl) (by first | rfl | decide) ?_
      first
        | exact ⟨b32_dt ⟨Int64.not_lt.mp hb3, Int64.not_lt.mp hb10⟩, rfl, rfl⟩
        | exact ⟨b32_df (fun q => absurd hb3 (Int64.not_lt.mpr q.1)), rfl, rfl⟩
        | exact ⟨b32_df (fun q => absurd hb10 (Int64.not_lt.mpr q.2)), rfl, rfl⟩
    · rw [lgc_gt] at hb10
      refine r_iconst C (dk oX10_in 8 rfl) (v := nI 1) (by decide) ?_
      refine r_goto (tgt := 18) C (dk oX10_in 9 rfl) (by decide) ?_
      refine hret (dk oX10_in 11 rfl) (by first | rfl | decide) ?_
      first
        | exact ⟨b32_dt ⟨Int64.not_lt.mp hb3, Int64.not_lt.mp hb10⟩, rfl, rfl⟩
        | exact ⟨b32_df (fun q => absurd hb3 (Int64.not_lt.mpr q.1)), rfl, rfl⟩
        | exact ⟨b32_df (fun q => absurd hb10 (Int64.not_lt.mpr q.2)), rfl, rfl⟩

set_option maxHeartbeats 1000000 in
set_option maxRecDepth 100000 in
theorem c_X10_one (I : MI) (J : MJ) (x : Bool) : Ci l n ad cA D z 0 yX10_one cX10_one 1 .int I J [.int (b32 x)] (fun r I' J' => r = b32 x ∧ I' = I ∧ J' = J) := by
  refine Ci.of (by decide) (Nat.le_of_ble_eq_true rfl) ?_
  intro p e s m args below meth c A C hin Z Q hret
  refine r_iload_n C 0 (dk oX10_one 0 rfl) rfl ?_
  refine r_if_eq (tgt := 8) C (dk oX10_one 1 rfl) (by decide) (fun hb1 => ?_) (fun hb1 => ?_)
  · rw [b32_0] at hb1
    refine r_iconst C (dk oX10_one 4 rfl) (v := nI 0) (by decide) ?_
    refine hret (dk oX10_one 5 rfl) rfl ?_
    exact ⟨by rw [hb1]; rfl, rfl, rfl⟩
  · rw [b32_n] at hb1
    refine r_iconst C (dk oX10_one 2 rfl) (v := nI 1) (by decide) ?_
    refine r_goto (tgt := 9) C (dk oX10_one 3 rfl) (by decide) ?_
    refine hret (dk oX10_one 5 rfl) rfl ?_
    exact ⟨by rw [hb1]; rfl, rfl, rfl⟩

set_option maxHeartbeats 1000000 in
set_option maxRecDepth 100000 in
theorem c_X10_has (I : MI) (J : MJ) (a j : Nat) (ha : a < 2 ^ 31) (hj : j < 32) : Ci l n ad cA D z 0 yX10_has cX10_has 2 .boolean I J [.int (nI a), .int (nI j)] (fun r I' J' => r = b32 (a.testBit j) ∧ I' = I ∧ J' = J) := by
  refine Ci.of (by decide) (Nat.le_of_ble_eq_true rfl) ?_
  intro p e s m args below meth c A C hin Z Q hret
  refine r_iload_n C 0 (dk oX10_has 0 rfl) rfl ?_
  refine r_iload_n C 1 (dk oX10_has 1 rfl) rfl ?_
  refine r_ishr C (dk oX10_has 2 rfl) ?_
  refine r_iconst C (dk oX10_has 3 rfl) (v := nI 1) (by decide) ?_
  refine r_iand C (dk oX10_has 4 rfl) ?_
  rw [has_bit ha hj]
  refine r_iconst C (dk oX10_has 5 rfl) (v := nI 1) (by decide) ?_
  refine r_icmp_ne (tgt := 13) C (dk oX10_has 6 rfl) (by decide) (fun hb6 => ?_) (fun hb6 => ?_)
  · refine r_iconst C (dk oX10_has 9 rfl) (v := nI 0) (by decide) ?_
    refine hret (dk oX10_has 10 rfl) (by first | rfl | decide) ?_
    refine ⟨?_, rfl, rfl⟩
    revert hb6
    cases a.testBit j
    · intro h
      first
        | rfl
        | exact absurd h (by decide)
    · intro h
      first
        | rfl
        | exact absurd rfl h
  · refine r_iconst C (dk oX10_has 7 rfl) (v := nI 1) (by decide) ?_
    refine r_goto (tgt := 14) C (dk oX10_has 8 rfl) (by decide) ?_
    refine hret (dk oX10_has 10 rfl) (by first | rfl | decide) ?_
    refine ⟨?_, rfl, rfl⟩
    revert hb6
    cases a.testBit j
    · intro h
      first
        | rfl
        | exact absurd h (by decide)
    · intro h
      first
        | rfl
        | exact absurd rfl h

set_option maxHeartbeats 1000000 in
set_option maxRecDepth 100000 in
theorem c_X10_ones (I : MI) (J : MJ) (a : Nat) (ha : a < 65536) : Ci l n ad cA D z 0 yX10_ones cX10_ones 3 .int I J [.int (nI a)] (fun r I' J' => r = nI (pc a) ∧ I' = I ∧ J' = J) := by
  refine Ci.of (by decide) (Nat.le_of_ble_eq_true rfl) ?_
  intro p e s m args below meth c A C hin Z Q hret
  refine r_iconst C (dk oX10_ones 0 rfl) (v := nI 0) (by decide) ?_
  refine r_istore_n (lo' := [(1, _), (0, _)]) C (dk oX10_ones 1 rfl) rfl (by decide) rfl ?_
  refine r_iconst C (dk oX10_ones 2 rfl) (v := nI 0) (by decide) ?_
  refine r_istore_n (lo' := [(2, _), (1, _), (0, _)]) C (dk oX10_ones 3 rfl) rfl (by decide) rfl ?_
  have L4 : ∀ (d_ : Nat) (k_ : Nat), 16 - k_ < d_ → k_ ≤ 16 → V p l e (rmL 0) s m args below meth c Q D A 3 0 0 n ad (mE cA ad I J) 4 [(0, .int (nI a)), (1, .int (nI (fb_ct (fun i => a.testBit i) k_))), (2, .int (nI k_))] [] := by
    intro d_
    induction d_ with
    | zero => intros; exact absurd (by assumption) (Nat.not_lt_zero _)
    | succ d_ ih => 
      intro k_ hd_ hk
      refine r_iload_n C 2 (dk oX10_ones 4 rfl) rfl ?_
      refine r_bipush C (dk oX10_ones 5 rfl) (v := nI 16) (by decide) ?_
      refine r_icmp_ge (tgt := 24) C (dk oX10_ones 6 rfl) (by decide) (fun hb7 => ?_) (fun hb7 => ?_)
      · simp (disch := omega) only [nI_leI, nI_ltI, nI_eq, nI_eq0] at hb7
        refine r_iload_n C 1 (dk oX10_ones 17 rfl) rfl ?_
        refine hret (dk oX10_ones 18 rfl) rfl ?_
        exact ⟨by rw [show k_ = 16 by omega]; exact congrArg nI (pc_ct 16 a).symm, rfl, rfl⟩
      · simp (disch := omega) only [nI_leI, nI_ltI, nI_eq, nI_eq0] at hb7
        refine r_iload_n C 1 (dk oX10_ones 7 rfl) rfl ?_
        refine r_iload_n C 0 (dk oX10_ones 8 rfl) rfl ?_
        refine r_iload_n C 2 (dk oX10_ones 9 rfl) rfl ?_
        refine r_ishr C (dk oX10_ones 10 rfl) ?_
        refine r_iconst C (dk oX10_ones 11 rfl) (v := nI 1) (by decide) ?_
        refine r_iand C (dk oX10_ones 12 rfl) ?_
        rw [has_bit (by omega) (by omega)]
        refine r_iadd C (dk oX10_ones 13 rfl) ?_
        rw [toI32_ct (p := fun i => a.testBit i)]
        refine r_istore_n (lo' := [(1, _), (0, _), (2, _)]) C (dk oX10_ones 14 rfl) rfl (by decide) rfl ?_
        refine r_iinc (lo' := [(2, _), (1, _), (0, _)]) C 2 (dk oX10_ones 15 rfl) rfl (by first | exact nI_inc _ | rfl) (by decide) rfl ?_
        refine r_goto (tgt := 4) C (dk oX10_ones 16 rfl) (by decide) ?_
        refine V.sub [2, 1, 0] rfl ?_
        exact ih (k_ + 1) (by omega) (by omega)
  refine V.sub [2, 1, 0] rfl ?_
  exact L4 17 0 (by omega) (Nat.zero_le _)

set_option maxHeartbeats 1000000 in
set_option maxRecDepth 100000 in
theorem c_X10_isFact (I : MI) (J : MJ) (x : Int32) : Ci l n ad cA D z 1 yX10_isFact cX10_isFact 1 .boolean I J [.int x] (fun r I' J' => r = b32 (decide (vdN x 12)) ∧ I' = I ∧ J' = J) := by
  refine Ci.of (by decide) (Nat.le_of_ble_eq_true rfl) ?_
  intro p e s m args below meth c A C hin Z Q hret
  refine r_iload_n C 0 (dk oX10_isFact 0 rfl) rfl ?_
  refine r_i2l C (dk oX10_isFact 1 rfl) ?_
  refine r_lconst C (dk oX10_isFact 2 rfl) (v := 0) (by decide) ?_
  refine r_ldc2 C (dk oX10_isFact 3 rfl) kn_X10_259 ?_
  refine r_isi C Z (dk oX10_isFact 4 rfl) cl_X10_131 st_X10_in (c_X10_in I J (x.toInt64) (0) (11)) rfl rfl (Nat.le_of_ble_eq_true rfl) ⟨Nat.le_of_ble_eq_true rfl, Nat.le_of_ble_eq_true rfl⟩ ⟨Nat.zero_le _, Nat.zero_le _⟩ (fun r6 I6 J6 h6 => ?_)
  obtain ⟨h6, e1_, e2_⟩ := h6
  have e1_ := e1_.symm
  have e2_ := e2_.symm
  subst e1_
  subst e2_
  subst h6
  refine hret (dk oX10_isFact 5 rfl) b32_nar ?_
  exact ⟨congrArg b32 (decide_eq_decide.mpr (in_vd (n := 11) (by decide) rfl rfl)), rfl, rfl⟩

set_option maxHeartbeats 1000000 in
set_option maxRecDepth 100000 in
theorem c_X10_isSide (I : MI) (J : MJ) (x : Int32) : Ci l n ad cA D z 1 yX10_isSide cX10_isSide 1 .boolean I J [.int x] (fun r I' J' => r = b32 (decide (vdN x 2)) ∧ I' = I ∧ J' = J) := by
  refine Ci.of (by decide) (Nat.le_of_ble_eq_true rfl) ?_
  intro p e s m args below meth c A C hin Z Q hret
  refine r_iload_n C 0 (dk oX10_isSide 0 rfl) rfl ?_
  refine r_i2l C (dk oX10_isSide 1 rfl) ?_
  refine r_lconst C (dk oX10_isSide 2 rfl) (v := 0) (by decide) ?_
  refine r_lconst C (dk oX10_isSide 3 rfl) (v := 1) (by decide) ?_
  refine r_isi C Z (dk oX10_isSide 4 rfl) cl_X10_131 st_X10_in (c_X10_in I J (x.toInt64) (0) (1)) rfl rfl (Nat.le_of_ble_eq_true rfl) ⟨Nat.le_of_ble_eq_true rfl, Nat.le_of_ble_eq_true rfl⟩ ⟨Nat.zero_le _, Nat.zero_le _⟩ (fun r4 I4 J4 h4 => ?_)
  obtain ⟨h4, e1_, e2_⟩ := h4
  have e1_ := e1_.symm
  have e2_ := e2_.symm
  subst e1_
  subst e2_
  subst h4
  refine hret (dk oX10_isSide 5 rfl) b32_nar ?_
  exact ⟨congrArg b32 (decide_eq_decide.mpr (in_vd (n := 1) (by decide) rfl rfl)), rfl, rfl⟩

set_option maxHeartbeats 1000000 in
set_option maxRecDepth 100000 in
theorem c_X10_isClaim (hn : 148 ≤ n) (I : MI) (J : MJ) (k_ : Nat) (hk : k_ < 2 ^ 31) (hI : I 118 0 = nI k_) (x : Int32) : Ci l n ad cA D z 1 yX10_isClaim cX10_isClaim 2 .boolean I J [.ref (ad 117), .int x] (fun r I' J' => r = b32 (decide (vdN x k_)) ∧ I' = I ∧ J' = J) := by
  refine Ci.of (by decide) (Nat.le_of_ble_eq_true rfl) ?_
  intro p e s m args below meth c A C hin Z Q hret
  refine r_iload_n C 1 (dk oX10_isClaim 0 rfl) rfl ?_
  refine r_i2l C (dk oX10_isClaim 1 rfl) ?_
  refine r_lconst C (dk oX10_isClaim 2 rfl) (v := 0) (by decide) ?_
  refine r_aload_n C 0 (dk oX10_isClaim 3 rfl) rfl ?_
  refine r_getR C (dk oX10_isClaim 4 rfl) fl_X10_7 rfl (km hn rfl) ?_
  refine r_iconst C (dk oX10_isClaim 5 rfl) (v := nI 0) (by decide) ?_
  refine r_iald C 0 (dk oX10_isClaim 6 rfl) rfl (km hn rfl) rfl (by decide) (by decide) ?_
  rw [hI]
  refine r_iconst C (dk oX10_isClaim 7 rfl) (v := nI 1) (by decide) ?_
  refine r_isub C (dk oX10_isClaim 8 rfl) ?_
  refine r_i2l C (dk oX10_isClaim 9 rfl) ?_
  refine r_isi C Z (dk oX10_isClaim 10 rfl) cl_X10_131 st_X10_in (c_X10_in I J (x.toInt64) (0) ((nI k_ - nI 1).toInt64)) rfl rfl (Nat.le_of_ble_eq_true rfl) ⟨Nat.le_of_ble_eq_true rfl, Nat.le_of_ble_eq_true rfl⟩ ⟨Nat.zero_le _, Nat.zero_le _⟩ (fun r12 I12 J12 h12 => ?_)
  obtain ⟨h12, e1_, e2_⟩ := h12
  have e1_ := e1_.symm
  have e2_ := e2_.symm
  subst e1_
  subst e2_
  subst h12
  refine hret (dk oX10_isClaim 11 rfl) b32_nar ?_
  exact ⟨congrArg b32 (decide_eq_decide.mpr (in_vdm hk rfl)), rfl, rfl⟩

set_option maxHeartbeats 1000000 in
set_option maxRecDepth 100000 in
theorem c_X10_isProof (hn : 148 ≤ n) (I : MI) (J : MJ) (k_ : Nat) (hk : k_ < 2 ^ 31) (hI : I 126 0 = nI k_) (x : Int32) : Ci l n ad cA D z 1 yX10_isProof cX10_isProof 2 .boolean I J [.ref (ad 117), .int x] (fun r I' J' => r = b32 (decide (vdN x k_)) ∧ I' = I ∧ J' = J) := by
  refine Ci.of (by decide) (Nat.le_of_ble_eq_true rfl) ?_
  intro p e s m args below meth c A C hin Z Q hret
  refine r_iload_n C 1 (dk oX10_isProof 0 rfl) rfl ?_
  refine r_i2l C (dk oX10_isProof 1 rfl) ?_
  refine r_lconst C (dk oX10_isProof 2 rfl) (v := 0) (by decide) ?_
  refine r_aload_n C 0 (dk oX10_isProof 3 rfl) rfl ?_
  refine r_getR C (dk oX10_isProof 4 rfl) fl_X10_35 rfl (km hn rfl) ?_
  refine r_iconst C (dk oX10_isProof 5 rfl) (v := nI 0) (by decide) ?_
  refine r_iald C 0 (dk oX10_isProof 6 rfl) rfl (km hn rfl) rfl (by decide) (by decide) ?_
  rw [hI]
  refine r_iconst C (dk oX10_isProof 7 rfl) (v := nI 1) (by decide) ?_
  refine r_isub C (dk oX10_isProof 8 rfl) ?_
  refine r_i2l C (dk oX10_isProof 9 rfl) ?_
  refine r_isi C Z (dk oX10_isProof 10 rfl) cl_X10_131 st_X10_in (c_X10_in I J (x.toInt64) (0) ((nI k_ - nI 1).toInt64)) rfl rfl (Nat.le_of_ble_eq_true rfl) ⟨Nat.le_of_ble_eq_true rfl, Nat.le_of_ble_eq_true rfl⟩ ⟨Nat.zero_le _, Nat.zero_le _⟩ (fun r12 I12 J12 h12 => ?_)
  obtain ⟨h12, e1_, e2_⟩ := h12
  have e1_ := e1_.symm
  have e2_ := e2_.symm
  subst e1_
  subst e2_
  subst h12
  refine hret (dk oX10_isProof 11 rfl) b32_nar ?_
  exact ⟨congrArg b32 (decide_eq_decide.mpr (in_vdm hk rfl)), rfl, rfl⟩

set_option maxHeartbeats 1000000 in
set_option maxRecDepth 100000 in
theorem c_X10_free (hn : 148 ≤ n) (I : MI) (J : MJ) (f : Nat) (hf : f < 12) : Cv l n ad cA D z 0 yX10_free cX10_free 2 I J [.ref (ad 117), .int (nI f)] (fun I' J' => fcU I I' 134 f frS ∧ J' = J) := by
  refine Cv.of (by decide) (Nat.le_of_ble_eq_true rfl) ?_
  intro p e s m args below meth c A C hin Z Q hret
  refine r_aload_n C 0 (dk oX10_free 0 rfl) rfl ?_
  refine r_getR C (dk oX10_free 1 rfl) fl_X10_62 rfl (km hn rfl) ?_
  refine r_iload_n C 1 (dk oX10_free 2 rfl) rfl ?_
  refine r_iconst C (dk oX10_free 3 rfl) (v := nI 0) (by decide) ?_
  refine r_iast C _ (dk oX10_free 4 rfl) rfl (km hn rfl) rfl (by omega) (by decide) ?_
  refine r_aload_n C 0 (dk oX10_free 5 rfl) rfl ?_
  refine r_getR C (dk oX10_free 6 rfl) fl_X10_65 rfl (km hn rfl) ?_
  refine r_iload_n C 1 (dk oX10_free 7 rfl) rfl ?_
  refine r_iconst C (dk oX10_free 8 rfl) (v := -1) (by decide) ?_
  refine r_iast C _ (dk oX10_free 9 rfl) rfl (km hn rfl) rfl (by omega) (by decide) ?_
  refine r_aload_n C 0 (dk oX10_free 10 rfl) rfl ?_
  refine r_getR C (dk oX10_free 11 rfl) fl_X10_68 rfl (km hn rfl) ?_
  refine r_iload_n C 1 (dk oX10_free 12 rfl) rfl ?_
  refine r_iconst C (dk oX10_free 13 rfl) (v := -1) (by decide) ?_
  refine r_iast C _ (dk oX10_free 14 rfl) rfl (km hn rfl) rfl (by omega) (by decide) ?_
  refine r_aload_n C 0 (dk oX10_free 15 rfl) rfl ?_
  refine r_getR C (dk oX10_free 16 rfl) fl_X10_71 rfl (km hn rfl) ?_
  refine r_iload_n C 1 (dk oX10_free 17 rfl) rfl ?_
  refine r_iconst C (dk oX10_free 18 rfl) (v := -1) (by decide) ?_
  refine r_iast C _ (dk oX10_free 19 rfl) rfl (km hn rfl) rfl (by omega) (by decide) ?_
  refine r_aload_n C 0 (dk oX10_free 20 rfl) rfl ?_
  refine r_getR C (dk oX10_free 21 rfl) fl_X10_74 rfl (km hn rfl) ?_
  refine r_iload_n C 1 (dk oX10_free 22 rfl) rfl ?_
  refine r_iconst C (dk oX10_free 23 rfl) (v := -1) (by decide) ?_
  refine r_iast C _ (dk oX10_free 24 rfl) rfl (km hn rfl) rfl (by omega) (by decide) ?_
  refine hret (dk oX10_free 25 rfl) ?_
  refine ⟨⟨fun k hk => by rw [up2_ne (by omega), up2_ne (by omega), up2_ne (by omega), up2_ne (by omega), up2_ne (by omega)], five ?_ ?_ ?_ ?_ ?_⟩, rfl⟩
  all_goals (intro g; by_cases e : g = f <;> simp [up2_ap, frS, e])

set_option maxHeartbeats 1000000 in
set_option maxRecDepth 100000 in
theorem c_X10_mayBe (hn : 148 ≤ n) (I : MI) (J : MJ) (f a p_ : Nat) (hf : f < 12) (ha : 0 < a ∧ a ≤ 6) (hok : fsOK (fun i => I (134 + 1 + i) f)) : Ci l n ad cA D z 0 yX10_mayBe cX10_mayBe 4 .boolean I J [.ref (ad 117), .int (nI a), .int (nI f), .int (nI (p_ % 2))] (fun r I' J' => r = b32 (alw a p_ (fun i => I (134 + 1 + i) f)) ∧ I' = I ∧ J' = J) := by
  refine Ci.of (by decide) (Nat.le_of_ble_eq_true rfl) ?_
  intro p e s m args below meth c A C hin Z Q hret
  refine r_iload_n C 1 (dk oX10_mayBe 0 rfl) rfl ?_
  refine r_iconst C (dk oX10_mayBe 1 rfl) (v := nI 1) (by decide) ?_
  refine r_icmp_eq (tgt := 10) C (dk oX10_mayBe 2 rfl) (by decide) (fun hb2 => ?_) (fun hb2 => ?_)
  · simp (disch := omega) only [nI_leI, nI_ltI, nI_eq, nI_eq0] at hb2
    refine r_aload_n C 0 (dk oX10_mayBe 6 rfl) rfl ?_
    refine r_getR C (dk oX10_mayBe 7 rfl) fl_X10_62 rfl (km hn rfl) ?_
    refine r_iload_n C 2 (dk oX10_mayBe 8 rfl) rfl ?_
    refine r_iald C _ (dk oX10_mayBe 9 rfl) rfl (km hn rfl) rfl (by omega) (by decide) ?_
    refine r_if_ne (tgt := 23) C (dk oX10_mayBe 10 rfl) (by decide) (fun hb16 => ?_) (fun hb16 => ?_)
    · refine r_iconst C (dk oX10_mayBe 13 rfl) (v := nI 0) (by decide) ?_
      refine hret (dk oX10_mayBe 14 rfl) (by first | rfl | decide) ?_
      refine ⟨?_, rfl, rfl⟩
      rw [mb_1 (by omega)]
      first | exact b32_dt hb16 | exact b32_df hb16
    · refine r_iconst C (dk oX10_mayBe 11 rfl) (v := nI 1) (by decide) ?_
      refine r_goto (tgt := 24) C (dk oX10_mayBe 12 rfl) (by decide) ?_
      refine hret (dk oX10_mayBe 14 rfl) (by first | rfl | decide) ?_
      refine ⟨?_, rfl, rfl⟩
      rw [mb_1 (by omega)]
      first | exact b32_dt hb16 | exact b32_df hb16
  · simp (disch := omega) only [nI_leI, nI_ltI, nI_eq, nI_eq0] at hb2
    refine r_iload_n C 1 (dk oX10_mayBe 3 rfl) rfl ?_
    refine r_iconst C (dk oX10_mayBe 4 rfl) (v := nI 2) (by decide) ?_
    refine r_icmp_ne (tgt := 25) C (dk oX10_mayBe 5 rfl) (by decide) (fun hb7 => ?_) (fun hb7 => ?_)
    · simp (disch := omega) only [nI_leI, nI_ltI, nI_eq, nI_eq0] at hb7
      refine r_iload_n C 1 (dk oX10_mayBe 15 rfl) rfl ?_
      refine r_bipush C (dk oX10_mayBe 16 rfl) (v := nI 6) (by decide) ?_
      refine r_icmp_ne (tgt := 57) C (dk oX10_mayBe 17 rfl) (by decide) (fun hb28 => ?_) (fun hb28 => ?_)
      · simp (disch := omega) only [nI_leI, nI_ltI, nI_eq, nI_eq0] at hb28
        refine r_aload_n C 0 (dk oX10_mayBe 34 rfl) rfl ?_
        refine r_getR C (dk oX10_mayBe 35 rfl) fl_X10_62 rfl (km hn rfl) ?_
        refine r_iload_n C 2 (dk oX10_mayBe 36 rfl) rfl ?_
        refine r_iald C _ (dk oX10_mayBe 37 rfl) rfl (km hn rfl) rfl (by omega) (by decide) ?_
        refine r_iconst C (dk oX10_mayBe 38 rfl) (v := nI 1) (by decide) ?_
        refine r_icmp_ne (tgt := 81) C (dk oX10_mayBe 39 rfl) (by decide) (fun hb64 => ?_) (fun hb64 => ?_)
        · refine r_iconst C (dk oX10_mayBe 48 rfl) (v := nI 0) (by decide) ?_
          refine hret (dk oX10_mayBe 49 rfl) (by first | rfl | decide) ?_
          refine ⟨?_, rfl, rfl⟩
          rw [mb_o hok (by omega) hb28]
          first
            | exact b32_dt ⟨hb64, hb74⟩
            | exact b32_df (fun q => hb64 q.1)
            | exact b32_df (fun q => q.2 hb74)
        · refine r_aload_n C 0 (dk oX10_mayBe 40 rfl) rfl ?_
          refine r_getR C (dk oX10_mayBe 41 rfl) fl_X10_68 rfl (km hn rfl) ?_
          refine r_iload_n C 2 (dk oX10_mayBe 42 rfl) rfl ?_
          refine r_iald C _ (dk oX10_mayBe 43 rfl) rfl (km hn rfl) rfl (by omega) (by decide) ?_
          refine r_iload_n C 3 (dk oX10_mayBe 44 rfl) rfl ?_
          refine r_icmp_eq (tgt := 81) C (dk oX10_mayBe 45 rfl) (by decide) (fun hb74 => ?_) (fun hb74 => ?_)
          · refine r_iconst C (dk oX10_mayBe 48 rfl) (v := nI 0) (by decide) ?_
            refine hret (dk oX10_mayBe 49 rfl) (by first | rfl | decide) ?_
            refine ⟨?_, rfl, rfl⟩
            rw [mb_o hok (by omega) hb28]
            first
              | exact b32_dt ⟨hb64, hb74⟩
              | exact b32_df (fun q => hb64 q.1)
              | exact b32_df (fun q => q.2 hb74)
          · refine r_iconst C (dk oX10_mayBe 46 rfl) (v := nI 1) (by decide) ?_
            refine r_goto (tgt := 82) C (dk oX10_mayBe 47 rfl) (by decide) ?_
            refine hret (dk oX10_mayBe 49 rfl) (by first | rfl | decide) ?_
            refine ⟨?_, rfl, rfl⟩
            rw [mb_o hok (by omega) hb28]
            first
              | exact b32_dt ⟨hb64, hb74⟩
              | exact b32_df (fun q => hb64 q.1)
              | exact b32_df (fun q => q.2 hb74)
      · simp (disch := omega) only [nI_leI, nI_ltI, nI_eq, nI_eq0] at hb28
        refine r_aload_n C 0 (dk oX10_mayBe 18 rfl) rfl ?_
        refine r_getR C (dk oX10_mayBe 19 rfl) fl_X10_68 rfl (km hn rfl) ?_
        refine r_iload_n C 2 (dk oX10_mayBe 20 rfl) rfl ?_
        refine r_iald C _ (dk oX10_mayBe 21 rfl) rfl (km hn rfl) rfl (by omega) (by decide) ?_
        refine r_iload_n C 3 (dk oX10_mayBe 22 rfl) rfl ?_
        refine r_icmp_ne (tgt := 55) C (dk oX10_mayBe 23 rfl) (by decide) (fun hb38 => ?_) (fun hb38 => ?_)
        · refine r_iconst C (dk oX10_mayBe 32 rfl) (v := nI 0) (by decide) ?_
          refine hret (dk oX10_mayBe 33 rfl) (by first | rfl | decide) ?_
          refine ⟨?_, rfl, rfl⟩
          subst hb28
          rw [mb_6 hok]
          first
            | exact b32_dt ⟨hb38, hb48⟩
            | exact b32_df (fun q => hb38 q.1)
            | exact b32_df (fun q => q.2 hb48)
        · refine r_aload_n C 0 (dk oX10_mayBe 24 rfl) rfl ?_
          refine r_getR C (dk oX10_mayBe 25 rfl) fl_X10_62 rfl (km hn rfl) ?_
          refine r_iload_n C 2 (dk oX10_mayBe 26 rfl) rfl ?_
          refine r_iald C _ (dk oX10_mayBe 27 rfl) rfl (km hn rfl) rfl (by omega) (by decide) ?_
          refine r_iconst C (dk oX10_mayBe 28 rfl) (v := nI 2) (by decide) ?_
          refine r_icmp_eq (tgt := 55) C (dk oX10_mayBe 29 rfl) (by decide) (fun hb48 => ?_) (fun hb48 => ?_)
          · refine r_iconst C (dk oX10_mayBe 32 rfl) (v := nI 0) (by decide) ?_
            refine hret (dk oX10_mayBe 33 rfl) (by first | rfl | decide) ?_
            refine ⟨?_, rfl, rfl⟩
            subst hb28
            rw [mb_6 hok]
            first
              | exact b32_dt ⟨hb38, hb48⟩
              | exact b32_df (fun q => hb38 q.1)
              | exact b32_df (fun q => q.2 hb48)
          · refine r_iconst C (dk oX10_mayBe 30 rfl) (v := nI 1) (by decide) ?_
            refine r_goto (tgt := 56) C (dk oX10_mayBe 31 rfl) (by decide) ?_
            refine hret (dk oX10_mayBe 33 rfl) (by first | rfl | decide) ?_
            refine ⟨?_, rfl, rfl⟩
            subst hb28
            rw [mb_6 hok]
            first
              | exact b32_dt ⟨hb38, hb48⟩
              | exact b32_df (fun q => hb38 q.1)
              | exact b32_df (fun q => q.2 hb48)
    · simp (disch := omega) only [nI_leI, nI_ltI, nI_eq, nI_eq0] at hb7
      refine r_aload_n C 0 (dk oX10_mayBe 6 rfl) rfl ?_
      refine r_getR C (dk oX10_mayBe 7 rfl) fl_X10_62 rfl (km hn rfl) ?_
      refine r_iload_n C 2 (dk oX10_mayBe 8 rfl) rfl ?_
      refine r_iald C _ (dk oX10_mayBe 9 rfl) rfl (km hn rfl) rfl (by omega) (by decide) ?_
      refine r_if_ne (tgt := 23) C (dk oX10_mayBe 10 rfl) (by decide) (fun hb16 => ?_) (fun hb16 => ?_)
      · refine r_iconst C (dk oX10_mayBe 13 rfl) (v := nI 0) (by decide) ?_
        refine hret (dk oX10_mayBe 14 rfl) (by first | rfl | decide) ?_
        refine ⟨?_, rfl, rfl⟩
        rw [mb_1 (by omega)]
        first | exact b32_dt hb16 | exact b32_df hb16
      · refine r_iconst C (dk oX10_mayBe 11 rfl) (v := nI 1) (by decide) ?_
        refine r_goto (tgt := 24) C (dk oX10_mayBe 12 rfl) (by decide) ?_
        refine hret (dk oX10_mayBe 14 rfl) (by first | rfl | decide) ?_
        refine ⟨?_, rfl, rfl⟩
        rw [mb_1 (by omega)]
        first | exact b32_dt hb16 | exact b32_df hb16

set_option maxHeartbeats 1000000 in
set_option maxRecDepth 100000 in
theorem c_X10_act (hn : 148 ≤ n) (I : MI) (J : MJ) (f a p_ : Nat) (hf : f < 12) (hp : p_ < 10) (ha : 0 < a ∧ a ≤ 6) : Cv l n ad cA D z 1 yX10_act cX10_act 4 I J [.ref (ad 117), .int (nI a), .int (nI f), .int (nI p_)] (fun I' J' => fcU I I' 134 f (app a p_ (fun i => I (134 + 1 + i) f)) ∧ J' = J) := by
  refine Cv.of (by decide) (Nat.le_of_ble_eq_true rfl) ?_
  intro p e s m args below meth c A C hin Z Q hret
  refine r_iload_n C 1 (dk oX10_act 0 rfl) rfl ?_
  rcases (by omega : a = 1 ∨ a = 2 ∨ a = 3 ∨ a = 4 ∨ a = 5 ∨ a = 6) with rfl | rfl | rfl | rfl | rfl | rfl
  · refine r_lookup (off := 35) (tgt := 36) C (dk oX10_act 1 rfl) (by decide) (by decide) (by decide) ?_
    refine r_aload_n C 0 (dk oX10_act 2 rfl) rfl ?_
    refine r_getR C (dk oX10_act 3 rfl) fl_X10_62 rfl (km hn rfl) ?_
    refine r_iload_n C 2 (dk oX10_act 4 rfl) rfl ?_
    refine r_iconst C (dk oX10_act 5 rfl) (v := nI 1) (by decide) ?_
    refine r_iast C _ (dk oX10_act 6 rfl) rfl (km hn rfl) rfl (by omega) (by decide) ?_
    refine r_aload_n C 0 (dk oX10_act 7 rfl) rfl ?_
    refine r_getR C (dk oX10_act 8 rfl) fl_X10_65 rfl (km hn rfl) ?_
    refine r_iload_n C 2 (dk oX10_act 9 rfl) rfl ?_
    refine r_iload_n C 1 (dk oX10_act 10 rfl) rfl ?_
    refine r_iconst C (dk oX10_act 11 rfl) (v := nI 1) (by decide) ?_
    refine r_icmp_ne (tgt := 57) C (dk oX10_act 12 rfl) (by decide) (fun hb50 => ?_) (fun hb50 => ?_)
    · first
        | exact absurd rfl hb50
        | refine r_iconst C (dk oX10_act 15 rfl) (v := nI 0) (by decide) ?_
          refine r_topI (show nI 0 = b32 false from rfl) ?_
          refine r_isi C Z (dk oX10_act 16 rfl) cl_X10_109 st_X10_one (c_X10_one _ J _) rfl rfl (Nat.le_of_ble_eq_true rfl) ⟨Nat.le_of_ble_eq_true rfl, Nat.le_of_ble_eq_true rfl⟩ ⟨Nat.zero_le _, Nat.zero_le _⟩ (fun r58 I58 J58 h58 => ?_)
          obtain ⟨h58, e1_, e2_⟩ := h58
          have e1_ := e1_.symm
          have e2_ := e2_.symm
          subst e1_
          subst e2_
          subst h58
          refine r_iast C _ (dk oX10_act 17 rfl) rfl (km hn rfl) rfl (by omega) (by decide) ?_
          refine r_aload_n C 0 (dk oX10_act 18 rfl) rfl ?_
          refine r_getR C (dk oX10_act 19 rfl) fl_X10_68 rfl (km hn rfl) ?_
          refine r_iload_n C 2 (dk oX10_act 20 rfl) rfl ?_
          refine r_iload_n C 3 (dk oX10_act 21 rfl) rfl ?_
          refine r_iconst C (dk oX10_act 22 rfl) (v := nI 2) (by decide) ?_
          refine r_irem C (dk oX10_act 23 rfl) (by decide) ?_
          rw [mod2 (by omega)]
          refine r_iast C _ (dk oX10_act 24 rfl) rfl (km hn rfl) rfl (by omega) (by decide) ?_
          refine r_aload_n C 0 (dk oX10_act 25 rfl) rfl ?_
          refine r_getR C (dk oX10_act 26 rfl) fl_X10_71 rfl (km hn rfl) ?_
          refine r_iload_n C 2 (dk oX10_act 27 rfl) rfl ?_
          refine r_iload_n C 3 (dk oX10_act 28 rfl) rfl ?_
          refine r_iast C _ (dk oX10_act 29 rfl) rfl (km hn rfl) rfl (by omega) (by decide) ?_
          refine r_goto (tgt := 121) C (dk oX10_act 30 rfl) (by decide) ?_
          refine hret (dk oX10_act 55 rfl) ?_
          first
            | exact h83
            | (refine ⟨⟨fun k hk => by rw [up2_ne (by omega), up2_ne (by omega), up2_ne (by omega), up2_ne (by omega)], five ?_ ?_ ?_ ?_ ?_⟩, rfl⟩
               all_goals (intro g; by_cases e : g = f <;> simp [up2_ap, app, b32, e]))
            | (refine ⟨⟨fun k hk => by rw [up2_ne (by omega), up2_ne (by omega)], five ?_ ?_ ?_ ?_ ?_⟩, rfl⟩
               all_goals (intro g; by_cases e : g = f <;> simp [up2_ap, app, ans, e]))
    · first
        | exact absurd hb50 (by decide)
        | refine r_iconst C (dk oX10_act 13 rfl) (v := nI 1) (by decide) ?_
          refine r_topI (show nI 1 = b32 true from rfl) ?_
          refine r_goto (tgt := 58) C (dk oX10_act 14 rfl) (by decide) ?_
          refine r_isi C Z (dk oX10_act 16 rfl) cl_X10_109 st_X10_one (c_X10_one _ J _) rfl rfl (Nat.le_of_ble_eq_true rfl) ⟨Nat.le_of_ble_eq_true rfl, Nat.le_of_ble_eq_true rfl⟩ ⟨Nat.zero_le _, Nat.zero_le _⟩ (fun r58 I58 J58 h58 => ?_)
          obtain ⟨h58, e1_, e2_⟩ := h58
          have e1_ := e1_.symm
          have e2_ := e2_.symm
          subst e1_
          subst e2_
          subst h58
          refine r_iast C _ (dk oX10_act 17 rfl) rfl (km hn rfl) rfl (by omega) (by decide) ?_
          refine r_aload_n C 0 (dk oX10_act 18 rfl) rfl ?_
          refine r_getR C (dk oX10_act 19 rfl) fl_X10_68 rfl (km hn rfl) ?_
          refine r_iload_n C 2 (dk oX10_act 20 rfl) rfl ?_
          refine r_iload_n C 3 (dk oX10_act 21 rfl) rfl ?_
          refine r_iconst C (dk oX10_act 22 rfl) (v := nI 2) (by decide) ?_
          refine r_irem C (dk oX10_act 23 rfl) (by decide) ?_
          rw [mod2 (by omega)]
          refine r_iast C _ (dk oX10_act 24 rfl) rfl (km hn rfl) rfl (by omega) (by decide) ?_
          refine r_aload_n C 0 (dk oX10_act 25 rfl) rfl ?_
          refine r_getR C (dk oX10_act 26 rfl) fl_X10_71 rfl (km hn rfl) ?_
          refine r_iload_n C 2 (dk oX10_act 27 rfl) rfl ?_
          refine r_iload_n C 3 (dk oX10_act 28 rfl) rfl ?_
          refine r_iast C _ (dk oX10_act 29 rfl) rfl (km hn rfl) rfl (by omega) (by decide) ?_
          refine r_goto (tgt := 121) C (dk oX10_act 30 rfl) (by decide) ?_
          refine hret (dk oX10_act 55 rfl) ?_
          first
            | exact h83
            | (refine ⟨⟨fun k hk => by rw [up2_ne (by omega), up2_ne (by omega), up2_ne (by omega), up2_ne (by omega)], five ?_ ?_ ?_ ?_ ?_⟩, rfl⟩
               all_goals (intro g; by_cases e : g = f <;> simp [up2_ap, app, b32, e]))
            | (refine ⟨⟨fun k hk => by rw [up2_ne (by omega), up2_ne (by omega)], five ?_ ?_ ?_ ?_ ?_⟩, rfl⟩
               all_goals (intro g; by_cases e : g = f <;> simp [up2_ap, app, ans, e]))
  · refine r_lookup (off := 35) (tgt := 36) C (dk oX10_act 1 rfl) (by decide) (by decide) (by decide) ?_
    refine r_aload_n C 0 (dk oX10_act 2 rfl) rfl ?_
    refine r_getR C (dk oX10_act 3 rfl) fl_X10_62 rfl (km hn rfl) ?_
    refine r_iload_n C 2 (dk oX10_act 4 rfl) rfl ?_
    refine r_iconst C (dk oX10_act 5 rfl) (v := nI 1) (by decide) ?_
    refine r_iast C _ (dk oX10_act 6 rfl) rfl (km hn rfl) rfl (by omega) (by decide) ?_
    refine r_aload_n C 0 (dk oX10_act 7 rfl) rfl ?_
    refine r_getR C (dk oX10_act 8 rfl) fl_X10_65 rfl (km hn rfl) ?_
    refine r_iload_n C 2 (dk oX10_act 9 rfl) rfl ?_
    refine r_iload_n C 1 (dk oX10_act 10 rfl) rfl ?_
    refine r_iconst C (dk oX10_act 11 rfl) (v := nI 1) (by decide) ?_
    refine r_icmp_ne (tgt := 57) C (dk oX10_act 12 rfl) (by decide) (fun hb50 => ?_) (fun hb50 => ?_)
    · first
        | exact absurd rfl hb50
        | refine r_iconst C (dk oX10_act 15 rfl) (v := nI 0) (by decide) ?_
          refine r_topI (show nI 0 = b32 false from rfl) ?_
          refine r_isi C Z (dk oX10_act 16 rfl) cl_X10_109 st_X10_one (c_X10_one _ J _) rfl rfl (Nat.le_of_ble_eq_true rfl) ⟨Nat.le_of_ble_eq_true rfl, Nat.le_of_ble_eq_true rfl⟩ ⟨Nat.zero_le _, Nat.zero_le _⟩ (fun r58 I58 J58 h58 => ?_)
          obtain ⟨h58, e1_, e2_⟩ := h58
          have e1_ := e1_.symm
          have e2_ := e2_.symm
          subst e1_
          subst e2_
          subst h58
          refine r_iast C _ (dk oX10_act 17 rfl) rfl (km hn rfl) rfl (by omega) (by decide) ?_
          refine r_aload_n C 0 (dk oX10_act 18 rfl) rfl ?_
          refine r_getR C (dk oX10_act 19 rfl) fl_X10_68 rfl (km hn rfl) ?_
          refine r_iload_n C 2 (dk oX10_act 20 rfl) rfl ?_
          refine r_iload_n C 3 (dk oX10_act 21 rfl) rfl ?_
          refine r_iconst C (dk oX10_act 22 rfl) (v := nI 2) (by decide) ?_
          refine r_irem C (dk oX10_act 23 rfl) (by decide) ?_
          rw [mod2 (by omega)]
          refine r_iast C _ (dk oX10_act 24 rfl) rfl (km hn rfl) rfl (by omega) (by decide) ?_
          refine r_aload_n C 0 (dk oX10_act 25 rfl) rfl ?_
          refine r_getR C (dk oX10_act 26 rfl) fl_X10_71 rfl (km hn rfl) ?_
          refine r_iload_n C 2 (dk oX10_act 27 rfl) rfl ?_
          refine r_iload_n C 3 (dk oX10_act 28 rfl) rfl ?_
          refine r_iast C _ (dk oX10_act 29 rfl) rfl (km hn rfl) rfl (by omega) (by decide) ?_
          refine r_goto (tgt := 121) C (dk oX10_act 30 rfl) (by decide) ?_
          refine hret (dk oX10_act 55 rfl) ?_
          first
            | exact h83
            | (refine ⟨⟨fun k hk => by rw [up2_ne (by omega), up2_ne (by omega), up2_ne (by omega), up2_ne (by omega)], five ?_ ?_ ?_ ?_ ?_⟩, rfl⟩
               all_goals (intro g; by_cases e : g = f <;> simp [up2_ap, app, b32, e]))
            | (refine ⟨⟨fun k hk => by rw [up2_ne (by omega), up2_ne (by omega)], five ?_ ?_ ?_ ?_ ?_⟩, rfl⟩
               all_goals (intro g; by_cases e : g = f <;> simp [up2_ap, app, ans, e]))
    · first
        | exact absurd hb50 (by decide)
        | refine r_iconst C (dk oX10_act 13 rfl) (v := nI 1) (by decide) ?_
          refine r_topI (show nI 1 = b32 true from rfl) ?_
          refine r_goto (tgt := 58) C (dk oX10_act 14 rfl) (by decide) ?_
          refine r_isi C Z (dk oX10_act 16 rfl) cl_X10_109 st_X10_one (c_X10_one _ J _) rfl rfl (Nat.le_of_ble_eq_true rfl) ⟨Nat.le_of_ble_eq_true rfl, Nat.le_of_ble_eq_true rfl⟩ ⟨Nat.zero_le _, Nat.zero_le _⟩ (fun r58 I58 J58 h58 => ?_)
          obtain ⟨h58, e1_, e2_⟩ := h58
          have e1_ := e1_.symm
          have e2_ := e2_.symm
          subst e1_
          subst e2_
          subst h58
          refine r_iast C _ (dk oX10_act 17 rfl) rfl (km hn rfl) rfl (by omega) (by decide) ?_
          refine r_aload_n C 0 (dk oX10_act 18 rfl) rfl ?_
          refine r_getR C (dk oX10_act 19 rfl) fl_X10_68 rfl (km hn rfl) ?_
          refine r_iload_n C 2 (dk oX10_act 20 rfl) rfl ?_
          refine r_iload_n C 3 (dk oX10_act 21 rfl) rfl ?_
          refine r_iconst C (dk oX10_act 22 rfl) (v := nI 2) (by decide) ?_
          refine r_irem C (dk oX10_act 23 rfl) (by decide) ?_
          rw [mod2 (by omega)]
          refine r_iast C _ (dk oX10_act 24 rfl) rfl (km hn rfl) rfl (by omega) (by decide) ?_
          refine r_aload_n C 0 (dk oX10_act 25 rfl) rfl ?_
          refine r_getR C (dk oX10_act 26 rfl) fl_X10_71 rfl (km hn rfl) ?_
          refine r_iload_n C 2 (dk oX10_act 27 rfl) rfl ?_
          refine r_iload_n C 3 (dk oX10_act 28 rfl) rfl ?_
          refine r_iast C _ (dk oX10_act 29 rfl) rfl (km hn rfl) rfl (by omega) (by decide) ?_
          refine r_goto (tgt := 121) C (dk oX10_act 30 rfl) (by decide) ?_
          refine hret (dk oX10_act 55 rfl) ?_
          first
            | exact h83
            | (refine ⟨⟨fun k hk => by rw [up2_ne (by omega), up2_ne (by omega), up2_ne (by omega), up2_ne (by omega)], five ?_ ?_ ?_ ?_ ?_⟩, rfl⟩
               all_goals (intro g; by_cases e : g = f <;> simp [up2_ap, app, b32, e]))
            | (refine ⟨⟨fun k hk => by rw [up2_ne (by omega), up2_ne (by omega)], five ?_ ?_ ?_ ?_ ?_⟩, rfl⟩
               all_goals (intro g; by_cases e : g = f <;> simp [up2_ap, app, ans, e]))
  · refine r_lookup (off := 88) (tgt := 89) C (dk oX10_act 1 rfl) (by decide) (by decide) (by decide) ?_
    refine r_aload_n C 0 (dk oX10_act 35 rfl) rfl ?_
    refine r_getR C (dk oX10_act 36 rfl) fl_X10_62 rfl (km hn rfl) ?_
    refine r_iload_n C 2 (dk oX10_act 37 rfl) rfl ?_
    refine r_iload_n C 1 (dk oX10_act 38 rfl) rfl ?_
    refine r_iconst C (dk oX10_act 39 rfl) (v := nI 3) (by decide) ?_
    refine r_icmp_ne (tgt := 103) C (dk oX10_act 40 rfl) (by decide) (fun hb96 => ?_) (fun hb96 => ?_)
    · first
        | exact absurd rfl hb96
        | refine r_iload_n C 1 (dk oX10_act 43 rfl) rfl ?_
          refine r_iconst C (dk oX10_act 44 rfl) (v := nI 4) (by decide) ?_
          refine r_icmp_ne (tgt := 112) C (dk oX10_act 45 rfl) (by decide) (fun hb105 => ?_) (fun hb105 => ?_)
          · first
              | exact absurd rfl hb105
              | refine r_iconst C (dk oX10_act 48 rfl) (v := nI 4) (by decide) ?_
                refine r_iast C _ (dk oX10_act 49 rfl) rfl (km hn rfl) rfl (by omega) (by decide) ?_
                refine r_aload_n C 0 (dk oX10_act 50 rfl) rfl ?_
                refine r_getR C (dk oX10_act 51 rfl) fl_X10_74 rfl (km hn rfl) ?_
                refine r_iload_n C 2 (dk oX10_act 52 rfl) rfl ?_
                refine r_iload_n C 3 (dk oX10_act 53 rfl) rfl ?_
                refine r_iast C _ (dk oX10_act 54 rfl) rfl (km hn rfl) rfl (by omega) (by decide) ?_
                refine hret (dk oX10_act 55 rfl) ?_
                first
                  | exact h83
                  | (refine ⟨⟨fun k hk => by rw [up2_ne (by omega), up2_ne (by omega), up2_ne (by omega), up2_ne (by omega)], five ?_ ?_ ?_ ?_ ?_⟩, rfl⟩
                     all_goals (intro g; by_cases e : g = f <;> simp [up2_ap, app, b32, e]))
                  | (refine ⟨⟨fun k hk => by rw [up2_ne (by omega), up2_ne (by omega)], five ?_ ?_ ?_ ?_ ?_⟩, rfl⟩
                     all_goals (intro g; by_cases e : g = f <;> simp [up2_ap, app, ans, e]))
          · first
              | exact absurd hb105 (by decide)
              | refine r_iconst C (dk oX10_act 46 rfl) (v := nI 3) (by decide) ?_
                refine r_goto (tgt := 113) C (dk oX10_act 47 rfl) (by decide) ?_
                refine r_iast C _ (dk oX10_act 49 rfl) rfl (km hn rfl) rfl (by omega) (by decide) ?_
                refine r_aload_n C 0 (dk oX10_act 50 rfl) rfl ?_
                refine r_getR C (dk oX10_act 51 rfl) fl_X10_74 rfl (km hn rfl) ?_
                refine r_iload_n C 2 (dk oX10_act 52 rfl) rfl ?_
                refine r_iload_n C 3 (dk oX10_act 53 rfl) rfl ?_
                refine r_iast C _ (dk oX10_act 54 rfl) rfl (km hn rfl) rfl (by omega) (by decide) ?_
                refine hret (dk oX10_act 55 rfl) ?_
                first
                  | exact h83
                  | (refine ⟨⟨fun k hk => by rw [up2_ne (by omega), up2_ne (by omega), up2_ne (by omega), up2_ne (by omega)], five ?_ ?_ ?_ ?_ ?_⟩, rfl⟩
                     all_goals (intro g; by_cases e : g = f <;> simp [up2_ap, app, b32, e]))
                  | (refine ⟨⟨fun k hk => by rw [up2_ne (by omega), up2_ne (by omega)], five ?_ ?_ ?_ ?_ ?_⟩, rfl⟩
                     all_goals (intro g; by_cases e : g = f <;> simp [up2_ap, app, ans, e]))
    · first
        | exact absurd hb96 (by decide)
        | refine r_iconst C (dk oX10_act 41 rfl) (v := nI 2) (by decide) ?_
          refine r_goto (tgt := 113) C (dk oX10_act 42 rfl) (by decide) ?_
          refine r_iast C _ (dk oX10_act 49 rfl) rfl (km hn rfl) rfl (by omega) (by decide) ?_
          refine r_aload_n C 0 (dk oX10_act 50 rfl) rfl ?_
          refine r_getR C (dk oX10_act 51 rfl) fl_X10_74 rfl (km hn rfl) ?_
          refine r_iload_n C 2 (dk oX10_act 52 rfl) rfl ?_
          refine r_iload_n C 3 (dk oX10_act 53 rfl) rfl ?_
          refine r_iast C _ (dk oX10_act 54 rfl) rfl (km hn rfl) rfl (by omega) (by decide) ?_
          refine hret (dk oX10_act 55 rfl) ?_
          first
            | exact h83
            | (refine ⟨⟨fun k hk => by rw [up2_ne (by omega), up2_ne (by omega), up2_ne (by omega), up2_ne (by omega)], five ?_ ?_ ?_ ?_ ?_⟩, rfl⟩
               all_goals (intro g; by_cases e : g = f <;> simp [up2_ap, app, b32, e]))
            | (refine ⟨⟨fun k hk => by rw [up2_ne (by omega), up2_ne (by omega)], five ?_ ?_ ?_ ?_ ?_⟩, rfl⟩
               all_goals (intro g; by_cases e : g = f <;> simp [up2_ap, app, ans, e]))
  · refine r_lookup (off := 88) (tgt := 89) C (dk oX10_act 1 rfl) (by decide) (by decide) (by decide) ?_
    refine r_aload_n C 0 (dk oX10_act 35 rfl) rfl ?_
    refine r_getR C (dk oX10_act 36 rfl) fl_X10_62 rfl (km hn rfl) ?_
    refine r_iload_n C 2 (dk oX10_act 37 rfl) rfl ?_
    refine r_iload_n C 1 (dk oX10_act 38 rfl) rfl ?_
    refine r_iconst C (dk oX10_act 39 rfl) (v := nI 3) (by decide) ?_
    refine r_icmp_ne (tgt := 103) C (dk oX10_act 40 rfl) (by decide) (fun hb96 => ?_) (fun hb96 => ?_)
    · first
        | exact absurd rfl hb96
        | refine r_iload_n C 1 (dk oX10_act 43 rfl) rfl ?_
          refine r_iconst C (dk oX10_act 44 rfl) (v := nI 4) (by decide) ?_
          refine r_icmp_ne (tgt := 112) C (dk oX10_act 45 rfl) (by decide) (fun hb105 => ?_) (fun hb105 => ?_)
          · first
              | exact absurd rfl hb105
              | refine r_iconst C (dk oX10_act 48 rfl) (v := nI 4) (by decide) ?_
                refine r_iast C _ (dk oX10_act 49 rfl) rfl (km hn rfl) rfl (by omega) (by decide) ?_
                refine r_aload_n C 0 (dk oX10_act 50 rfl) rfl ?_
                refine r_getR C (dk oX10_act 51 rfl) fl_X10_74 rfl (km hn rfl) ?_
                refine r_iload_n C 2 (dk oX10_act 52 rfl) rfl ?_
                refine r_iload_n C 3 (dk oX10_act 53 rfl) rfl ?_
                refine r_iast C _ (dk oX10_act 54 rfl) rfl (km hn rfl) rfl (by omega) (by decide) ?_
                refine hret (dk oX10_act 55 rfl) ?_
                first
                  | exact h83
                  | (refine ⟨⟨fun k hk => by rw [up2_ne (by omega), up2_ne (by omega), up2_ne (by omega), up2_ne (by omega)], five ?_ ?_ ?_ ?_ ?_⟩, rfl⟩
                     all_goals (intro g; by_cases e : g = f <;> simp [up2_ap, app, b32, e]))
                  | (refine ⟨⟨fun k hk => by rw [up2_ne (by omega), up2_ne (by omega)], five ?_ ?_ ?_ ?_ ?_⟩, rfl⟩
                     all_goals (intro g; by_cases e : g = f <;> simp [up2_ap, app, ans, e]))
          · first
              | exact absurd hb105 (by decide)
              | refine r_iconst C (dk oX10_act 46 rfl) (v := nI 3) (by decide) ?_
                refine r_goto (tgt := 113) C (dk oX10_act 47 rfl) (by decide) ?_
                refine r_iast C _ (dk oX10_act 49 rfl) rfl (km hn rfl) rfl (by omega) (by decide) ?_
                refine r_aload_n C 0 (dk oX10_act 50 rfl) rfl ?_
                refine r_getR C (dk oX10_act 51 rfl) fl_X10_74 rfl (km hn rfl) ?_
                refine r_iload_n C 2 (dk oX10_act 52 rfl) rfl ?_
                refine r_iload_n C 3 (dk oX10_act 53 rfl) rfl ?_
                refine r_iast C _ (dk oX10_act 54 rfl) rfl (km hn rfl) rfl (by omega) (by decide) ?_
                refine hret (dk oX10_act 55 rfl) ?_
                first
                  | exact h83
                  | (refine ⟨⟨fun k hk => by rw [up2_ne (by omega), up2_ne (by omega), up2_ne (by omega), up2_ne (by omega)], five ?_ ?_ ?_ ?_ ?_⟩, rfl⟩
                     all_goals (intro g; by_cases e : g = f <;> simp [up2_ap, app, b32, e]))
                  | (refine ⟨⟨fun k hk => by rw [up2_ne (by omega), up2_ne (by omega)], five ?_ ?_ ?_ ?_ ?_⟩, rfl⟩
                     all_goals (intro g; by_cases e : g = f <;> simp [up2_ap, app, ans, e]))
    · first
        | exact absurd hb96 (by decide)
        | refine r_iconst C (dk oX10_act 41 rfl) (v := nI 2) (by decide) ?_
          refine r_goto (tgt := 113) C (dk oX10_act 42 rfl) (by decide) ?_
          refine r_iast C _ (dk oX10_act 49 rfl) rfl (km hn rfl) rfl (by omega) (by decide) ?_
          refine r_aload_n C 0 (dk oX10_act 50 rfl) rfl ?_
          refine r_getR C (dk oX10_act 51 rfl) fl_X10_74 rfl (km hn rfl) ?_
          refine r_iload_n C 2 (dk oX10_act 52 rfl) rfl ?_
          refine r_iload_n C 3 (dk oX10_act 53 rfl) rfl ?_
          refine r_iast C _ (dk oX10_act 54 rfl) rfl (km hn rfl) rfl (by omega) (by decide) ?_
          refine hret (dk oX10_act 55 rfl) ?_
          first
            | exact h83
            | (refine ⟨⟨fun k hk => by rw [up2_ne (by omega), up2_ne (by omega), up2_ne (by omega), up2_ne (by omega)], five ?_ ?_ ?_ ?_ ?_⟩, rfl⟩
               all_goals (intro g; by_cases e : g = f <;> simp [up2_ap, app, b32, e]))
            | (refine ⟨⟨fun k hk => by rw [up2_ne (by omega), up2_ne (by omega)], five ?_ ?_ ?_ ?_ ?_⟩, rfl⟩
               all_goals (intro g; by_cases e : g = f <;> simp [up2_ap, app, ans, e]))
  · refine r_lookup (off := 88) (tgt := 89) C (dk oX10_act 1 rfl) (by decide) (by decide) (by decide) ?_
    refine r_aload_n C 0 (dk oX10_act 35 rfl) rfl ?_
    refine r_getR C (dk oX10_act 36 rfl) fl_X10_62 rfl (km hn rfl) ?_
    refine r_iload_n C 2 (dk oX10_act 37 rfl) rfl ?_
    refine r_iload_n C 1 (dk oX10_act 38 rfl) rfl ?_
    refine r_iconst C (dk oX10_act 39 rfl) (v := nI 3) (by decide) ?_
    refine r_icmp_ne (tgt := 103) C (dk oX10_act 40 rfl) (by decide) (fun hb96 => ?_) (fun hb96 => ?_)
    · first
        | exact absurd rfl hb96
        | refine r_iload_n C 1 (dk oX10_act 43 rfl) rfl ?_
          refine r_iconst C (dk oX10_act 44 rfl) (v := nI 4) (by decide) ?_
          refine r_icmp_ne (tgt := 112) C (dk oX10_act 45 rfl) (by decide) (fun hb105 => ?_) (fun hb105 => ?_)
          · first
              | exact absurd rfl hb105
              | refine r_iconst C (dk oX10_act 48 rfl) (v := nI 4) (by decide) ?_
                refine r_iast C _ (dk oX10_act 49 rfl) rfl (km hn rfl) rfl (by omega) (by decide) ?_
                refine r_aload_n C 0 (dk oX10_act 50 rfl) rfl ?_
                refine r_getR C (dk oX10_act 51 rfl) fl_X10_74 rfl (km hn rfl) ?_
                refine r_iload_n C 2 (dk oX10_act 52 rfl) rfl ?_
                refine r_iload_n C 3 (dk oX10_act 53 rfl) rfl ?_
                refine r_iast C _ (dk oX10_act 54 rfl) rfl (km hn rfl) rfl (by omega) (by decide) ?_
                refine hret (dk oX10_act 55 rfl) ?_
                first
                  | exact h83
                  | (refine ⟨⟨fun k hk => by rw [up2_ne (by omega), up2_ne (by omega), up2_ne (by omega), up2_ne (by omega)], five ?_ ?_ ?_ ?_ ?_⟩, rfl⟩
                     all_goals (intro g; by_cases e : g = f <;> simp [up2_ap, app, b32, e]))
                  | (refine ⟨⟨fun k hk => by rw [up2_ne (by omega), up2_ne (by omega)], five ?_ ?_ ?_ ?_ ?_⟩, rfl⟩
                     all_goals (intro g; by_cases e : g = f <;> simp [up2_ap, app, ans, e]))
          · first
              | exact absurd hb105 (by decide)
              | refine r_iconst C (dk oX10_act 46 rfl) (v := nI 3) (by decide) ?_
                refine r_goto (tgt := 113) C (dk oX10_act 47 rfl) (by decide) ?_
                refine r_iast C _ (dk oX10_act 49 rfl) rfl (km hn rfl) rfl (by omega) (by decide) ?_
                refine r_aload_n C 0 (dk oX10_act 50 rfl) rfl ?_
                refine r_getR C (dk oX10_act 51 rfl) fl_X10_74 rfl (km hn rfl) ?_
                refine r_iload_n C 2 (dk oX10_act 52 rfl) rfl ?_
                refine r_iload_n C 3 (dk oX10_act 53 rfl) rfl ?_
                refine r_iast C _ (dk oX10_act 54 rfl) rfl (km hn rfl) rfl (by omega) (by decide) ?_
                refine hret (dk oX10_act 55 rfl) ?_
                first
                  | exact h83
                  | (refine ⟨⟨fun k hk => by rw [up2_ne (by omega), up2_ne (by omega), up2_ne (by omega), up2_ne (by omega)], five ?_ ?_ ?_ ?_ ?_⟩, rfl⟩
                     all_goals (intro g; by_cases e : g = f <;> simp [up2_ap, app, b32, e]))
                  | (refine ⟨⟨fun k hk => by rw [up2_ne (by omega), up2_ne (by omega)], five ?_ ?_ ?_ ?_ ?_⟩, rfl⟩
                     all_goals (intro g; by_cases e : g = f <;> simp [up2_ap, app, ans, e]))
    · first
        | exact absurd hb96 (by decide)
        | refine r_iconst C (dk oX10_act 41 rfl) (v := nI 2) (by decide) ?_
          refine r_goto (tgt := 113) C (dk oX10_act 42 rfl) (by decide) ?_
          refine r_iast C _ (dk oX10_act 49 rfl) rfl (km hn rfl) rfl (by omega) (by decide) ?_
          refine r_aload_n C 0 (dk oX10_act 50 rfl) rfl ?_
          refine r_getR C (dk oX10_act 51 rfl) fl_X10_74 rfl (km hn rfl) ?_
          refine r_iload_n C 2 (dk oX10_act 52 rfl) rfl ?_
          refine r_iload_n C 3 (dk oX10_act 53 rfl) rfl ?_
          refine r_iast C _ (dk oX10_act 54 rfl) rfl (km hn rfl) rfl (by omega) (by decide) ?_
          refine hret (dk oX10_act 55 rfl) ?_
          first
            | exact h83
            | (refine ⟨⟨fun k hk => by rw [up2_ne (by omega), up2_ne (by omega), up2_ne (by omega), up2_ne (by omega)], five ?_ ?_ ?_ ?_ ?_⟩, rfl⟩
               all_goals (intro g; by_cases e : g = f <;> simp [up2_ap, app, b32, e]))
            | (refine ⟨⟨fun k hk => by rw [up2_ne (by omega), up2_ne (by omega)], five ?_ ?_ ?_ ?_ ?_⟩, rfl⟩
               all_goals (intro g; by_cases e : g = f <;> simp [up2_ap, app, ans, e]))
  · refine r_lookup (off := 80) (tgt := 81) C (dk oX10_act 1 rfl) (by decide) (by decide) (by decide) ?_
    refine r_aload_n C 0 (dk oX10_act 31 rfl) rfl ?_
    refine r_iload_n C 2 (dk oX10_act 32 rfl) rfl ?_
    refine r_ivv C Z (dk oX10_act 33 rfl) cl_X10_113 ci_X10_free rfl (km hn rfl) (c_X10_free hn I J f hf) rfl rfl (Nat.le_of_ble_eq_true rfl) ⟨Nat.le_of_ble_eq_true rfl, Nat.le_of_ble_eq_true rfl⟩ ⟨Nat.zero_le _, Nat.zero_le _⟩ (fun I83 J83 h83 => ?_)
    refine r_goto (tgt := 121) C (dk oX10_act 34 rfl) (by decide) ?_
    refine hret (dk oX10_act 55 rfl) ?_
    first
      | exact h83
      | (refine ⟨⟨fun k hk => by rw [up2_ne (by omega), up2_ne (by omega), up2_ne (by omega), up2_ne (by omega)], five ?_ ?_ ?_ ?_ ?_⟩, rfl⟩
         all_goals (intro g; by_cases e : g = f <;> simp [up2_ap, app, b32, e]))
      | (refine ⟨⟨fun k hk => by rw [up2_ne (by omega), up2_ne (by omega)], five ?_ ?_ ?_ ?_ ?_⟩, rfl⟩
         all_goals (intro g; by_cases e : g = f <;> simp [up2_ap, app, ans, e]))

end MOD1
