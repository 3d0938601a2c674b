section MOD7
variable {l : Launch} {n : Nat} {ad : Nat → Nat} {cA : Nat → ClassId} {D : va_G} {z : Zw}
/-- the model's text -/
def MTx (I : MI) (t : Nat → Nat) (L : Nat) : Prop := L ≤ 160 ∧ I 117 25 = nI L ∧ ∀ j, j < L → t j < 256 ∧ I 141 j = nI (t j)
/-- only the tokens' fields change -/
def tkF (I I' : MI) : Prop := (∀ k, k ≠ 117 → I' k = I k) ∧ ∀ i, i ≠ 26 → i ≠ 27 → i ≠ 28 → I' 117 i = I 117 i
theorem tkF.rf (I : MI) : tkF I I := ⟨fun _ _ => rfl, fun _ _ _ _ => rfl⟩
theorem tkF.trans {I I1 I2 : MI} (h1 : tkF I I1) (h2 : tkF I1 I2) : tkF I I2 := ⟨fun k hk => (h2.1 k hk).trans (h1.1 k hk), fun i a b c => (h2.2 i a b c).trans (h1.2 i a b c)⟩
theorem tkF.up {I I1 : MI} (h : tkF I I1) (i : Nat) (v : Int32) (hi : i = 26 ∨ i = 27 ∨ i = 28) : tkF I (up2 I1 117 i v) := ⟨fun k hk => by rw [up2_ne hk]; exact h.1 k hk, fun q a b c => by rw [up2_off (by omega)]; exact h.2 q a b c⟩
theorem MTx.of {I I' : MI} {t : Nat → Nat} {L : Nat} (h : MTx I t L) (h1 : I' 117 25 = I 117 25) (h2 : I' 141 = I 141) : MTx I' t L := by
  unfold MTx
  rw [h1, h2]
  exact h
theorem MTx.tk {I I' : MI} {t : Nat → Nat} {L : Nat} (h : MTx I t L) (hf : tkF I I') : MTx I' t L := h.of (hf.2 25 (by decide) (by decide) (by decide)) (hf.1 141 (by decide))
def hrN (t : Nat → Nat) (L s : Nat) : Int32 := if s < L then nI (t s) else -1
theorem in_ch {c lo hi : Nat} {l h : Int64} (hc : c < 256) (hlo : lo < 256) (hhi : hi < 256) (h0 : l = lN lo) (h1 : h = lN hi) : decide (l ≤ (nI c).toInt64 ∧ (nI c).toInt64 ≤ h) = decide (lo ≤ c ∧ c ≤ hi) := by
  subst h0
  subst h1
  apply decide_eq_decide.mpr
  rw [nI_l (by omega), pk_lLE (by omega) (by omega), pk_lLE (by omega) (by omega)]
def smN (t : Nat → Nat) (s : Nat) (v : Nat → Nat) : Nat → Bool
  | 0 => true
  | k + 1 => smN t s v k && decide (t (s + k) = v k)
theorem smN_t {t : Nat → Nat} {s : Nat} {v : Nat → Nat} : ∀ n, smN t s v n = true ↔ ∀ j, j < n → t (s + j) = v j
  | 0 => Iff.intro (fun _ j h => absurd h (Nat.not_lt_zero _)) (fun _ => rfl)
  | n + 1 => by
    show (smN t s v n && decide (t (s + n) = v n)) = true ↔ _
    rw [Bool.and_eq_true, smN_t n, decide_eq_true_eq]
    constructor
    · rintro ⟨a, b⟩ j hj
      by_cases e : j = n
      · rw [e]; exact b
      · exact a j (by omega)
    · intro h
      exact ⟨fun j hj => h j (by omega), h n (by omega)⟩
theorem smN_f {t : Nat → Nat} {s : Nat} {v : Nat → Nat} {k : Nat} (h : smN t s v k = false) {n : Nat} (hn : k ≤ n) : smN t s v n = false := by
  cases e : smN t s v n
  · rfl
  · have h2 := (smN_t n).mp e
    rw [(smN_t k).mpr (fun j hj => h2 j (by omega))] at h
    cases h
def v5 (a b c d e k : Nat) : Nat := if k = 0 then a else if k = 1 then b else if k = 2 then c else if k = 3 then d else e
theorem isW_sm {t : Nat → Nat} {L s n : Nat} {w : List Nat} {v : Nat → Nat} (hw : w.length = n ∧ ∀ k, k < n → w.getD k 0 = v k) : isW t L s w = (decide (wE t L s - s = n) && smN t s v n) := by
  unfold isW
  rw [Bool.eq_iff_iff, decide_eq_true_eq, Bool.and_eq_true, decide_eq_true_eq, smN_t, hw.1]
  have hge := @wE_ge t L s
  constructor
  · rintro ⟨a, b⟩
    exact ⟨by omega, fun j hj => by rw [b j hj]; exact hw.2 j hj⟩
  · rintro ⟨a, b⟩
    exact ⟨by omega, fun j hj => by rw [b j hj]; exact (hw.2 j hj).symm⟩
/-- the value as the model reads it -/
def vlN (t : Nat → Nat) (s : Nat) : Nat → Nat
  | 0 => 0
  | k + 1 => if 99999 < vlN t s k then vlN t s k else 10 * vlN t s k + (t (s + k) - 48)
theorem vl_le {t : Nat → Nat} {s : Nat} : ∀ k, (∀ j, j < k → isDg (t (s + j)) = true) → vlN t s k < 1000000
  | 0, _ => by show 0 < 1000000; decide
  | k + 1, h => by
    have ih := vl_le (t := t) (s := s) k (fun j hj => h j (by omega))
    have hd := of_decide_eq_true (h k (by omega))
    unfold vlN
    split <;> omega
theorem vl_dv {t : Nat → Nat} {s : Nat} : ∀ k, k ≤ 3 → (∀ j, j < k → isDg (t (s + j)) = true) → vlN t s k = dv t s k
  | 0, _, _ => rfl
  | k + 1, hk, h => by
    have ih := vl_dv (t := t) (s := s) k (by omega) (fun j hj => h j (by omega))
    have hl := @dv_lt t s k (fun j hj => h j (by omega))
    have h2 : 10 ^ k ≤ 10 ^ 2 := Nat.pow_le_pow_right (by decide) (by omega)
    unfold vlN
    rw [ih, if_neg (by omega)]
    rfl
set_option maxHeartbeats 1000000 in
set_option maxRecDepth 100000 in
theorem c_X10_here (hn : 148 ≤ n) (I : MI) (J : MJ) (t : Nat → Nat) (L : Nat) (hT : MTx I t L) (a_ : Nat) (ha : I 117 26 = nI a_) (haL : a_ ≤ L) : Ci l n ad cA D z 0 yX10_here cX10_here 1 .int I J [.ref (ad 117)] (fun r I' J' => r = hrN t L (sk t L a_) ∧ I' 117 26 = nI (sk t L a_) ∧ (∀ k, k ≠ 117 → I' k = I k) ∧ (∀ i, i ≠ 26 → I' 117 i = I 117 i) ∧ J' = J) := by
  refine Ci.of (by decide) (Nat.le_of_ble_eq_true rfl) ?_
  intro p e s m args below meth c A C hin Z Q hret
  have L0 : ∀ (d_ : Nat) (q_ : Nat) (I1 : MI), L - q_ < d_ → q_ ≤ L → sk t L q_ = sk t L a_ → I1 117 26 = nI q_ → (∀ k, k ≠ 117 → I1 k = I k) → (∀ i, i ≠ 26 → I1 117 i = I 117 i) → V p l e (rmL 0) s m args below meth c Q D A 1 0 0 n ad (mE cA ad I1 J) 0 [(0, .ref (ad 117))] [] := by
    intro d_
    induction d_ with
    | zero => intros; exact absurd (by assumption) (Nat.not_lt_zero _)
    | succ d_ ih => 
      intro q_ I1 hd_ hq hsk h26 hO hO2
      have hL := hT.1
      refine r_aload_n C 0 (dk oX10_here 0 rfl) rfl ?_
      refine r_getI C (dk oX10_here 1 rfl) fl_X10_142 rfl (km hn rfl) ?_
      rw [h26]
      refine r_aload_n C 0 (dk oX10_here 2 rfl) rfl ?_
      refine r_getI C (dk oX10_here 3 rfl) fl_X10_136 rfl (km hn rfl) ?_
      rw [hO2 25 (by decide), hT.2.1]
      refine r_icmp_ge (tgt := 38) C (dk oX10_here 4 rfl) (by decide) (fun hb8 => ?_) (fun hb8 => ?_)
      · simp (disch := omega) only [nI_leI, nI_ltI, nI_eq, nI_eq0] at hb8
        have hout : sk t L q_ = q_ := sk_out (Or.inl hb8)
        refine r_aload_n C 0 (dk oX10_here 19 rfl) rfl ?_
        refine r_getI C (dk oX10_here 20 rfl) fl_X10_142 rfl (km hn rfl) ?_
        rw [h26]
        refine r_aload_n C 0 (dk oX10_here 21 rfl) rfl ?_
        refine r_getI C (dk oX10_here 22 rfl) fl_X10_136 rfl (km hn rfl) ?_
        rw [hO2 25 (by decide), hT.2.1]
        refine r_icmp_ge (tgt := 61) C (dk oX10_here 23 rfl) (by decide) (fun hb46 => ?_) (fun hb46 => ?_)
        · simp (disch := omega) only [nI_leI, nI_ltI, nI_eq, nI_eq0] at hb46
          refine r_iconst C (dk oX10_here 30 rfl) (v := -1) (by decide) ?_
          refine hret (dk oX10_here 31 rfl) rfl ?_
          rw [hout] at hsk
          first
            | exact ⟨by rw [← hsk]; exact (if_pos hb46).symm, by rw [← hsk]; exact h26, hO, hO2, rfl⟩
            | exact ⟨by rw [← hsk]; exact (if_neg (by omega)).symm, by rw [← hsk]; exact h26, hO, hO2, rfl⟩
        · simp (disch := omega) only [nI_leI, nI_ltI, nI_eq, nI_eq0] at hb46
          have hb46 : q_ < L := by omega
          refine r_aload_n C 0 (dk oX10_here 24 rfl) rfl ?_
          refine r_getR C (dk oX10_here 25 rfl) fl_X10_80 rfl (km hn rfl) ?_
          refine r_aload_n C 0 (dk oX10_here 26 rfl) rfl ?_
          refine r_getI C (dk oX10_here 27 rfl) fl_X10_142 rfl (km hn rfl) ?_
          rw [h26]
          refine r_iald C _ (dk oX10_here 28 rfl) rfl (km hn rfl) rfl (by omega) (by decide) ?_
          rw [hO 141 (by decide), (hT.2.2 q_ (by omega)).2]
          refine r_goto (tgt := 62) C (dk oX10_here 29 rfl) (by decide) ?_
          refine hret (dk oX10_here 31 rfl) rfl ?_
          rw [hout] at hsk
          first
            | exact ⟨by rw [← hsk]; exact (if_pos hb46).symm, by rw [← hsk]; exact h26, hO, hO2, rfl⟩
            | exact ⟨by rw [← hsk]; exact (if_neg (by omega)).symm, by rw [← hsk]; exact h26, hO, hO2, rfl⟩
      · simp (disch := omega) only [nI_leI, nI_ltI, nI_eq, nI_eq0] at hb8
        have hb8 : q_ < L := by omega
        refine r_aload_n C 0 (dk oX10_here 5 rfl) rfl ?_
        refine r_getR C (dk oX10_here 6 rfl) fl_X10_80 rfl (km hn rfl) ?_
        refine r_aload_n C 0 (dk oX10_here 7 rfl) rfl ?_
        refine r_getI C (dk oX10_here 8 rfl) fl_X10_142 rfl (km hn rfl) ?_
        rw [h26]
        refine r_iald C _ (dk oX10_here 9 rfl) rfl (km hn rfl) rfl (by omega) (by decide) ?_
        have htq := hT.2.2 q_ (by omega)
        rw [hO 141 (by decide), htq.2]
        refine r_bipush C (dk oX10_here 10 rfl) (v := nI 32) (by decide) ?_
        refine r_icmp_ne (tgt := 38) C (dk oX10_here 11 rfl) (by decide) (fun hb22 => ?_) (fun hb22 => ?_)
        · simp (disch := omega) only [nI_leI, nI_ltI, nI_eq, nI_eq0] at hb22
          have hout : sk t L q_ = q_ := sk_out (Or.inr (isBl_f hb22))
          refine r_aload_n C 0 (dk oX10_here 19 rfl) rfl ?_
          refine r_getI C (dk oX10_here 20 rfl) fl_X10_142 rfl (km hn rfl) ?_
          rw [h26]
          refine r_aload_n C 0 (dk oX10_here 21 rfl) rfl ?_
          refine r_getI C (dk oX10_here 22 rfl) fl_X10_136 rfl (km hn rfl) ?_
          rw [hO2 25 (by decide), hT.2.1]
          refine r_icmp_ge (tgt := 61) C (dk oX10_here 23 rfl) (by decide) (fun hb46 => ?_) (fun hb46 => ?_)
          · simp (disch := omega) only [nI_leI, nI_ltI, nI_eq, nI_eq0] at hb46
            refine r_iconst C (dk oX10_here 30 rfl) (v := -1) (by decide) ?_
            refine hret (dk oX10_here 31 rfl) rfl ?_
            rw [hout] at hsk
            first
              | exact ⟨by rw [← hsk]; exact (if_pos hb46).symm, by rw [← hsk]; exact h26, hO, hO2, rfl⟩
              | exact ⟨by rw [← hsk]; exact (if_neg (by omega)).symm, by rw [← hsk]; exact h26, hO, hO2, rfl⟩
          · simp (disch := omega) only [nI_leI, nI_ltI, nI_eq, nI_eq0] at hb46
            have hb46 : q_ < L := by omega
            refine r_aload_n C 0 (dk oX10_here 24 rfl) rfl ?_
            refine r_getR C (dk oX10_here 25 rfl) fl_X10_80 rfl (km hn rfl) ?_
            refine r_aload_n C 0 (dk oX10_here 26 rfl) rfl ?_
            refine r_getI C (dk oX10_here 27 rfl) fl_X10_142 rfl (km hn rfl) ?_
            rw [h26]
            refine r_iald C _ (dk oX10_here 28 rfl) rfl (km hn rfl) rfl (by omega) (by decide) ?_
            rw [hO 141 (by decide), (hT.2.2 q_ (by omega)).2]
            refine r_goto (tgt := 62) C (dk oX10_here 29 rfl) (by decide) ?_
            refine hret (dk oX10_here 31 rfl) rfl ?_
            rw [hout] at hsk
            first
              | exact ⟨by rw [← hsk]; exact (if_pos hb46).symm, by rw [← hsk]; exact h26, hO, hO2, rfl⟩
              | exact ⟨by rw [← hsk]; exact (if_neg (by omega)).symm, by rw [← hsk]; exact h26, hO, hO2, rfl⟩
        · simp (disch := omega) only [nI_leI, nI_ltI, nI_eq, nI_eq0] at hb22
          refine r_aload_n C 0 (dk oX10_here 12 rfl) rfl ?_
          refine r_dup C (dk oX10_here 13 rfl) rfl ?_
          refine r_getI C (dk oX10_here 14 rfl) fl_X10_142 rfl (km hn rfl) ?_
          rw [h26]
          refine r_iconst C (dk oX10_here 15 rfl) (v := nI 1) (by decide) ?_
          refine r_iadd C (dk oX10_here 16 rfl) ?_
          rw [nI_add]
          refine r_putI C (dk oX10_here 17 rfl) fl_X10_142 ft_10_26 rfl (km hn rfl) ?_
          refine r_goto (tgt := 0) C (dk oX10_here 18 rfl) (by decide) ?_
          refine V.sub [0] rfl ?_
          exact ih (q_ + 1) _ (by omega) (by omega) ((sk_in hb8 (isBl_t hb22)).trans hsk) up2_at (fun k hk => by rw [up2_ne hk]; exact hO k hk) (fun i hi => by rw [up2_off hi]; exact hO2 i hi)
  refine V.sub [0] rfl ?_
  exact L0 (L + 1) a_ I (by omega) haL rfl ha (fun _ _ => rfl) (fun _ _ => rfl)

set_option maxHeartbeats 1000000 in
set_option maxRecDepth 100000 in
theorem c_X10_want (hn : 148 ≤ n) (I : MI) (J : MJ) (g : Bool) (x w : Int32) (f0 : Int32) (hf : I 117 29 = f0) : Ci l n ad cA D z 0 yX10_want cX10_want 4 .boolean I J [.ref (ad 117), .int (b32 g), .int x, .int w] (fun r I' J' => r = b32 (decide ((if g = false ∧ f0 = 0 then x else f0) = 0)) ∧ I' = (if g = false ∧ f0 = 0 then up2 (up2 I 117 29 x) 117 30 w else I) ∧ J' = J) := by
  refine Ci.of (by decide) (Nat.le_of_ble_eq_true rfl) ?_
  intro p e s m args below meth c A C hin Z Q hret
  refine r_iload_n C 1 (dk oX10_want 0 rfl) rfl ?_
  refine r_if_ne (tgt := 21) C (dk oX10_want 1 rfl) (by decide) (fun hb1 => ?_) (fun hb1 => ?_)
  · rw [b32_n] at hb1
    have hc : ¬ (g = false ∧ f0 = 0) := fun q => by rw [hb1] at q; exact absurd q.1 (by decide)
    refine r_aload_n C 0 (dk oX10_want 11 rfl) rfl ?_
    refine r_getI C (dk oX10_want 12 rfl) fl_X10_145 rfl (km hn rfl) ?_
    first
      | rw [up2_off (by decide), up2_at]
      | rw [hf]
    refine r_if_ne (tgt := 32) C (dk oX10_want 13 rfl) (by decide) (fun hb25 => ?_) (fun hb25 => ?_)
    · refine r_iconst C (dk oX10_want 16 rfl) (v := nI 0) (by decide) ?_
      refine hret (dk oX10_want 17 rfl) (by first | rfl | decide) ?_
      first
        | (rw [if_pos hc, if_pos hc]
           first
             | exact ⟨b32_dt hb25, rfl, rfl⟩
             | exact ⟨b32_df hb25, rfl, rfl⟩)
        | (rw [if_neg hc, if_neg hc]
           first
             | exact ⟨b32_dt hb25, rfl, rfl⟩
             | exact ⟨b32_df hb25, rfl, rfl⟩)
    · refine r_iconst C (dk oX10_want 14 rfl) (v := nI 1) (by decide) ?_
      refine r_goto (tgt := 33) C (dk oX10_want 15 rfl) (by decide) ?_
      refine hret (dk oX10_want 17 rfl) (by first | rfl | decide) ?_
      first
        | (rw [if_pos hc, if_pos hc]
           first
             | exact ⟨b32_dt hb25, rfl, rfl⟩
             | exact ⟨b32_df hb25, rfl, rfl⟩)
        | (rw [if_neg hc, if_neg hc]
           first
             | exact ⟨b32_dt hb25, rfl, rfl⟩
             | exact ⟨b32_df hb25, rfl, rfl⟩)
  · rw [b32_0] at hb1
    refine r_aload_n C 0 (dk oX10_want 2 rfl) rfl ?_
    refine r_getI C (dk oX10_want 3 rfl) fl_X10_145 rfl (km hn rfl) ?_
    rw [hf]
    refine r_if_ne (tgt := 21) C (dk oX10_want 4 rfl) (by decide) (fun hb8 => ?_) (fun hb8 => ?_)
    · have hc : ¬ (g = false ∧ f0 = 0) := fun q => hb8 q.2
      refine r_aload_n C 0 (dk oX10_want 11 rfl) rfl ?_
      refine r_getI C (dk oX10_want 12 rfl) fl_X10_145 rfl (km hn rfl) ?_
      first
        | rw [up2_off (by decide), up2_at]
        | rw [hf]
      refine r_if_ne (tgt := 32) C (dk oX10_want 13 rfl) (by decide) (fun hb25 => ?_) (fun hb25 => ?_)
      · refine r_iconst C (dk oX10_want 16 rfl) (v := nI 0) (by decide) ?_
        refine hret (dk oX10_want 17 rfl) (by first | rfl | decide) ?_
        first
          | (rw [if_pos hc, if_pos hc]
             first
               | exact ⟨b32_dt hb25, rfl, rfl⟩
               | exact ⟨b32_df hb25, rfl, rfl⟩)
          | (rw [if_neg hc, if_neg hc]
             first
               | exact ⟨b32_dt hb25, rfl, rfl⟩
               | exact ⟨b32_df hb25, rfl, rfl⟩)
      · refine r_iconst C (dk oX10_want 14 rfl) (v := nI 1) (by decide) ?_
        refine r_goto (tgt := 33) C (dk oX10_want 15 rfl) (by decide) ?_
        refine hret (dk oX10_want 17 rfl) (by first | rfl | decide) ?_
        first
          | (rw [if_pos hc, if_pos hc]
             first
               | exact ⟨b32_dt hb25, rfl, rfl⟩
               | exact ⟨b32_df hb25, rfl, rfl⟩)
          | (rw [if_neg hc, if_neg hc]
             first
               | exact ⟨b32_dt hb25, rfl, rfl⟩
               | exact ⟨b32_df hb25, rfl, rfl⟩)
    · have hc : g = false ∧ f0 = 0 := ⟨hb1, hb8⟩
      refine r_aload_n C 0 (dk oX10_want 5 rfl) rfl ?_
      refine r_iload_n C 2 (dk oX10_want 6 rfl) rfl ?_
      refine r_putI C (dk oX10_want 7 rfl) fl_X10_145 ft_10_29 rfl (km hn rfl) ?_
      refine r_aload_n C 0 (dk oX10_want 8 rfl) rfl ?_
      refine r_iload_n C 3 (dk oX10_want 9 rfl) rfl ?_
      refine r_putI C (dk oX10_want 10 rfl) fl_X10_83 ft_10_30 rfl (km hn rfl) ?_
      refine r_aload_n C 0 (dk oX10_want 11 rfl) rfl ?_
      refine r_getI C (dk oX10_want 12 rfl) fl_X10_145 rfl (km hn rfl) ?_
      first
        | rw [up2_off (by decide), up2_at]
        | rw [hf]
      refine r_if_ne (tgt := 32) C (dk oX10_want 13 rfl) (by decide) (fun hb25 => ?_) (fun hb25 => ?_)
      · refine r_iconst C (dk oX10_want 16 rfl) (v := nI 0) (by decide) ?_
        refine hret (dk oX10_want 17 rfl) (by first | rfl | decide) ?_
        first
          | (rw [if_pos hc, if_pos hc]
             first
               | exact ⟨b32_dt hb25, rfl, rfl⟩
               | exact ⟨b32_df hb25, rfl, rfl⟩)
          | (rw [if_neg hc, if_neg hc]
             first
               | exact ⟨b32_dt hb25, rfl, rfl⟩
               | exact ⟨b32_df hb25, rfl, rfl⟩)
      · refine r_iconst C (dk oX10_want 14 rfl) (v := nI 1) (by decide) ?_
        refine r_goto (tgt := 33) C (dk oX10_want 15 rfl) (by decide) ?_
        refine hret (dk oX10_want 17 rfl) (by first | rfl | decide) ?_
        first
          | (rw [if_pos hc, if_pos hc]
             first
               | exact ⟨b32_dt hb25, rfl, rfl⟩
               | exact ⟨b32_df hb25, rfl, rfl⟩)
          | (rw [if_neg hc, if_neg hc]
             first
               | exact ⟨b32_dt hb25, rfl, rfl⟩
               | exact ⟨b32_df hb25, rfl, rfl⟩)

set_option maxHeartbeats 1000000 in
set_option maxRecDepth 100000 in
theorem c_X10_takeWord (hn : 148 ≤ n) (I : MI) (J : MJ) (t : Nat → Nat) (L : Nat) (hT : MTx I t L) (a_ : Nat) (ha : I 117 26 = nI a_) (haL : a_ ≤ L) : Cv l n ad cA D z 1 yX10_takeWord cX10_takeWord 2 I J [.ref (ad 117)] (fun I' J' => I' 117 26 = nI (wE t L (sk t L a_)) ∧ I' 117 27 = nI (sk t L a_) ∧ I' 117 28 = nI (wE t L (sk t L a_) - sk t L a_) ∧ tkF I I' ∧ J' = J) := by
  refine Cv.of (by decide) (Nat.le_of_ble_eq_true rfl) ?_
  intro p e s m args below meth c A C hin Z Q hret
  have hL := hT.1
  refine r_aload_n C 0 (dk oX10_takeWord 0 rfl) rfl ?_
  refine r_ivi C Z (dk oX10_takeWord 1 rfl) cl_X10_148 ci_X10_here rfl (km hn rfl) (c_X10_here hn I J t L (hT) (a_) (ha) (haL)) rfl rfl (Nat.le_of_ble_eq_true rfl) ⟨Nat.le_of_ble_eq_true rfl, Nat.le_of_ble_eq_true rfl⟩ ⟨Nat.zero_le _, Nat.zero_le _⟩ (fun r1 I1 J1 h1 => ?_)
  obtain ⟨e1_, hh1, hhA1, hhB1, e2_⟩ := h1
  have e1_ := e1_.symm
  have e2_ := e2_.symm
  subst e1_
  subst e2_
  refine r_istore_n (lo' := [(1, _), (0, _)]) C (dk oX10_takeWord 2 rfl) rfl (by decide) rfl ?_
  refine r_aload_n C 1 (dk oX10_takeWord 3 rfl) rfl ?_
  refine r_aload_n C 1 (dk oX10_takeWord 4 rfl) rfl ?_
  refine r_getI C (dk oX10_takeWord 5 rfl) fl_X10_142 rfl (km hn rfl) ?_
  rw [hh1]
  refine r_putI C (dk oX10_takeWord 6 rfl) fl_X10_152 ft_10_27 rfl (km hn rfl) ?_
  have L13 : ∀ (d_ : Nat) (q_ : Nat) (I2 : MI), L - q_ < d_ → q_ ≤ L → sk t L a_ ≤ q_ → wE t L q_ = wE t L (sk t L a_) → I2 117 26 = nI q_ → I2 117 27 = nI (sk t L a_) → tkF I I2 → V p l e (rmL 1) s m args below meth c Q D A 2 0 0 n ad (mE cA ad I2 J) 13 [(0, .ref (ad 117))] [] := by
    intro d_
    induction d_ with
    | zero => intros; exact absurd (by assumption) (Nat.not_lt_zero _)
    | succ d_ ih => 
      intro q_ I2 hd_ hq hsq hw h26 h27 hf
      refine r_aload_n C 0 (dk oX10_takeWord 7 rfl) rfl ?_
      refine r_getI C (dk oX10_takeWord 8 rfl) fl_X10_142 rfl (km hn rfl) ?_
      rw [h26]
      refine r_aload_n C 0 (dk oX10_takeWord 9 rfl) rfl ?_
      refine r_getI C (dk oX10_takeWord 10 rfl) fl_X10_136 rfl (km hn rfl) ?_
      rw [hf.2 25 (by decide) (by decide) (by decide), hT.2.1]
      refine r_icmp_ge (tgt := 59) C (dk oX10_takeWord 11 rfl) (by decide) (fun hb21 => ?_) (fun hb21 => ?_)
      · simp (disch := omega) only [nI_leI, nI_ltI, nI_eq, nI_eq0] at hb21
        have hout : wE t L q_ = q_ := wE_out (Or.inl hb21)
        refine r_aload_n C 0 (dk oX10_takeWord 29 rfl) rfl ?_
        refine r_aload_n C 0 (dk oX10_takeWord 30 rfl) rfl ?_
        refine r_getI C (dk oX10_takeWord 31 rfl) fl_X10_142 rfl (km hn rfl) ?_
        rw [h26]
        refine r_aload_n C 0 (dk oX10_takeWord 32 rfl) rfl ?_
        refine r_getI C (dk oX10_takeWord 33 rfl) fl_X10_152 rfl (km hn rfl) ?_
        rw [h27]
        refine r_isub C (dk oX10_takeWord 34 rfl) ?_
        rw [pk_sub (by omega)]
        refine r_putI C (dk oX10_takeWord 35 rfl) fl_X10_159 ft_10_28 rfl (km hn rfl) ?_
        refine hret (dk oX10_takeWord 36 rfl) ?_
        rw [hout] at hw
        rw [← hw]
        exact ⟨by rw [up2_off (by decide)]; exact h26, by rw [up2_off (by decide)]; exact h27, up2_at, hf.up _ _ (Or.inr (Or.inr rfl)), rfl⟩
      · simp (disch := omega) only [nI_leI, nI_ltI, nI_eq, nI_eq0] at hb21
        have hb21 : q_ < L := by omega
        refine r_aload_n C 0 (dk oX10_takeWord 12 rfl) rfl ?_
        refine r_getR C (dk oX10_takeWord 13 rfl) fl_X10_80 rfl (km hn rfl) ?_
        refine r_aload_n C 0 (dk oX10_takeWord 14 rfl) rfl ?_
        refine r_getI C (dk oX10_takeWord 15 rfl) fl_X10_142 rfl (km hn rfl) ?_
        rw [h26]
        refine r_iald C _ (dk oX10_takeWord 16 rfl) rfl (km hn rfl) rfl (by omega) (by decide) ?_
        have htq := hT.2.2 q_ (by omega)
        rw [hf.1 141 (by decide), htq.2]
        refine r_i2l C (dk oX10_takeWord 17 rfl) ?_
        refine r_ldc2 C (dk oX10_takeWord 18 rfl) kn_X10_155 ?_
        refine r_ldc2 C (dk oX10_takeWord 19 rfl) kn_X10_157 ?_
        refine r_isi C Z (dk oX10_takeWord 20 rfl) cl_X10_131 st_X10_in (c_X10_in I2 J ((nI (t q_)).toInt64) (97) (122)) rfl rfl (Nat.le_of_ble_eq_true rfl) ⟨Nat.le_of_ble_eq_true rfl, Nat.le_of_ble_eq_true rfl⟩ ⟨Nat.zero_le _, Nat.zero_le _⟩ (fun r40 I40 J40 h40 => ?_)
        obtain ⟨h40, e1_, e2_⟩ := h40
        have e1_ := e1_.symm
        have e2_ := e2_.symm
        subst e1_
        subst e2_
        subst h40
        refine r_if_eq (tgt := 59) C (dk oX10_takeWord 21 rfl) (by decide) (fun hb43 => ?_) (fun hb43 => ?_)
        · rw [b32_0, in_ch (lo := 97) (hi := 122) (l := 97) (h := 122) htq.1 (by decide) (by decide) rfl rfl] at hb43
          have hout : wE t L q_ = q_ := wE_out (Or.inr hb43)
          refine r_aload_n C 0 (dk oX10_takeWord 29 rfl) rfl ?_
          refine r_aload_n C 0 (dk oX10_takeWord 30 rfl) rfl ?_
          refine r_getI C (dk oX10_takeWord 31 rfl) fl_X10_142 rfl (km hn rfl) ?_
          rw [h26]
          refine r_aload_n C 0 (dk oX10_takeWord 32 rfl) rfl ?_
          refine r_getI C (dk oX10_takeWord 33 rfl) fl_X10_152 rfl (km hn rfl) ?_
          rw [h27]
          refine r_isub C (dk oX10_takeWord 34 rfl) ?_
          rw [pk_sub (by omega)]
          refine r_putI C (dk oX10_takeWord 35 rfl) fl_X10_159 ft_10_28 rfl (km hn rfl) ?_
          refine hret (dk oX10_takeWord 36 rfl) ?_
          rw [hout] at hw
          rw [← hw]
          exact ⟨by rw [up2_off (by decide)]; exact h26, by rw [up2_off (by decide)]; exact h27, up2_at, hf.up _ _ (Or.inr (Or.inr rfl)), rfl⟩
        · rw [b32_n, in_ch (lo := 97) (hi := 122) (l := 97) (h := 122) htq.1 (by decide) (by decide) rfl rfl] at hb43
          refine r_aload_n C 0 (dk oX10_takeWord 22 rfl) rfl ?_
          refine r_dup C (dk oX10_takeWord 23 rfl) rfl ?_
          refine r_getI C (dk oX10_takeWord 24 rfl) fl_X10_142 rfl (km hn rfl) ?_
          rw [h26]
          refine r_iconst C (dk oX10_takeWord 25 rfl) (v := nI 1) (by decide) ?_
          refine r_iadd C (dk oX10_takeWord 26 rfl) ?_
          rw [nI_add]
          refine r_putI C (dk oX10_takeWord 27 rfl) fl_X10_142 ft_10_26 rfl (km hn rfl) ?_
          refine r_goto (tgt := 13) C (dk oX10_takeWord 28 rfl) (by decide) ?_
          refine V.sub [0] rfl ?_
          exact ih (q_ + 1) _ (by omega) (by omega) (by omega) ((wE_in hb21 hb43).trans hw) up2_at (by rw [up2_off (by decide)]; exact h27) (hf.up _ _ (Or.inl rfl))
  refine V.sub [1] rfl ?_
  exact L13 (L + 1) (sk t L a_) _ (by omega) (sk_le haL) (Nat.le_refl _) rfl (by rw [up2_off (by decide)]; exact hh1) up2_at (tkF.up ⟨hhA1, fun i a _ _ => hhB1 i a⟩ _ _ (Or.inr (Or.inl rfl)))

set_option maxHeartbeats 1000000 in
set_option maxRecDepth 100000 in
theorem c_X10_isWord (hn : 148 ≤ n) (I : MI) (J : MJ) (t : Nat → Nat) (L : Nat) (hT : MTx I t L) (s_ : Nat) (hs : I 117 27 = nI s_) (hsL : s_ ≤ L) (hl : I 117 28 = nI (wE t L s_ - s_)) (n_ a b c_ d e_ : Nat) (hn5 : n_ ≤ 5) (hx : a < 256 ∧ b < 256 ∧ c_ < 256 ∧ d < 256 ∧ e_ < 256) (w : List Nat) (hw : w.length = n_ ∧ ∀ k, k < n_ → w.getD k 0 = v5 a b c_ d e_ k) : Ci l n ad cA D z 0 yX10_isWord cX10_isWord 9 .boolean I J [.ref (ad 117), .int (nI n_), .int (nI a), .int (nI b), .int (nI c_), .int (nI d), .int (nI e_)] (fun r I' J' => r = b32 (isW t L s_ w) ∧ I' = I ∧ J' = J) := by
  refine Ci.of (by decide) (Nat.le_of_ble_eq_true rfl) ?_
  intro p e s m args below meth c A C hin Z Q hret
  rw [isW_sm hw] at hret
  have hwe := @wE_le t L s_ hsL
  have hL := hT.1
  refine r_aload_n C 0 (dk oX10_isWord 0 rfl) rfl ?_
  refine r_getI C (dk oX10_isWord 1 rfl) fl_X10_159 rfl (km hn rfl) ?_
  rw [hl]
  refine r_iload_n C 1 (dk oX10_isWord 2 rfl) rfl ?_
  refine r_icmp_ne (tgt := 12) C (dk oX10_isWord 3 rfl) (by decide) (fun hb5 => ?_) (fun hb5 => ?_)
  · simp (disch := omega) only [nI_leI, nI_ltI, nI_eq, nI_eq0] at hb5
    refine r_iconst C (dk oX10_isWord 6 rfl) (v := nI 0) (by decide) ?_
    refine r_topI (show nI 0 = b32 (decide (wE t L s_ - s_ = n_) && smN t s_ (v5 a b c_ d e_) 0) from by rw [decide_eq_false hb5]; rfl) ?_
    refine r_istore (lo' := [(7, _), (0, _), (1, _), (2, _), (3, _), (4, _), (5, _), (6, _)]) C (dk oX10_isWord 7 rfl) (by decide) rfl ?_
    refine r_iconst C (dk oX10_isWord 8 rfl) (v := nI 0) (by decide) ?_
    refine r_istore (lo' := [(8, _), (7, _), (0, _), (1, _), (2, _), (3, _), (4, _), (5, _), (6, _)]) C (dk oX10_isWord 9 rfl) (by decide) rfl ?_
    have L18 : ∀ (d_ : Nat) (k_ : Nat), n_ - k_ < d_ → k_ ≤ n_ → V p l e (rmL 0) s m args below meth c Q D A 9 0 0 n ad (mE cA ad I J) 18 [(0, .ref (ad 117)), (1, .int (nI n_)), (2, .int (nI a)), (3, .int (nI b)), (4, .int (nI c_)), (5, .int (nI d)), (6, .int (nI e_)), (7, .int (b32 (decide (wE t L s_ - s_ = n_) && smN t s_ (v5 a b c_ d e_) k_))), (8, .int (nI k_))] [] := by
      intro d_
      induction d_ with
      | zero => intros; exact absurd (by assumption) (Nat.not_lt_zero _)
      | succ d_ ih => 
        intro k_ hd_ hk
        refine r_iload C 8 (dk oX10_isWord 10 rfl) rfl ?_
        refine r_iload_n C 1 (dk oX10_isWord 11 rfl) rfl ?_
        refine r_icmp_ge (tgt := 100) C (dk oX10_isWord 12 rfl) (by decide) (fun hb21 => ?_) (fun hb21 => ?_)
        · simp (disch := omega) only [nI_leI, nI_ltI, nI_eq, nI_eq0] at hb21
          refine r_iload C 7 (dk oX10_isWord 49 rfl) rfl ?_
          refine hret (dk oX10_isWord 50 rfl) b32_nar ?_
          first
            | exact ⟨by rw [show k_ = n_ by omega], rfl, rfl⟩
            | (refine ⟨congrArg b32 ?_, rfl, rfl⟩
               rw [hb26]
               cases hd : decide (wE t L s_ - s_ = n_)
               · rfl
               · rw [hd, Bool.true_and] at hb26
                 rw [smN_f hb26 hk]; rfl)
        · simp (disch := omega) only [nI_leI, nI_ltI, nI_eq, nI_eq0] at hb21
          refine r_iload C 7 (dk oX10_isWord 13 rfl) rfl ?_
          refine r_if_eq (tgt := 100) C (dk oX10_isWord 14 rfl) (by decide) (fun hb26 => ?_) (fun hb26 => ?_)
          · rw [b32_0] at hb26
            refine r_iload C 7 (dk oX10_isWord 49 rfl) rfl ?_
            refine hret (dk oX10_isWord 50 rfl) b32_nar ?_
            first
              | exact ⟨by rw [show k_ = n_ by omega], rfl, rfl⟩
              | (refine ⟨congrArg b32 ?_, rfl, rfl⟩
                 rw [hb26]
                 cases hd : decide (wE t L s_ - s_ = n_)
                 · rfl
                 · rw [hd, Bool.true_and] at hb26
                   rw [smN_f hb26 hk]; rfl)
          · rw [b32_n] at hb26
            have hlen : wE t L s_ - s_ = n_ := by
              have h2 := hb26
              rw [Bool.and_eq_true] at h2
              exact of_decide_eq_true h2.1
            refine r_aload_n C 0 (dk oX10_isWord 15 rfl) rfl ?_
            refine r_getR C (dk oX10_isWord 16 rfl) fl_X10_80 rfl (km hn rfl) ?_
            refine r_aload_n C 0 (dk oX10_isWord 17 rfl) rfl ?_
            refine r_getI C (dk oX10_isWord 18 rfl) fl_X10_152 rfl (km hn rfl) ?_
            rw [hs]
            refine r_iload C 8 (dk oX10_isWord 19 rfl) rfl ?_
            refine r_iadd C (dk oX10_isWord 20 rfl) ?_
            rw [nI_add]
            refine r_iald C _ (dk oX10_isWord 21 rfl) rfl (km hn rfl) rfl (by omega) (by decide) ?_
            have htq := hT.2.2 (s_ + k_) (by omega)
            rw [htq.2]
            refine r_iload C 8 (dk oX10_isWord 22 rfl) rfl ?_
            refine r_if_ne (tgt := 50) C (dk oX10_isWord 23 rfl) (by decide) (fun hb43 => ?_) (fun hb43 => ?_)
            · simp (disch := omega) only [nI_leI, nI_ltI, nI_eq, nI_eq0] at hb43
              refine r_iload C 8 (dk oX10_isWord 26 rfl) rfl ?_
              refine r_iconst C (dk oX10_isWord 27 rfl) (v := nI 1) (by decide) ?_
              refine r_icmp_ne (tgt := 60) C (dk oX10_isWord 28 rfl) (by decide) (fun hb53 => ?_) (fun hb53 => ?_)
              · simp (disch := omega) only [nI_leI, nI_ltI, nI_eq, nI_eq0] at hb53
                refine r_iload C 8 (dk oX10_isWord 31 rfl) rfl ?_
                refine r_iconst C (dk oX10_isWord 32 rfl) (v := nI 2) (by decide) ?_
                refine r_icmp_ne (tgt := 71) C (dk oX10_isWord 33 rfl) (by decide) (fun hb63 => ?_) (fun hb63 => ?_)
                · simp (disch := omega) only [nI_leI, nI_ltI, nI_eq, nI_eq0] at hb63
                  refine r_iload C 8 (dk oX10_isWord 36 rfl) rfl ?_
                  refine r_iconst C (dk oX10_isWord 37 rfl) (v := nI 3) (by decide) ?_
                  refine r_icmp_ne (tgt := 82) C (dk oX10_isWord 38 rfl) (by decide) (fun hb74 => ?_) (fun hb74 => ?_)
                  · simp (disch := omega) only [nI_leI, nI_ltI, nI_eq, nI_eq0] at hb74
                    refine r_iload C 6 (dk oX10_isWord 41 rfl) rfl ?_
                    refine r_topI (show nI e_ = nI (v5 a b c_ d e_ k_) from by unfold v5; rw [if_neg hb43, if_neg hb53, if_neg hb63, if_neg hb74]) ?_
                    refine r_icmp_ne (tgt := 91) C (dk oX10_isWord 42 rfl) (by decide) (fun hb84 => ?_) (fun hb84 => ?_)
                    · have hv5 : v5 a b c_ d e_ k_ < 256 := by unfold v5; repeat (first | omega | split)
                      simp (disch := omega) only [nI_leI, nI_ltI, nI_eq, nI_eq0] at hb84
                      refine r_iconst C (dk oX10_isWord 45 rfl) (v := nI 0) (by decide) ?_
                      refine r_topI (show nI 0 = b32 (decide (wE t L s_ - s_ = n_) && smN t s_ (v5 a b c_ d e_) (k_ + 1)) from by rw [show smN t s_ (v5 a b c_ d e_) (k_ + 1) = (smN t s_ (v5 a b c_ d e_) k_ && decide (t (s_ + k_) = (v5 a b c_ d e_) k_)) from rfl, decide_eq_false hb84, Bool.and_false, Bool.and_false]; rfl) ?_
                      refine r_istore (lo' := [(7, _), (0, _), (1, _), (2, _), (3, _), (4, _), (5, _), (6, _), (8, _)]) C (dk oX10_isWord 46 rfl) (by decide) rfl ?_
                      refine r_iinc (lo' := [(8, _), (7, _), (0, _), (1, _), (2, _), (3, _), (4, _), (5, _), (6, _)]) C 8 (dk oX10_isWord 47 rfl) rfl (by first | exact nI_inc _ | rfl) (by decide) rfl ?_
                      refine r_goto (tgt := 18) C (dk oX10_isWord 48 rfl) (by decide) ?_
                      refine V.sub [2, 3, 4, 5, 6, 7, 8, 1, 0] rfl ?_
                      exact ih (k_ + 1) (by omega) (by omega)
                    · have hv5 : v5 a b c_ d e_ k_ < 256 := by unfold v5; repeat (first | omega | split)
                      simp (disch := omega) only [nI_leI, nI_ltI, nI_eq, nI_eq0] at hb84
                      refine r_iconst C (dk oX10_isWord 43 rfl) (v := nI 1) (by decide) ?_
                      refine r_topI (show nI 1 = b32 (decide (wE t L s_ - s_ = n_) && smN t s_ (v5 a b c_ d e_) (k_ + 1)) from by rw [show smN t s_ (v5 a b c_ d e_) (k_ + 1) = (smN t s_ (v5 a b c_ d e_) k_ && decide (t (s_ + k_) = (v5 a b c_ d e_) k_)) from rfl, decide_eq_true hb84, Bool.and_true, hb26]; rfl) ?_
                      refine r_goto (tgt := 92) C (dk oX10_isWord 44 rfl) (by decide) ?_
                      refine r_istore (lo' := [(7, _), (0, _), (1, _), (2, _), (3, _), (4, _), (5, _), (6, _), (8, _)]) C (dk oX10_isWord 46 rfl) (by decide) rfl ?_
                      refine r_iinc (lo' := [(8, _), (7, _), (0, _), (1, _), (2, _), (3, _), (4, _), (5, _), (6, _)]) C 8 (dk oX10_isWord 47 rfl) rfl (by first | exact nI_inc _ | rfl) (by decide) rfl ?_
                      refine r_goto (tgt := 18) C (dk oX10_isWord 48 rfl) (by decide) ?_
                      refine V.sub [2, 3, 4, 5, 6, 7, 8, 1, 0] rfl ?_
                      exact ih (k_ + 1) (by omega) (by omega)
                  · simp (disch := omega) only [nI_leI, nI_ltI, nI_eq, nI_eq0] at hb74
                    refine r_iload C 5 (dk oX10_isWord 39 rfl) rfl ?_
                    refine r_topI (show nI d = nI (v5 a b c_ d e_ k_) from by unfold v5; rw [if_neg hb43, if_neg hb53, if_neg hb63, if_pos hb74]) ?_
                    refine r_goto (tgt := 84) C (dk oX10_isWord 40 rfl) (by decide) ?_
                    refine r_icmp_ne (tgt := 91) C (dk oX10_isWord 42 rfl) (by decide) (fun hb84 => ?_) (fun hb84 => ?_)
                    · have hv5 : v5 a b c_ d e_ k_ < 256 := by unfold v5; repeat (first | omega | split)
                      simp (disch := omega) only [nI_leI, nI_ltI, nI_eq, nI_eq0] at hb84
                      refine r_iconst C (dk oX10_isWord 45 rfl) (v := nI 0) (by decide) ?_
                      refine r_topI (show nI 0 = b32 (decide (wE t L s_ - s_ = n_) && smN t s_ (v5 a b c_ d e_) (k_ + 1)) from by rw [show smN t s_ (v5 a b c_ d e_) (k_ + 1) = (smN t s_ (v5 a b c_ d e_) k_ && decide (t (s_ + k_) = (v5 a b c_ d e_) k_)) from rfl, decide_eq_false hb84, Bool.and_false, Bool.and_false]; rfl) ?_
                      refine r_istore (lo' := [(7, _), (0, _), (1, _), (2, _), (3, _), (4, _), (5, _), (6, _), (8, _)]) C (dk oX10_isWord 46 rfl) (by decide) rfl ?_
                      refine r_iinc (lo' := [(8, _), (7, _), (0, _), (1, _), (2, _), (3, _), (4, _), (5, _), (6, _)]) C 8 (dk oX10_isWord 47 rfl) rfl (by first | exact nI_inc _ | rfl) (by decide) rfl ?_
                      refine r_goto (tgt := 18) C (dk oX10_isWord 48 rfl) (by decide) ?_
                      refine V.sub [2, 3, 4, 5, 6, 7, 8, 1, 0] rfl ?_
                      exact ih (k_ + 1) (by omega) (by omega)
                    · have hv5 : v5 a b c_ d e_ k_ < 256 := by unfold v5; repeat (first | omega | split)
                      simp (disch := omega) only [nI_leI, nI_ltI, nI_eq, nI_eq0] at hb84
                      refine r_iconst C (dk oX10_isWord 43 rfl) (v := nI 1) (by decide) ?_
                      refine r_topI (show nI 1 = b32 (decide (wE t L s_ - s_ = n_) && smN t s_ (v5 a b c_ d e_) (k_ + 1)) from by rw [show smN t s_ (v5 a b c_ d e_) (k_ + 1) = (smN t s_ (v5 a b c_ d e_) k_ && decide (t (s_ + k_) = (v5 a b c_ d e_) k_)) from rfl, decide_eq_true hb84, Bool.and_true, hb26]; rfl) ?_
                      refine r_goto (tgt := 92) C (dk oX10_isWord 44 rfl) (by decide) ?_
                      refine r_istore (lo' := [(7, _), (0, _), (1, _), (2, _), (3, _), (4, _), (5, _), (6, _), (8, _)]) C (dk oX10_isWord 46 rfl) (by decide) rfl ?_
                      refine r_iinc (lo' := [(8, _), (7, _), (0, _), (1, _), (2, _), (3, _), (4, _), (5, _), (6, _)]) C 8 (dk oX10_isWord 47 rfl) rfl (by first | exact nI_inc _ | rfl) (by decide) rfl ?_
                      refine r_goto (tgt := 18) C (dk oX10_isWord 48 rfl) (by decide) ?_
                      refine V.sub [2, 3, 4, 5, 6, 7, 8, 1, 0] rfl ?_
                      exact ih (k_ + 1) (by omega) (by omega)
                · simp (disch := omega) only [nI_leI, nI_ltI, nI_eq, nI_eq0] at hb63
                  refine r_iload C 4 (dk oX10_isWord 34 rfl) rfl ?_
                  refine r_topI (show nI c_ = nI (v5 a b c_ d e_ k_) from by unfold v5; rw [if_neg hb43, if_neg hb53, if_pos hb63]) ?_
                  refine r_goto (tgt := 84) C (dk oX10_isWord 35 rfl) (by decide) ?_
                  refine r_icmp_ne (tgt := 91) C (dk oX10_isWord 42 rfl) (by decide) (fun hb84 => ?_) (fun hb84 => ?_)
                  · have hv5 : v5 a b c_ d e_ k_ < 256 := by unfold v5; repeat (first | omega | split)
                    simp (disch := omega) only [nI_leI, nI_ltI, nI_eq, nI_eq0] at hb84
                    refine r_iconst C (dk oX10_isWord 45 rfl) (v := nI 0) (by decide) ?_
                    refine r_topI (show nI 0 = b32 (decide (wE t L s_ - s_ = n_) && smN t s_ (v5 a b c_ d e_) (k_ + 1)) from by rw [show smN t s_ (v5 a b c_ d e_) (k_ + 1) = (smN t s_ (v5 a b c_ d e_) k_ && decide (t (s_ + k_) = (v5 a b c_ d e_) k_)) from rfl, decide_eq_false hb84, Bool.and_false, Bool.and_false]; rfl) ?_
                    refine r_istore (lo' := [(7, _), (0, _), (1, _), (2, _), (3, _), (4, _), (5, _), (6, _), (8, _)]) C (dk oX10_isWord 46 rfl) (by decide) rfl ?_
                    refine r_iinc (lo' := [(8, _), (7, _), (0, _), (1, _), (2, _), (3, _), (4, _), (5, _), (6, _)]) C 8 (dk oX10_isWord 47 rfl) rfl (by first | exact nI_inc _ | rfl) (by decide) rfl ?_
                    refine r_goto (tgt := 18) C (dk oX10_isWord 48 rfl) (by decide) ?_
                    refine V.sub [2, 3, 4, 5, 6, 7, 8, 1, 0] rfl ?_
                    exact ih (k_ + 1) (by omega) (by omega)
                  · have hv5 : v5 a b c_ d e_ k_ < 256 := by unfold v5; repeat (first | omega | split)
                    simp (disch := omega) only [nI_leI, nI_ltI, nI_eq, nI_eq0] at hb84
                    refine r_iconst C (dk oX10_isWord 43 rfl) (v := nI 1) (by decide) ?_
                    refine r_topI (show nI 1 = b32 (decide (wE t L s_ - s_ = n_) && smN t s_ (v5 a b c_ d e_) (k_ + 1)) from by rw [show smN t s_ (v5 a b c_ d e_) (k_ + 1) = (smN t s_ (v5 a b c_ d e_) k_ && decide (t (s_ + k_) = (v5 a b c_ d e_) k_)) from rfl, decide_eq_true hb84, Bool.and_true, hb26]; rfl) ?_
                    refine r_goto (tgt := 92) C (dk oX10_isWord 44 rfl) (by decide) ?_
                    refine r_istore (lo' := [(7, _), (0, _), (1, _), (2, _), (3, _), (4, _), (5, _), (6, _), (8, _)]) C (dk oX10_isWord 46 rfl) (by decide) rfl ?_
                    refine r_iinc (lo' := [(8, _), (7, _), (0, _), (1, _), (2, _), (3, _), (4, _), (5, _), (6, _)]) C 8 (dk oX10_isWord 47 rfl) rfl (by first | exact nI_inc _ | rfl) (by decide) rfl ?_
                    refine r_goto (tgt := 18) C (dk oX10_isWord 48 rfl) (by decide) ?_
                    refine V.sub [2, 3, 4, 5, 6, 7, 8, 1, 0] rfl ?_
                    exact ih (k_ + 1) (by omega) (by omega)
              · simp (disch := omega) only [nI_leI, nI_ltI, nI_eq, nI_eq0] at hb53
                refine r_iload_n C 3 (dk oX10_isWord 29 rfl) rfl ?_
                refine r_topI (show nI b = nI (v5 a b c_ d e_ k_) from by unfold v5; rw [if_neg hb43, if_pos hb53]) ?_
                refine r_goto (tgt := 84) C (dk oX10_isWord 30 rfl) (by decide) ?_
                refine r_icmp_ne (tgt := 91) C (dk oX10_isWord 42 rfl) (by decide) (fun hb84 => ?_) (fun hb84 => ?_)
                · have hv5 : v5 a b c_ d e_ k_ < 256 := by unfold v5; repeat (first | omega | split)
                  simp (disch := omega) only [nI_leI, nI_ltI, nI_eq, nI_eq0] at hb84
                  refine r_iconst C (dk oX10_isWord 45 rfl) (v := nI 0) (by decide) ?_
                  refine r_topI (show nI 0 = b32 (decide (wE t L s_ - s_ = n_) && smN t s_ (v5 a b c_ d e_) (k_ + 1)) from by rw [show smN t s_ (v5 a b c_ d e_) (k_ + 1) = (smN t s_ (v5 a b c_ d e_) k_ && decide (t (s_ + k_) = (v5 a b c_ d e_) k_)) from rfl, decide_eq_false hb84, Bool.and_false, Bool.and_false]; rfl) ?_
                  refine r_istore (lo' := [(7, _), (0, _), (1, _), (2, _), (3, _), (4, _), (5, _), (6, _), (8, _)]) C (dk oX10_isWord 46 rfl) (by decide) rfl ?_
                  refine r_iinc (lo' := [(8, _), (7, _), (0, _), (1, _), (2, _), (3, _), (4, _), (5, _), (6, _)]) C 8 (dk oX10_isWord 47 rfl) rfl (by first | exact nI_inc _ | rfl) (by decide) rfl ?_
                  refine r_goto (tgt := 18) C (dk oX10_isWord 48 rfl) (by decide) ?_
                  refine V.sub [2, 3, 4, 5, 6, 7, 8, 1, 0] rfl ?_
                  exact ih (k_ + 1) (by omega) (by omega)
                · have hv5 : v5 a b c_ d e_ k_ < 256 := by unfold v5; repeat (first | omega | split)
                  simp (disch := omega) only [nI_leI, nI_ltI, nI_eq, nI_eq0] at hb84
                  refine r_iconst C (dk oX10_isWord 43 rfl) (v := nI 1) (by decide) ?_
                  refine r_topI (show nI 1 = b32 (decide (wE t L s_ - s_ = n_) && smN t s_ (v5 a b c_ d e_) (k_ + 1)) from by rw [show smN t s_ (v5 a b c_ d e_) (k_ + 1) = (smN t s_ (v5 a b c_ d e_) k_ && decide (t (s_ + k_) = (v5 a b c_ d e_) k_)) from rfl, decide_eq_true hb84, Bool.and_true, hb26]; rfl) ?_
                  refine r_goto (tgt := 92) C (dk oX10_isWord 44 rfl) (by decide) ?_
                  refine r_istore (lo' := [(7, _), (0, _), (1, _), (2, _), (3, _), (4, _), (5, _), (6, _), (8, _)]) C (dk oX10_isWord 46 rfl) (by decide) rfl ?_
                  refine r_iinc (lo' := [(8, _), (7, _), (0, _), (1, _), (2, _), (3, _), (4, _), (5, _), (6, _)]) C 8 (dk oX10_isWord 47 rfl) rfl (by first | exact nI_inc _ | rfl) (by decide) rfl ?_
                  refine r_goto (tgt := 18) C (dk oX10_isWord 48 rfl) (by decide) ?_
                  refine V.sub [2, 3, 4, 5, 6, 7, 8, 1, 0] rfl ?_
                  exact ih (k_ + 1) (by omega) (by omega)
            · simp (disch := omega) only [nI_leI, nI_ltI, nI_eq, nI_eq0] at hb43
              refine r_iload_n C 2 (dk oX10_isWord 24 rfl) rfl ?_
              refine r_topI (show nI a = nI (v5 a b c_ d e_ k_) from by unfold v5; rw [if_pos hb43]) ?_
              refine r_goto (tgt := 84) C (dk oX10_isWord 25 rfl) (by decide) ?_
              refine r_icmp_ne (tgt := 91) C (dk oX10_isWord 42 rfl) (by decide) (fun hb84 => ?_) (fun hb84 => ?_)
              · have hv5 : v5 a b c_ d e_ k_ < 256 := by unfold v5; repeat (first | omega | split)
                simp (disch := omega) only [nI_leI, nI_ltI, nI_eq, nI_eq0] at hb84
                refine r_iconst C (dk oX10_isWord 45 rfl) (v := nI 0) (by decide) ?_
                refine r_topI (show nI 0 = b32 (decide (wE t L s_ - s_ = n_) && smN t s_ (v5 a b c_ d e_) (k_ + 1)) from by rw [show smN t s_ (v5 a b c_ d e_) (k_ + 1) = (smN t s_ (v5 a b c_ d e_) k_ && decide (t (s_ + k_) = (v5 a b c_ d e_) k_)) from rfl, decide_eq_false hb84, Bool.and_false, Bool.and_false]; rfl) ?_
                refine r_istore (lo' := [(7, _), (0, _), (1, _), (2, _), (3, _), (4, _), (5, _), (6, _), (8, _)]) C (dk oX10_isWord 46 rfl) (by decide) rfl ?_
                refine r_iinc (lo' := [(8, _), (7, _), (0, _), (1, _), (2, _), (3, _), (4, _), (5, _), (6, _)]) C 8 (dk oX10_isWord 47 rfl) rfl (by first | exact nI_inc _ | rfl) (by decide) rfl ?_
                refine r_goto (tgt := 18) C (dk oX10_isWord 48 rfl) (by decide) ?_
                refine V.sub [2, 3, 4, 5, 6, 7, 8, 1, 0] rfl ?_
                exact ih (k_ + 1) (by omega) (by omega)
              · have hv5 : v5 a b c_ d e_ k_ < 256 := by unfold v5; repeat (first | omega | split)
                simp (disch := omega) only [nI_leI, nI_ltI, nI_eq, nI_eq0] at hb84
                refine r_iconst C (dk oX10_isWord 43 rfl) (v := nI 1) (by decide) ?_
                refine r_topI (show nI 1 = b32 (decide (wE t L s_ - s_ = n_) && smN t s_ (v5 a b c_ d e_) (k_ + 1)) from by rw [show smN t s_ (v5 a b c_ d e_) (k_ + 1) = (smN t s_ (v5 a b c_ d e_) k_ && decide (t (s_ + k_) = (v5 a b c_ d e_) k_)) from rfl, decide_eq_true hb84, Bool.and_true, hb26]; rfl) ?_
                refine r_goto (tgt := 92) C (dk oX10_isWord 44 rfl) (by decide) ?_
                refine r_istore (lo' := [(7, _), (0, _), (1, _), (2, _), (3, _), (4, _), (5, _), (6, _), (8, _)]) C (dk oX10_isWord 46 rfl) (by decide) rfl ?_
                refine r_iinc (lo' := [(8, _), (7, _), (0, _), (1, _), (2, _), (3, _), (4, _), (5, _), (6, _)]) C 8 (dk oX10_isWord 47 rfl) rfl (by first | exact nI_inc _ | rfl) (by decide) rfl ?_
                refine r_goto (tgt := 18) C (dk oX10_isWord 48 rfl) (by decide) ?_
                refine V.sub [2, 3, 4, 5, 6, 7, 8, 1, 0] rfl ?_
                exact ih (k_ + 1) (by omega) (by omega)
    refine V.sub [2, 3, 4, 5, 6, 7, 8, 1, 0] rfl ?_
    exact L18 (n_ + 1) 0 (by omega) (Nat.zero_le _)
  · simp (disch := omega) only [nI_leI, nI_ltI, nI_eq, nI_eq0] at hb5
    refine r_iconst C (dk oX10_isWord 4 rfl) (v := nI 1) (by decide) ?_
    refine r_topI (show nI 1 = b32 (decide (wE t L s_ - s_ = n_) && smN t s_ (v5 a b c_ d e_) 0) from by rw [decide_eq_true hb5]; rfl) ?_
    refine r_goto (tgt := 13) C (dk oX10_isWord 5 rfl) (by decide) ?_
    refine r_istore (lo' := [(7, _), (0, _), (1, _), (2, _), (3, _), (4, _), (5, _), (6, _)]) C (dk oX10_isWord 7 rfl) (by decide) rfl ?_
    refine r_iconst C (dk oX10_isWord 8 rfl) (v := nI 0) (by decide) ?_
    refine r_istore (lo' := [(8, _), (7, _), (0, _), (1, _), (2, _), (3, _), (4, _), (5, _), (6, _)]) C (dk oX10_isWord 9 rfl) (by decide) rfl ?_
    have L18 : ∀ (d_ : Nat) (k_ : Nat), n_ - k_ < d_ → k_ ≤ n_ → V p l e (rmL 0) s m args below meth c Q D A 9 0 0 n ad (mE cA ad I J) 18 [(0, .ref (ad 117)), (1, .int (nI n_)), (2, .int (nI a)), (3, .int (nI b)), (4, .int (nI c_)), (5, .int (nI d)), (6, .int (nI e_)), (7, .int (b32 (decide (wE t L s_ - s_ = n_) && smN t s_ (v5 a b c_ d e_) k_))), (8, .int (nI k_))] [] := by
      intro d_
      induction d_ with
      | zero => intros; exact absurd (by assumption) (Nat.not_lt_zero _)
      | succ d_ ih => 
        intro k_ hd_ hk
        refine r_iload C 8 (dk oX10_isWord 10 rfl) rfl ?_
        refine r_iload_n C 1 (dk oX10_isWord 11 rfl) rfl ?_
        refine r_icmp_ge (tgt := 100) C (dk oX10_isWord 12 rfl) (by decide) (fun hb21 => ?_) (fun hb21 => ?_)
        · simp (disch := omega) only [nI_leI, nI_ltI, nI_eq, nI_eq0] at hb21
          refine r_iload C 7 (dk oX10_isWord 49 rfl) rfl ?_
          refine hret (dk oX10_isWord 50 rfl) b32_nar ?_
          first
            | exact ⟨by rw [show k_ = n_ by omega], rfl, rfl⟩
            | (refine ⟨congrArg b32 ?_, rfl, rfl⟩
               rw [hb26]
               cases hd : decide (wE t L s_ - s_ = n_)
               · rfl
               · rw [hd, Bool.true_and] at hb26
                 rw [smN_f hb26 hk]; rfl)
        · simp (disch := omega) only [nI_leI, nI_ltI, nI_eq, nI_eq0] at hb21
          refine r_iload C 7 (dk oX10_isWord 13 rfl) rfl ?_
          refine r_if_eq (tgt := 100) C (dk oX10_isWord 14 rfl) (by decide) (fun hb26 => ?_) (fun hb26 => ?_)
          · rw [b32_0] at hb26
            refine r_iload C 7 (dk oX10_isWord 49 rfl) rfl ?_
            refine hret (dk oX10_isWord 50 rfl) b32_nar ?_
            first
              | exact ⟨by rw [show k_ = n_ by omega], rfl, rfl⟩
              | (refine ⟨congrArg b32 ?_, rfl, rfl⟩
                 rw [hb26]
                 cases hd : decide (wE t L s_ - s_ = n_)
                 · rfl
                 · rw [hd, Bool.true_and] at hb26
                   rw [smN_f hb26 hk]; rfl)
          · rw [b32_n] at hb26
            have hlen : wE t L s_ - s_ = n_ := by
              have h2 := hb26
              rw [Bool.and_eq_true] at h2
              exact of_decide_eq_true h2.1
            refine r_aload_n C 0 (dk oX10_isWord 15 rfl) rfl ?_
            refine r_getR C (dk oX10_isWord 16 rfl) fl_X10_80 rfl (km hn rfl) ?_
            refine r_aload_n C 0 (dk oX10_isWord 17 rfl) rfl ?_
            refine r_getI C (dk oX10_isWord 18 rfl) fl_X10_152 rfl (km hn rfl) ?_
            rw [hs]
            refine r_iload C 8 (dk oX10_isWord 19 rfl) rfl ?_
            refine r_iadd C (dk oX10_isWord 20 rfl) ?_
            rw [nI_add]
            refine r_iald C _ (dk oX10_isWord 21 rfl) rfl (km hn rfl) rfl (by omega) (by decide) ?_
            have htq := hT.2.2 (s_ + k_) (by omega)
            rw [htq.2]
            refine r_iload C 8 (dk oX10_isWord 22 rfl) rfl ?_
            refine r_if_ne (tgt := 50) C (dk oX10_isWord 23 rfl) (by decide) (fun hb43 => ?_) (fun hb43 => ?_)
            · simp (disch := omega) only [nI_leI, nI_ltI, nI_eq, nI_eq0] at hb43
              refine r_iload C 8 (dk oX10_isWord 26 rfl) rfl ?_
              refine r_iconst C (dk oX10_isWord 27 rfl) (v := nI 1) (by decide) ?_
              refine r_icmp_ne (tgt := 60) C (dk oX10_isWord 28 rfl) (by decide) (fun hb53 => ?_) (fun hb53 => ?_)
              · simp (disch := omega) only [nI_leI, nI_ltI, nI_eq, nI_eq0] at hb53
                refine r_iload C 8 (dk oX10_isWord 31 rfl) rfl ?_
                refine r_iconst C (dk oX10_isWord 32 rfl) (v := nI 2) (by decide) ?_
                refine r_icmp_ne (tgt := 71) C (dk oX10_isWord 33 rfl) (by decide) (fun hb63 => ?_) (fun hb63 => ?_)
                · simp (disch := omega) only [nI_leI, nI_ltI, nI_eq, nI_eq0] at hb63
                  refine r_iload C 8 (dk oX10_isWord 36 rfl) rfl ?_
                  refine r_iconst C (dk oX10_isWord 37 rfl) (v := nI 3) (by decide) ?_
                  refine r_icmp_ne (tgt := 82) C (dk oX10_isWord 38 rfl) (by decide) (fun hb74 => ?_) (fun hb74 => ?_)
                  · simp (disch := omega) only [nI_leI, nI_ltI, nI_eq, nI_eq0] at hb74
                    refine r_iload C 6 (dk oX10_isWord 41 rfl) rfl ?_
                    refine r_topI (show nI e_ = nI (v5 a b c_ d e_ k_) from by unfold v5; rw [if_neg hb43, if_neg hb53, if_neg hb63, if_neg hb74]) ?_
                    refine r_icmp_ne (tgt := 91) C (dk oX10_isWord 42 rfl) (by decide) (fun hb84 => ?_) (fun hb84 => ?_)
                    · have hv5 : v5 a b c_ d e_ k_ < 256 := by unfold v5; repeat (first | omega | split)
                      simp (disch := omega) only [nI_leI, nI_ltI, nI_eq, nI_eq0] at hb84
                      refine r_iconst C (dk oX10_isWord 45 rfl) (v := nI 0) (by decide) ?_
                      refine r_topI (show nI 0 = b32 (decide (wE t L s_ - s_ = n_) && smN t s_ (v5 a b c_ d e_) (k_ + 1)) from by rw [show smN t s_ (v5 a b c_ d e_) (k_ + 1) = (smN t s_ (v5 a b c_ d e_) k_ && decide (t (s_ + k_) = (v5 a b c_ d e_) k_)) from rfl, decide_eq_false hb84, Bool.and_false, Bool.and_false]; rfl) ?_
                      refine r_istore (lo' := [(7, _), (0, _), (1, _), (2, _), (3, _), (4, _), (5, _), (6, _), (8, _)]) C (dk oX10_isWord 46 rfl) (by decide) rfl ?_
                      refine r_iinc (lo' := [(8, _), (7, _), (0, _), (1, _), (2, _), (3, _), (4, _), (5, _), (6, _)]) C 8 (dk oX10_isWord 47 rfl) rfl (by first | exact nI_inc _ | rfl) (by decide) rfl ?_
                      refine r_goto (tgt := 18) C (dk oX10_isWord 48 rfl) (by decide) ?_
                      refine V.sub [2, 3, 4, 5, 6, 7, 8, 1, 0] rfl ?_
                      exact ih (k_ + 1) (by omega) (by omega)
                    · have hv5 : v5 a b c_ d e_ k_ < 256 := by unfold v5; repeat (first | omega | split)
                      simp (disch := omega) only [nI_leI, nI_ltI, nI_eq, nI_eq0] at hb84
                      refine r_iconst C (dk oX10_isWord 43 rfl) (v := nI 1) (by decide) ?_
                      refine r_topI (show nI 1 = b32 (decide (wE t L s_ - s_ = n_) && smN t s_ (v5 a b c_ d e_) (k_ + 1)) from by rw [show smN t s_ (v5 a b c_ d e_) (k_ + 1) = (smN t s_ (v5 a b c_ d e_) k_ && decide (t (s_ + k_) = (v5 a b c_ d e_) k_)) from rfl, decide_eq_true hb84, Bool.and_true, hb26]; rfl) ?_
                      refine r_goto (tgt := 92) C (dk oX10_isWord 44 rfl) (by decide) ?_
                      refine r_istore (lo' := [(7, _), (0, _), (1, _), (2, _), (3, _), (4, _), (5, _), (6, _), (8, _)]) C (dk oX10_isWord 46 rfl) (by decide) rfl ?_
                      refine r_iinc (lo' := [(8, _), (7, _), (0, _), (1, _), (2, _), (3, _), (4, _), (5, _), (6, _)]) C 8 (dk oX10_isWord 47 rfl) rfl (by first | exact nI_inc _ | rfl) (by decide) rfl ?_
                      refine r_goto (tgt := 18) C (dk oX10_isWord 48 rfl) (by decide) ?_
                      refine V.sub [2, 3, 4, 5, 6, 7, 8, 1, 0] rfl ?_
                      exact ih (k_ + 1) (by omega) (by omega)
                  · simp (disch := omega) only [nI_leI, nI_ltI, nI_eq, nI_eq0] at hb74
                    refine r_iload C 5 (dk oX10_isWord 39 rfl) rfl ?_
                    refine r_topI (show nI d = nI (v5 a b c_ d e_ k_) from by unfold v5; rw [if_neg hb43, if_neg hb53, if_neg hb63, if_pos hb74]) ?_
                    refine r_goto (tgt := 84) C (dk oX10_isWord 40 rfl) (by decide) ?_
                    refine r_icmp_ne (tgt := 91) C (dk oX10_isWord 42 rfl) (by decide) (fun hb84 => ?_) (fun hb84 => ?_)
                    · have hv5 : v5 a b c_ d e_ k_ < 256 := by unfold v5; repeat (first | omega | split)
                      simp (disch := omega) only [nI_leI, nI_ltI, nI_eq, nI_eq0] at hb84
                      refine r_iconst C (dk oX10_isWord 45 rfl) (v := nI 0) (by decide) ?_
                      refine r_topI (show nI 0 = b32 (decide (wE t L s_ - s_ = n_) && smN t s_ (v5 a b c_ d e_) (k_ + 1)) from by rw [show smN t s_ (v5 a b c_ d e_) (k_ + 1) = (smN t s_ (v5 a b c_ d e_) k_ && decide (t (s_ + k_) = (v5 a b c_ d e_) k_)) from rfl, decide_eq_false hb84, Bool.and_false, Bool.and_false]; rfl) ?_
                      refine r_istore (lo' := [(7, _), (0, _), (1, _), (2, _), (3, _), (4, _), (5, _), (6, _), (8, _)]) C (dk oX10_isWord 46 rfl) (by decide) rfl ?_
                      refine r_iinc (lo' := [(8, _), (7, _), (0, _), (1, _), (2, _), (3, _), (4, _), (5, _), (6, _)]) C 8 (dk oX10_isWord 47 rfl) rfl (by first | exact nI_inc _ | rfl) (by decide) rfl ?_
                      refine r_goto (tgt := 18) C (dk oX10_isWord 48 rfl) (by decide) ?_
                      refine V.sub [2, 3, 4, 5, 6, 7, 8, 1, 0] rfl ?_
                      exact ih (k_ + 1) (by omega) (by omega)
                    · have hv5 : v5 a b c_ d e_ k_ < 256 := by unfold v5; repeat (first | omega | split)
                      simp (disch := omega) only [nI_leI, nI_ltI, nI_eq, nI_eq0] at hb84
                      refine r_iconst C (dk oX10_isWord 43 rfl) (v := nI 1) (by decide) ?_
                      refine r_topI (show nI 1 = b32 (decide (wE t L s_ - s_ = n_) && smN t s_ (v5 a b c_ d e_) (k_ + 1)) from by rw [show smN t s_ (v5 a b c_ d e_) (k_ + 1) = (smN t s_ (v5 a b c_ d e_) k_ && decide (t (s_ + k_) = (v5 a b c_ d e_) k_)) from rfl, decide_eq_true hb84, Bool.and_true, hb26]; rfl) ?_
                      refine r_goto (tgt := 92) C (dk oX10_isWord 44 rfl) (by decide) ?_
                      refine r_istore (lo' := [(7, _), (0, _), (1, _), (2, _), (3, _), (4, _), (5, _), (6, _), (8, _)]) C (dk oX10_isWord 46 rfl) (by decide) rfl ?_
                      refine r_iinc (lo' := [(8, _), (7, _), (0, _), (1, _), (2, _), (3, _), (4, _), (5, _), (6, _)]) C 8 (dk oX10_isWord 47 rfl) rfl (by first | exact nI_inc _ | rfl) (by decide) rfl ?_
                      refine r_goto (tgt := 18) C (dk oX10_isWord 48 rfl) (by decide) ?_
                      refine V.sub [2, 3, 4, 5, 6, 7, 8, 1, 0] rfl ?_
                      exact ih (k_ + 1) (by omega) (by omega)
                · simp (disch := omega) only [nI_leI, nI_ltI, nI_eq, nI_eq0] at hb63
                  refine r_iload C 4 (dk oX10_isWord 34 rfl) rfl ?_
                  refine r_topI (show nI c_ = nI (v5 a b c_ d e_ k_) from by unfold v5; rw [if_neg hb43, if_neg hb53, if_pos hb63]) ?_
                  refine r_goto (tgt := 84) C (dk oX10_isWord 35 rfl) (by decide) ?_
                  refine r_icmp_ne (tgt := 91) C (dk oX10_isWord 42 rfl) (by decide) (fun hb84 => ?_) (fun hb84 => ?_)
                  · have hv5 : v5 a b c_ d e_ k_ < 256 := by unfold v5; repeat (first | omega | split)
                    simp (disch := omega) only [nI_leI, nI_ltI, nI_eq, nI_eq0] at hb84
                    refine r_iconst C (dk oX10_isWord 45 rfl) (v := nI 0) (by decide) ?_
                    refine r_topI (show nI 0 = b32 (decide (wE t L s_ - s_ = n_) && smN t s_ (v5 a b c_ d e_) (k_ + 1)) from by rw [show smN t s_ (v5 a b c_ d e_) (k_ + 1) = (smN t s_ (v5 a b c_ d e_) k_ && decide (t (s_ + k_) = (v5 a b c_ d e_) k_)) from rfl, decide_eq_false hb84, Bool.and_false, Bool.and_false]; rfl) ?_
                    refine r_istore (lo' := [(7, _), (0, _), (1, _), (2, _), (3, _), (4, _), (5, _), (6, _), (8, _)]) C (dk oX10_isWord 46 rfl) (by decide) rfl ?_
                    refine r_iinc (lo' := [(8, _), (7, _), (0, _), (1, _), (2, _), (3, _), (4, _), (5, _), (6, _)]) C 8 (dk oX10_isWord 47 rfl) rfl (by first | exact nI_inc _ | rfl) (by decide) rfl ?_
                    refine r_goto (tgt := 18) C (dk oX10_isWord 48 rfl) (by decide) ?_
                    refine V.sub [2, 3, 4, 5, 6, 7, 8, 1, 0] rfl ?_
                    exact ih (k_ + 1) (by omega) (by omega)
                  · have hv5 : v5 a b c_ d e_ k_ < 256 := by unfold v5; repeat (first | omega | split)
                    simp (disch := omega) only [nI_leI, nI_ltI, nI_eq, nI_eq0] at hb84
                    refine r_iconst C (dk oX10_isWord 43 rfl) (v := nI 1) (by decide) ?_
                    refine r_topI (show nI 1 = b32 (decide (wE t L s_ - s_ = n_) && smN t s_ (v5 a b c_ d e_) (k_ + 1)) from by rw [show smN t s_ (v5 a b c_ d e_) (k_ + 1) = (smN t s_ (v5 a b c_ d e_) k_ && decide (t (s_ + k_) = (v5 a b c_ d e_) k_)) from rfl, decide_eq_true hb84, Bool.and_true, hb26]; rfl) ?_
                    refine r_goto (tgt := 92) C (dk oX10_isWord 44 rfl) (by decide) ?_
                    refine r_istore (lo' := [(7, _), (0, _), (1, _), (2, _), (3, _), (4, _), (5, _), (6, _), (8, _)]) C (dk oX10_isWord 46 rfl) (by decide) rfl ?_
                    refine r_iinc (lo' := [(8, _), (7, _), (0, _), (1, _), (2, _), (3, _), (4, _), (5, _), (6, _)]) C 8 (dk oX10_isWord 47 rfl) rfl (by first | exact nI_inc _ | rfl) (by decide) rfl ?_
                    refine r_goto (tgt := 18) C (dk oX10_isWord 48 rfl) (by decide) ?_
                    refine V.sub [2, 3, 4, 5, 6, 7, 8, 1, 0] rfl ?_
                    exact ih (k_ + 1) (by omega) (by omega)
              · simp (disch := omega) only [nI_leI, nI_ltI, nI_eq, nI_eq0] at hb53
                refine r_iload_n C 3 (dk oX10_isWord 29 rfl) rfl ?_
                refine r_topI (show nI b = nI (v5 a b c_ d e_ k_) from by unfold v5; rw [if_neg hb43, if_pos hb53]) ?_
                refine r_goto (tgt := 84) C (dk oX10_isWord 30 rfl) (by decide) ?_
                refine r_icmp_ne (tgt := 91) C (dk oX10_isWord 42 rfl) (by decide) (fun hb84 => ?_) (fun hb84 => ?_)
                · have hv5 : v5 a b c_ d e_ k_ < 256 := by unfold v5; repeat (first | omega | split)
                  simp (disch := omega) only [nI_leI, nI_ltI, nI_eq, nI_eq0] at hb84
                  refine r_iconst C (dk oX10_isWord 45 rfl) (v := nI 0) (by decide) ?_
                  refine r_topI (show nI 0 = b32 (decide (wE t L s_ - s_ = n_) && smN t s_ (v5 a b c_ d e_) (k_ + 1)) from by rw [show smN t s_ (v5 a b c_ d e_) (k_ + 1) = (smN t s_ (v5 a b c_ d e_) k_ && decide (t (s_ + k_) = (v5 a b c_ d e_) k_)) from rfl, decide_eq_false hb84, Bool.and_false, Bool.and_false]; rfl) ?_
                  refine r_istore (lo' := [(7, _), (0, _), (1, _), (2, _), (3, _), (4, _), (5, _), (6, _), (8, _)]) C (dk oX10_isWord 46 rfl) (by decide) rfl ?_
                  refine r_iinc (lo' := [(8, _), (7, _), (0, _), (1, _), (2, _), (3, _), (4, _), (5, _), (6, _)]) C 8 (dk oX10_isWord 47 rfl) rfl (by first | exact nI_inc _ | rfl) (by decide) rfl ?_
                  refine r_goto (tgt := 18) C (dk oX10_isWord 48 rfl) (by decide) ?_
                  refine V.sub [2, 3, 4, 5, 6, 7, 8, 1, 0] rfl ?_
                  exact ih (k_ + 1) (by omega) (by omega)
                · have hv5 : v5 a b c_ d e_ k_ < 256 := by unfold v5; repeat (first | omega | split)
                  simp (disch := omega) only [nI_leI, nI_ltI, nI_eq, nI_eq0] at hb84
                  refine r_iconst C (dk oX10_isWord 43 rfl) (v := nI 1) (by decide) ?_
                  refine r_topI (show nI 1 = b32 (decide (wE t L s_ - s_ = n_) && smN t s_ (v5 a b c_ d e_) (k_ + 1)) from by rw [show smN t s_ (v5 a b c_ d e_) (k_ + 1) = (smN t s_ (v5 a b c_ d e_) k_ && decide (t (s_ + k_) = (v5 a b c_ d e_) k_)) from rfl, decide_eq_true hb84, Bool.and_true, hb26]; rfl) ?_
                  refine r_goto (tgt := 92) C (dk oX10_isWord 44 rfl) (by decide) ?_
                  refine r_istore (lo' := [(7, _), (0, _), (1, _), (2, _), (3, _), (4, _), (5, _), (6, _), (8, _)]) C (dk oX10_isWord 46 rfl) (by decide) rfl ?_
                  refine r_iinc (lo' := [(8, _), (7, _), (0, _), (1, _), (2, _), (3, _), (4, _), (5, _), (6, _)]) C 8 (dk oX10_isWord 47 rfl) rfl (by first | exact nI_inc _ | rfl) (by decide) rfl ?_
                  refine r_goto (tgt := 18) C (dk oX10_isWord 48 rfl) (by decide) ?_
                  refine V.sub [2, 3, 4, 5, 6, 7, 8, 1, 0] rfl ?_
                  exact ih (k_ + 1) (by omega) (by omega)
            · simp (disch := omega) only [nI_leI, nI_ltI, nI_eq, nI_eq0] at hb43
              refine r_iload_n C 2 (dk oX10_isWord 24 rfl) rfl ?_
              refine r_topI (show nI a = nI (v5 a b c_ d e_ k_) from by unfold v5; rw [if_pos hb43]) ?_
              refine r_goto (tgt := 84) C (dk oX10_isWord 25 rfl) (by decide) ?_
              refine r_icmp_ne (tgt := 91) C (dk oX10_isWord 42 rfl) (by decide) (fun hb84 => ?_) (fun hb84 => ?_)
              · have hv5 : v5 a b c_ d e_ k_ < 256 := by unfold v5; repeat (first | omega | split)
                simp (disch := omega) only [nI_leI, nI_ltI, nI_eq, nI_eq0] at hb84
                refine r_iconst C (dk oX10_isWord 45 rfl) (v := nI 0) (by decide) ?_
                refine r_topI (show nI 0 = b32 (decide (wE t L s_ - s_ = n_) && smN t s_ (v5 a b c_ d e_) (k_ + 1)) from by rw [show smN t s_ (v5 a b c_ d e_) (k_ + 1) = (smN t s_ (v5 a b c_ d e_) k_ && decide (t (s_ + k_) = (v5 a b c_ d e_) k_)) from rfl, decide_eq_false hb84, Bool.and_false, Bool.and_false]; rfl) ?_
                refine r_istore (lo' := [(7, _), (0, _), (1, _), (2, _), (3, _), (4, _), (5, _), (6, _), (8, _)]) C (dk oX10_isWord 46 rfl) (by decide) rfl ?_
                refine r_iinc (lo' := [(8, _), (7, _), (0, _), (1, _), (2, _), (3, _), (4, _), (5, _), (6, _)]) C 8 (dk oX10_isWord 47 rfl) rfl (by first | exact nI_inc _ | rfl) (by decide) rfl ?_
                refine r_goto (tgt := 18) C (dk oX10_isWord 48 rfl) (by decide) ?_
                refine V.sub [2, 3, 4, 5, 6, 7, 8, 1, 0] rfl ?_
                exact ih (k_ + 1) (by omega) (by omega)
              · have hv5 : v5 a b c_ d e_ k_ < 256 := by unfold v5; repeat (first | omega | split)
                simp (disch := omega) only [nI_leI, nI_ltI, nI_eq, nI_eq0] at hb84
                refine r_iconst C (dk oX10_isWord 43 rfl) (v := nI 1) (by decide) ?_
                refine r_topI (show nI 1 = b32 (decide (wE t L s_ - s_ = n_) && smN t s_ (v5 a b c_ d e_) (k_ + 1)) from by rw [show smN t s_ (v5 a b c_ d e_) (k_ + 1) = (smN t s_ (v5 a b c_ d e_) k_ && decide (t (s_ + k_) = (v5 a b c_ d e_) k_)) from rfl, decide_eq_true hb84, Bool.and_true, hb26]; rfl) ?_
                refine r_goto (tgt := 92) C (dk oX10_isWord 44 rfl) (by decide) ?_
                refine r_istore (lo' := [(7, _), (0, _), (1, _), (2, _), (3, _), (4, _), (5, _), (6, _), (8, _)]) C (dk oX10_isWord 46 rfl) (by decide) rfl ?_
                refine r_iinc (lo' := [(8, _), (7, _), (0, _), (1, _), (2, _), (3, _), (4, _), (5, _), (6, _)]) C 8 (dk oX10_isWord 47 rfl) rfl (by first | exact nI_inc _ | rfl) (by decide) rfl ?_
                refine r_goto (tgt := 18) C (dk oX10_isWord 48 rfl) (by decide) ?_
                refine V.sub [2, 3, 4, 5, 6, 7, 8, 1, 0] rfl ?_
                exact ih (k_ + 1) (by omega) (by omega)
    refine V.sub [2, 3, 4, 5, 6, 7, 8, 1, 0] rfl ?_
    exact L18 (n_ + 1) 0 (by omega) (Nat.zero_le _)

end MOD7
