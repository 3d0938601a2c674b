section MOD8
variable {l : Launch} {n : Nat} {ad : Nat → Nat} {cA : Nat → ClassId} {D : va_G} {z : Zw}
/-- a word stands next -/
theorem wd_end {t : Nat → Nat} {L s : Nat} {w : List Nat} (h : isW t L s w = true) : wE t L s = s + w.length := (of_decide_eq_true h).1
theorem vl_ok {t : Nat → Nat} {L s lo hi : Nat} (hs : s < L ∧ isDg (t s) = true) : (decide (nE t L s - s < 4 ∧ lo ≤ vlN t s (nE t L s - s) ∧ vlN t s (nE t L s - s) ≤ hi) = decide (nmF t L s lo hi = 0)) ∧ (nmF t L s lo hi = 0 → vlN t s (nE t L s - s) = nmV t L s) ∧ (¬ nmF t L s lo hi = 0 → nmF t L s lo hi = 2) := by
  have hdg : ∀ k, k ≤ nE t L s - s → ∀ j, j < k → isDg (t (s + j)) = true := fun k hk j hj => (nE_dg (t := t) (L := L) (s := s) (j := j) (by omega)).2
  unfold nmF
  rw [if_pos hs]
  by_cases h4 : 3 < nE t L s - s
  · rw [if_pos (Or.inl h4)]
    exact ⟨by rw [decide_eq_false (fun q => by omega), decide_eq_false (by decide)], fun q => absurd q (by decide), fun _ => rfl⟩
  · have hv : vlN t s (nE t L s - s) = nmV t L s := by
      unfold nmV
      rw [show min 3 (nE t L s - s) = nE t L s - s from Nat.min_eq_right (by omega)]
      exact vl_dv _ (by omega) (hdg _ (Nat.le_refl _))
    rw [hv]
    by_cases h5 : nmV t L s < lo ∨ hi < nmV t L s
    · rw [if_pos (Or.inr h5)]
      exact ⟨by rw [decide_eq_false (fun q => by omega), decide_eq_false (by decide)], fun q => absurd q (by decide), fun _ => rfl⟩
    · rw [if_neg (fun q => q.elim h4 h5)]
      exact ⟨by rw [decide_eq_true (show nE t L s - s < 4 ∧ lo ≤ nmV t L s ∧ nmV t L s ≤ hi by omega), decide_eq_true rfl], fun _ => rfl, fun q => absurd rfl q⟩
theorem nmF_1 {t : Nat → Nat} {L s lo hi : Nat} (hs : ¬ (s < L ∧ isDg (t s) = true)) : nmF t L s lo hi = 1 := if_neg hs
theorem hr_dg {t : Nat → Nat} {L s : Nat} (ht : s < L → t s < 256) : decide ((48 : Int64) ≤ (hrN t L s).toInt64 ∧ (hrN t L s).toInt64 ≤ 57) = decide (s < L ∧ isDg (t s) = true) := by
  unfold hrN
  by_cases h : s < L
  · rw [if_pos h, in_ch (lo := 48) (hi := 57) (l := 48) (h := 57) (ht h) (by decide) (by decide) rfl rfl]
    apply decide_eq_decide.mpr
    show _ ↔ s < L ∧ decide (48 ≤ t s ∧ t s ≤ 57) = true
    rw [decide_eq_true_eq]
    exact Iff.intro (fun q => ⟨h, q⟩) (fun q => q.2)
  · rw [if_neg h]
    rw [decide_eq_false (p := s < L ∧ _) (fun q => h q.1)]
    decide
theorem hr_c {t : Nat → Nat} {L s c : Nat} (ht : s < L → t s < 256) (hc : c < 256) : hrN t L s = nI c ↔ isS t L s c = true := by
  unfold hrN isS
  rw [decide_eq_true_eq]
  by_cases h : s < L
  · have := ht h
    rw [if_pos h, nI_eq (by omega) (by omega)]
    exact Iff.intro (fun q => ⟨h, q⟩) (fun q => q.2)
  · rw [if_neg h]
    exact Iff.intro (fun q => absurd q.symm (nI_m1 (by omega))) (fun q => absurd q.1 h)
theorem hr_n {t : Nat → Nat} {L s : Nat} (ht : s < L → t s < 256) : hrN t L s = -1 ↔ ¬ s < L := by
  unfold hrN
  by_cases h : s < L
  · have := ht h
    rw [if_pos h]
    exact Iff.intro (fun q => absurd q (nI_m1 (by omega))) (fun q => absurd h q)
  · rw [if_neg h]
    exact Iff.intro (fun _ => h) (fun _ => rfl)
/-- what reading a number changes -/
def nuF (I I' : MI) : Prop := (∀ k, k ≠ 117 → I' k = I k) ∧ ∀ i, i ≠ 26 → i ≠ 27 → i ≠ 29 → i ≠ 30 → I' 117 i = I 117 i
theorem in_nat {v lo hi : Nat} (hv : v < 2 ^ 31) (hlo : lo < 2 ^ 31) (hhi : hi < 2 ^ 31) : decide ((nI lo).toInt64 ≤ (nI v).toInt64 ∧ (nI v).toInt64 ≤ (nI hi).toInt64) = decide (lo ≤ v ∧ v ≤ hi) := by
  apply decide_eq_decide.mpr
  rw [nI_l hv, nI_l hlo, nI_l hhi, pk_lLE (by omega) (by omega), pk_lLE (by omega) (by omega)]
set_option maxHeartbeats 1000000 in
set_option maxRecDepth 100000 in
theorem c_X10_isNext (hn : 148 ≤ n) (I : MI) (J : MJ) (t : Nat → Nat) (L : Nat) (hT : MTx I t L) (a_ : Nat) (ha : I 117 26 = nI a_) (haL : a_ ≤ L) (n_ a b c_ : Nat) (hn5 : n_ ≤ 5) (hx : a < 256 ∧ b < 256 ∧ c_ < 256) (w : List Nat) (hw : w.length = n_ ∧ ∀ k, k < n_ → w.getD k 0 = v5 a b c_ 0 0 k) : Ci l n ad cA D z 2 yX10_isNext cX10_isNext 6 .boolean I J [.ref (ad 117), .int (nI n_), .int (nI a), .int (nI b), .int (nI c_)] (fun r I' J' => r = b32 (isW t L (sk t L a_) w) ∧ I' 117 26 = nI (if isW t L (sk t L a_) w = true then (sk t L a_) + n_ else (sk t L a_)) ∧ I' 117 27 = nI (sk t L a_) ∧ tkF I I' ∧ J' = J) := by
  refine Ci.of (by decide) (Nat.le_of_ble_eq_true rfl) ?_
  intro p e s m args below meth c A C hin Z Q hret
  refine r_aload_n C 0 (dk oX10_isNext 0 rfl) rfl ?_
  refine r_ivv C Z (dk oX10_isNext 1 rfl) cl_X10_162 ci_X10_takeWord rfl (km hn rfl) (c_X10_takeWord hn I J t L hT a_ ha haL) rfl rfl (Nat.le_of_ble_eq_true rfl) ⟨Nat.le_of_ble_eq_true rfl, Nat.le_of_ble_eq_true rfl⟩ ⟨Nat.zero_le _, Nat.zero_le _⟩ (fun I1 J1 h1 => ?_)
  obtain ⟨h26, h27, h28, hf, e2_⟩ := h1
  have e2_ := e2_.symm
  subst e2_
  refine r_aload_n C 0 (dk oX10_isNext 2 rfl) rfl ?_
  refine r_iload_n C 1 (dk oX10_isNext 3 rfl) rfl ?_
  refine r_iload_n C 2 (dk oX10_isNext 4 rfl) rfl ?_
  refine r_iload_n C 3 (dk oX10_isNext 5 rfl) rfl ?_
  refine r_iload C 4 (dk oX10_isNext 6 rfl) rfl ?_
  refine r_iconst C (dk oX10_isNext 7 rfl) (v := nI 0) (by decide) ?_
  refine r_iconst C (dk oX10_isNext 8 rfl) (v := nI 0) (by decide) ?_
  refine r_ivi C Z (dk oX10_isNext 9 rfl) cl_X10_165 ci_X10_isWord rfl (km hn rfl) (c_X10_isWord hn I1 J t L (hT.tk hf) (sk t L a_) h27 (sk_le haL) h28 n_ a b c_ 0 0 hn5 ⟨hx.1, hx.2.1, hx.2.2, by decide, by decide⟩ w hw) rfl rfl (Nat.le_of_ble_eq_true rfl) ⟨Nat.le_of_ble_eq_true rfl, Nat.le_of_ble_eq_true rfl⟩ ⟨Nat.zero_le _, Nat.zero_le _⟩ (fun r12 I12 J12 h12 => ?_)
  obtain ⟨h12, e1_, e2_⟩ := h12
  have e1_ := e1_.symm
  have e2_ := e2_.symm
  subst e1_
  subst e2_
  subst h12
  refine r_istore (lo' := [(5, _), (0, _), (1, _), (2, _), (3, _), (4, _)]) C (dk oX10_isNext 10 rfl) (by decide) rfl ?_
  refine r_aload_n C 1 (dk oX10_isNext 11 rfl) rfl ?_
  refine r_iload C 0 (dk oX10_isNext 12 rfl) rfl ?_
  refine r_if_eq (tgt := 30) C (dk oX10_isNext 13 rfl) (by decide) (fun hb20 => ?_) (fun hb20 => ?_)
  · rw [b32_0] at hb20
    refine r_aload_n C 1 (dk oX10_isNext 17 rfl) rfl ?_
    refine r_getI C (dk oX10_isNext 18 rfl) fl_X10_152 rfl (km hn rfl) ?_
    rw [h27]
    refine r_putI C (dk oX10_isNext 19 rfl) fl_X10_142 ft_10_26 rfl (km hn rfl) ?_
    refine r_iload C 0 (dk oX10_isNext 20 rfl) rfl ?_
    refine hret (dk oX10_isNext 21 rfl) b32_nar ?_
    first
      | exact ⟨rfl, by rw [up2_at, hb20, if_pos rfl], by rw [up2_off (by decide)]; exact h27, hf.up _ _ (Or.inl rfl), rfl⟩
      | exact ⟨rfl, by rw [up2_at, hb20, if_neg (by decide)], by rw [up2_off (by decide)]; exact h27, hf.up _ _ (Or.inl rfl), rfl⟩
  · rw [b32_n] at hb20
    refine r_aload_n C 1 (dk oX10_isNext 14 rfl) rfl ?_
    refine r_getI C (dk oX10_isNext 15 rfl) fl_X10_142 rfl (km hn rfl) ?_
    rw [h26, wd_end hb20, hw.1]
    refine r_goto (tgt := 34) C (dk oX10_isNext 16 rfl) (by decide) ?_
    refine r_putI C (dk oX10_isNext 19 rfl) fl_X10_142 ft_10_26 rfl (km hn rfl) ?_
    refine r_iload C 0 (dk oX10_isNext 20 rfl) rfl ?_
    refine hret (dk oX10_isNext 21 rfl) b32_nar ?_
    first
      | exact ⟨rfl, by rw [up2_at, hb20, if_pos rfl], by rw [up2_off (by decide)]; exact h27, hf.up _ _ (Or.inl rfl), rfl⟩
      | exact ⟨rfl, by rw [up2_at, hb20, if_neg (by decide)], by rw [up2_off (by decide)]; exact h27, hf.up _ _ (Or.inl rfl), rfl⟩

set_option maxHeartbeats 1000000 in
set_option maxRecDepth 100000 in
theorem c_X10_takeNumber (hn : 148 ≤ n) (I : MI) (J : MJ) (t : Nat → Nat) (L : Nat) (hT : MTx I t L) (a_ : Nat) (ha : I 117 26 = nI a_) (haL : a_ ≤ L) (hft : I 117 29 = nI 0) (lo hi : Nat) (hlo : lo < 1000) (hhi : hi < 1000) : Ci l n ad cA D z 1 yX10_takeNumber cX10_takeNumber 6 .int I J [.ref (ad 117), .int (nI lo), .int (nI hi)] (fun r I' J' => I' 117 29 = nI (nmF t L (sk t L a_) lo hi) ∧ I' 117 30 = (if (nmF t L (sk t L a_) lo hi) = 0 then I 117 30 else nI (sk t L a_)) ∧ I' 117 27 = nI (sk t L a_) ∧ ((nmF t L (sk t L a_) lo hi) = 0 → r = nI (nmV t L (sk t L a_)) ∧ I' 117 26 = nI (nE t L (sk t L a_))) ∧ (∃ q, q ≤ L ∧ I' 117 26 = nI q) ∧ nuF I I' ∧ J' = J) := by
  refine Ci.of (by decide) (Nat.le_of_ble_eq_true rfl) ?_
  intro p e s m args below meth c A C hin Z Q hret
  have hL := hT.1
  have hsL : (sk t L a_) ≤ L := sk_le haL
  refine r_aload_n C 0 (dk oX10_takeNumber 0 rfl) rfl ?_
  refine r_ivi C Z (dk oX10_takeNumber 1 rfl) cl_X10_148 ci_X10_here rfl (km hn rfl) (c_X10_here hn I J t L (hT) (a_) (ha) (haL)) rfl rfl (Nat.le_of_ble_eq_true rfl) ⟨Nat.le_of_ble_eq_true rfl, Nat.le_of_ble_eq_true rfl⟩ ⟨Nat.zero_le _, Nat.zero_le _⟩ (fun r1 I1 J1 h1 => ?_)
  obtain ⟨e1_, hh1, hhA1, hhB1, e2_⟩ := h1
  have e1_ := e1_.symm
  have e2_ := e2_.symm
  subst e1_
  subst e2_
  refine r_istore_n (lo' := [(3, _), (0, _), (1, _), (2, _)]) C (dk oX10_takeNumber 2 rfl) rfl (by decide) rfl ?_
  refine r_aload_n C 1 (dk oX10_takeNumber 3 rfl) rfl ?_
  refine r_aload_n C 1 (dk oX10_takeNumber 4 rfl) rfl ?_
  refine r_getI C (dk oX10_takeNumber 5 rfl) fl_X10_142 rfl (km hn rfl) ?_
  rw [hh1]
  refine r_putI C (dk oX10_takeNumber 6 rfl) fl_X10_152 ft_10_27 rfl (km hn rfl) ?_
  refine r_aload_n C 1 (dk oX10_takeNumber 7 rfl) rfl ?_
  refine r_iload_n C 0 (dk oX10_takeNumber 8 rfl) rfl ?_
  refine r_i2l C (dk oX10_takeNumber 9 rfl) ?_
  refine r_ldc2 C (dk oX10_takeNumber 10 rfl) kn_X10_169 ?_
  refine r_ldc2 C (dk oX10_takeNumber 11 rfl) kn_X10_171 ?_
  refine r_isi C Z (dk oX10_takeNumber 12 rfl) cl_X10_131 st_X10_in (c_X10_in _ J ((hrN t L (sk t L a_)).toInt64) (48) (57)) rfl rfl (Nat.le_of_ble_eq_true rfl) ⟨Nat.le_of_ble_eq_true rfl, Nat.le_of_ble_eq_true rfl⟩ ⟨Nat.zero_le _, Nat.zero_le _⟩ (fun r22 I22 J22 h22 => ?_)
  obtain ⟨h22, e1_, e2_⟩ := h22
  have e1_ := e1_.symm
  have e2_ := e2_.symm
  subst e1_
  subst e2_
  subst h22
  rw [hr_dg (fun h => (hT.2.2 _ h).1)]
  refine r_iconst C (dk oX10_takeNumber 13 rfl) (v := nI 1) (by decide) ?_
  refine r_aload_n C 1 (dk oX10_takeNumber 14 rfl) rfl ?_
  refine r_getI C (dk oX10_takeNumber 15 rfl) fl_X10_142 rfl (km hn rfl) ?_
  rw [up2_off (by decide), hh1]
  refine r_ivi C Z (dk oX10_takeNumber 16 rfl) cl_X10_173 ci_X10_want rfl (km hn rfl) (c_X10_want hn _ J (decide ((sk t L a_) < L ∧ isDg (t (sk t L a_)) = true)) (nI 1) (nI (sk t L a_)) (nI 0) (by rw [up2_off (by decide), hhB1 29 (by decide)]; exact hft)) rfl rfl (Nat.le_of_ble_eq_true rfl) ⟨Nat.le_of_ble_eq_true rfl, Nat.le_of_ble_eq_true rfl⟩ ⟨Nat.zero_le _, Nat.zero_le _⟩ (fun r30 I30 J30 h30 => ?_)
  obtain ⟨e1_, hI30, e2_⟩ := h30
  have e1_ := e1_.symm
  have e2_ := e2_.symm
  subst e1_
  subst e2_
  refine r_if_ne (tgt := 38) C (dk oX10_takeNumber 17 rfl) (by decide) (fun hb33 => ?_) (fun hb33 => ?_)
  · rw [b32_n, decide_eq_true_eq] at hb33
    have hg : (sk t L a_) < L ∧ isDg (t (sk t L a_)) = true := by
      cases hd : decide ((sk t L a_) < L ∧ isDg (t (sk t L a_)) = true)
      · rw [hd, if_pos ⟨rfl, rfl⟩] at hb33
        exact absurd hb33 (by decide)
      · exact of_decide_eq_true hd
    have hI30 : I30 = up2 I1 117 27 (nI (sk t L a_)) := hI30.trans (if_neg (fun q => by rw [decide_eq_true hg] at q; exact absurd q.1 (by decide)))
    subst hI30
    refine r_iconst C (dk oX10_takeNumber 20 rfl) (v := nI 0) (by decide) ?_
    refine r_istore (lo' := [(4, _), (3, _), (0, _), (1, _), (2, _)]) C (dk oX10_takeNumber 21 rfl) (by decide) rfl ?_
    have L41 : ∀ (d_ : Nat) (k_ : Nat) (I2 : MI), L - ((sk t L a_) + k_) < d_ → (sk t L a_) + k_ ≤ L → (∀ j, j < k_ → isDg (t ((sk t L a_) + j)) = true) → nE t L ((sk t L a_) + k_) = nE t L (sk t L a_) → I2 117 26 = nI ((sk t L a_) + k_) → I2 117 27 = nI (sk t L a_) → I2 117 29 = nI 0 → (∀ k, k ≠ 117 → I2 k = I k) → (∀ i, i ≠ 26 → i ≠ 27 → I2 117 i = I 117 i) → V p l e (rmL 1) s m args below meth c Q D A 6 0 0 n ad (mE cA ad I2 J) 41 [(0, .ref (ad 117)), (1, .int (nI lo)), (2, .int (nI hi)), (4, .int (nI (vlN t (sk t L a_) k_)))] [] := by
      intro d_
      induction d_ with
      | zero => intros; exact absurd (by assumption) (Nat.not_lt_zero _)
      | succ d_ ih => 
        intro k_ I2 hd_ hkL hdg hnE h26 h27 h29 hO hO2
        have hvl := vl_le (t := t) (s := (sk t L a_)) k_ hdg
        refine r_aload_n C 0 (dk oX10_takeNumber 22 rfl) rfl ?_
        refine r_getI C (dk oX10_takeNumber 23 rfl) fl_X10_142 rfl (km hn rfl) ?_
        rw [h26]
        refine r_aload_n C 0 (dk oX10_takeNumber 24 rfl) rfl ?_
        refine r_getI C (dk oX10_takeNumber 25 rfl) fl_X10_136 rfl (km hn rfl) ?_
        rw [hO2 25 (by decide) (by decide), hT.2.1]
        refine r_icmp_ge (tgt := 119) C (dk oX10_takeNumber 26 rfl) (by decide) (fun hb49 => ?_) (fun hb49 => ?_)
        · simp (disch := omega) only [nI_leI, nI_ltI, nI_eq, nI_eq0] at hb49
          have hend : nE t L ((sk t L a_) + k_) = (sk t L a_) + k_ := nE_out (Or.inl hb49)
          refine r_aload_n C 0 (dk oX10_takeNumber 61 rfl) rfl ?_
          refine r_aload_n C 0 (dk oX10_takeNumber 62 rfl) rfl ?_
          refine r_getI C (dk oX10_takeNumber 63 rfl) fl_X10_142 rfl (km hn rfl) ?_
          have hk : nE t L (sk t L a_) - (sk t L a_) = k_ := by omega
          have hvo := vl_ok (t := t) (L := L) (s := (sk t L a_)) (lo := lo) (hi := hi) hg
          rw [hk] at hvo
          rw [h26]
          refine r_aload_n C 0 (dk oX10_takeNumber 64 rfl) rfl ?_
          refine r_getI C (dk oX10_takeNumber 65 rfl) fl_X10_152 rfl (km hn rfl) ?_
          rw [h27]
          refine r_isub C (dk oX10_takeNumber 66 rfl) ?_
          rw [pk_sub (by omega), show (sk t L a_) + k_ - (sk t L a_) = k_ by omega]
          refine r_iconst C (dk oX10_takeNumber 67 rfl) (v := nI 4) (by decide) ?_
          refine r_icmp_ge (tgt := 150) C (dk oX10_takeNumber 68 rfl) (by decide) (fun hb130 => ?_) (fun hb130 => ?_)
          · simp (disch := omega) only [nI_leI, nI_ltI, nI_eq, nI_eq0] at hb130
            refine r_iconst C (dk oX10_takeNumber 79 rfl) (v := nI 0) (by decide) ?_
            refine r_topI (show nI 0 = b32 (decide ((nmF t L (sk t L a_) lo hi) = 0)) from by
              rw [← hvo.1]
              first
                | exact b32_df (fun q => absurd q.1 (Nat.not_lt.mpr hb130))
                | exact b32_df (fun q => of_decide_eq_false hb143 q.2)) ?_
            refine r_iconst C (dk oX10_takeNumber 80 rfl) (v := nI 2) (by decide) ?_
            refine r_aload_n C 0 (dk oX10_takeNumber 81 rfl) rfl ?_
            refine r_getI C (dk oX10_takeNumber 82 rfl) fl_X10_152 rfl (km hn rfl) ?_
            rw [h27]
            refine r_ivi C Z (dk oX10_takeNumber 83 rfl) cl_X10_173 ci_X10_want rfl (km hn rfl) (c_X10_want hn I2 J (decide ((nmF t L (sk t L a_) lo hi) = 0)) (nI 2) (nI (sk t L a_)) (nI 0) h29) rfl rfl (Nat.le_of_ble_eq_true rfl) ⟨Nat.le_of_ble_eq_true rfl, Nat.le_of_ble_eq_true rfl⟩ ⟨Nat.zero_le _, Nat.zero_le _⟩ (fun r156 I156 J156 h156 => ?_)
            obtain ⟨e1_, hI156, e2_⟩ := h156
            have e1_ := e1_.symm
            have e2_ := e2_.symm
            subst e1_
            subst e2_
            refine r_istore (lo' := [(5, _), (0, _), (1, _), (2, _), (4, _)]) C (dk oX10_takeNumber 84 rfl) (by decide) rfl ?_
            refine r_iload C 4 (dk oX10_takeNumber 85 rfl) rfl ?_
            refine hret (dk oX10_takeNumber 86 rfl) rfl ?_
            by_cases hz : (nmF t L (sk t L a_) lo hi) = 0
            · have hI2 : I156 = I2 := hI156.trans (if_neg (fun q => by rw [decide_eq_true hz] at q; exact absurd q.1 (by decide)))
              subst hI2
              exact ⟨by rw [hz]; exact h29, by rw [if_pos hz]; exact hO2 30 (by decide) (by decide), h27, fun _ => ⟨by rw [hvo.2.1 hz], by rw [h26]; congr 1; omega⟩, ⟨_, hkL, h26⟩, ⟨hO, fun i a b _ _ => hO2 i a b⟩, rfl⟩
            · have hI2 : I156 = up2 (up2 I2 117 29 (nI 2)) 117 30 (nI (sk t L a_)) := hI156.trans (if_pos ⟨decide_eq_false hz, rfl⟩)
              subst hI2
              have h2 := hvo.2.2 hz
              exact ⟨by rw [h2, up2_off (by decide), up2_at], by rw [if_neg hz, up2_at], by rw [up2_off (by decide), up2_off (by decide)]; exact h27, fun q => absurd q hz, ⟨_, hkL, by rw [up2_off (by decide), up2_off (by decide)]; exact h26⟩, ⟨fun k hk => by rw [up2_ne hk, up2_ne hk]; exact hO k hk, fun i a b c d => by rw [up2_off d, up2_off c]; exact hO2 i a b⟩, rfl⟩
          · simp (disch := omega) only [nI_leI, nI_ltI, nI_eq, nI_eq0] at hb130
            refine r_iload C 3 (dk oX10_takeNumber 69 rfl) rfl ?_
            refine r_i2l C (dk oX10_takeNumber 70 rfl) ?_
            refine r_iload_n C 1 (dk oX10_takeNumber 71 rfl) rfl ?_
            refine r_i2l C (dk oX10_takeNumber 72 rfl) ?_
            refine r_iload_n C 2 (dk oX10_takeNumber 73 rfl) rfl ?_
            refine r_i2l C (dk oX10_takeNumber 74 rfl) ?_
            refine r_isi C Z (dk oX10_takeNumber 75 rfl) cl_X10_131 st_X10_in (c_X10_in I2 J ((nI (vlN t (sk t L a_) k_)).toInt64) ((nI lo).toInt64) ((nI hi).toInt64)) rfl rfl (Nat.le_of_ble_eq_true rfl) ⟨Nat.le_of_ble_eq_true rfl, Nat.le_of_ble_eq_true rfl⟩ ⟨Nat.zero_le _, Nat.zero_le _⟩ (fun r140 I140 J140 h140 => ?_)
            obtain ⟨h140, e1_, e2_⟩ := h140
            have e1_ := e1_.symm
            have e2_ := e2_.symm
            subst e1_
            subst e2_
            subst h140
            rw [in_nat (by omega) (by omega) (by omega)]
            refine r_if_eq (tgt := 150) C (dk oX10_takeNumber 76 rfl) (by decide) (fun hb143 => ?_) (fun hb143 => ?_)
            · rw [b32_0] at hb143
              refine r_iconst C (dk oX10_takeNumber 79 rfl) (v := nI 0) (by decide) ?_
              refine r_topI (show nI 0 = b32 (decide ((nmF t L (sk t L a_) lo hi) = 0)) from by
                rw [← hvo.1]
                first
                  | exact b32_df (fun q => absurd q.1 (Nat.not_lt.mpr hb130))
                  | exact b32_df (fun q => of_decide_eq_false hb143 q.2)) ?_
              refine r_iconst C (dk oX10_takeNumber 80 rfl) (v := nI 2) (by decide) ?_
              refine r_aload_n C 0 (dk oX10_takeNumber 81 rfl) rfl ?_
              refine r_getI C (dk oX10_takeNumber 82 rfl) fl_X10_152 rfl (km hn rfl) ?_
              rw [h27]
              refine r_ivi C Z (dk oX10_takeNumber 83 rfl) cl_X10_173 ci_X10_want rfl (km hn rfl) (c_X10_want hn I2 J (decide ((nmF t L (sk t L a_) lo hi) = 0)) (nI 2) (nI (sk t L a_)) (nI 0) h29) rfl rfl (Nat.le_of_ble_eq_true rfl) ⟨Nat.le_of_ble_eq_true rfl, Nat.le_of_ble_eq_true rfl⟩ ⟨Nat.zero_le _, Nat.zero_le _⟩ (fun r156 I156 J156 h156 => ?_)
              obtain ⟨e1_, hI156, e2_⟩ := h156
              have e1_ := e1_.symm
              have e2_ := e2_.symm
              subst e1_
              subst e2_
              refine r_istore (lo' := [(5, _), (0, _), (1, _), (2, _), (4, _)]) C (dk oX10_takeNumber 84 rfl) (by decide) rfl ?_
              refine r_iload C 4 (dk oX10_takeNumber 85 rfl) rfl ?_
              refine hret (dk oX10_takeNumber 86 rfl) rfl ?_
              by_cases hz : (nmF t L (sk t L a_) lo hi) = 0
              · have hI2 : I156 = I2 := hI156.trans (if_neg (fun q => by rw [decide_eq_true hz] at q; exact absurd q.1 (by decide)))
                subst hI2
                exact ⟨by rw [hz]; exact h29, by rw [if_pos hz]; exact hO2 30 (by decide) (by decide), h27, fun _ => ⟨by rw [hvo.2.1 hz], by rw [h26]; congr 1; omega⟩, ⟨_, hkL, h26⟩, ⟨hO, fun i a b _ _ => hO2 i a b⟩, rfl⟩
              · have hI2 : I156 = up2 (up2 I2 117 29 (nI 2)) 117 30 (nI (sk t L a_)) := hI156.trans (if_pos ⟨decide_eq_false hz, rfl⟩)
                subst hI2
                have h2 := hvo.2.2 hz
                exact ⟨by rw [h2, up2_off (by decide), up2_at], by rw [if_neg hz, up2_at], by rw [up2_off (by decide), up2_off (by decide)]; exact h27, fun q => absurd q hz, ⟨_, hkL, by rw [up2_off (by decide), up2_off (by decide)]; exact h26⟩, ⟨fun k hk => by rw [up2_ne hk, up2_ne hk]; exact hO k hk, fun i a b c d => by rw [up2_off d, up2_off c]; exact hO2 i a b⟩, rfl⟩
            · rw [b32_n] at hb143
              refine r_iconst C (dk oX10_takeNumber 77 rfl) (v := nI 1) (by decide) ?_
              refine r_topI (show nI 1 = b32 (decide ((nmF t L (sk t L a_) lo hi) = 0)) from by rw [← hvo.1]; exact b32_dt ⟨by omega, of_decide_eq_true hb143⟩) ?_
              refine r_goto (tgt := 151) C (dk oX10_takeNumber 78 rfl) (by decide) ?_
              refine r_iconst C (dk oX10_takeNumber 80 rfl) (v := nI 2) (by decide) ?_
              refine r_aload_n C 0 (dk oX10_takeNumber 81 rfl) rfl ?_
              refine r_getI C (dk oX10_takeNumber 82 rfl) fl_X10_152 rfl (km hn rfl) ?_
              rw [h27]
              refine r_ivi C Z (dk oX10_takeNumber 83 rfl) cl_X10_173 ci_X10_want rfl (km hn rfl) (c_X10_want hn I2 J (decide ((nmF t L (sk t L a_) lo hi) = 0)) (nI 2) (nI (sk t L a_)) (nI 0) h29) rfl rfl (Nat.le_of_ble_eq_true rfl) ⟨Nat.le_of_ble_eq_true rfl, Nat.le_of_ble_eq_true rfl⟩ ⟨Nat.zero_le _, Nat.zero_le _⟩ (fun r156 I156 J156 h156 => ?_)
              obtain ⟨e1_, hI156, e2_⟩ := h156
              have e1_ := e1_.symm
              have e2_ := e2_.symm
              subst e1_
              subst e2_
              refine r_istore (lo' := [(5, _), (0, _), (1, _), (2, _), (4, _)]) C (dk oX10_takeNumber 84 rfl) (by decide) rfl ?_
              refine r_iload C 4 (dk oX10_takeNumber 85 rfl) rfl ?_
              refine hret (dk oX10_takeNumber 86 rfl) rfl ?_
              by_cases hz : (nmF t L (sk t L a_) lo hi) = 0
              · have hI2 : I156 = I2 := hI156.trans (if_neg (fun q => by rw [decide_eq_true hz] at q; exact absurd q.1 (by decide)))
                subst hI2
                exact ⟨by rw [hz]; exact h29, by rw [if_pos hz]; exact hO2 30 (by decide) (by decide), h27, fun _ => ⟨by rw [hvo.2.1 hz], by rw [h26]; congr 1; omega⟩, ⟨_, hkL, h26⟩, ⟨hO, fun i a b _ _ => hO2 i a b⟩, rfl⟩
              · have hI2 : I156 = up2 (up2 I2 117 29 (nI 2)) 117 30 (nI (sk t L a_)) := hI156.trans (if_pos ⟨decide_eq_false hz, rfl⟩)
                subst hI2
                have h2 := hvo.2.2 hz
                exact ⟨by rw [h2, up2_off (by decide), up2_at], by rw [if_neg hz, up2_at], by rw [up2_off (by decide), up2_off (by decide)]; exact h27, fun q => absurd q hz, ⟨_, hkL, by rw [up2_off (by decide), up2_off (by decide)]; exact h26⟩, ⟨fun k hk => by rw [up2_ne hk, up2_ne hk]; exact hO k hk, fun i a b c d => by rw [up2_off d, up2_off c]; exact hO2 i a b⟩, rfl⟩
        · simp (disch := omega) only [nI_leI, nI_ltI, nI_eq, nI_eq0] at hb49
          have hb49 : (sk t L a_) + k_ < L := by omega
          refine r_aload_n C 0 (dk oX10_takeNumber 27 rfl) rfl ?_
          refine r_getR C (dk oX10_takeNumber 28 rfl) fl_X10_80 rfl (km hn rfl) ?_
          refine r_aload_n C 0 (dk oX10_takeNumber 29 rfl) rfl ?_
          refine r_getI C (dk oX10_takeNumber 30 rfl) fl_X10_142 rfl (km hn rfl) ?_
          rw [h26]
          refine r_iald C _ (dk oX10_takeNumber 31 rfl) rfl (km hn rfl) rfl (by omega) (by decide) ?_
          have htq := hT.2.2 ((sk t L a_) + k_) (by omega)
          rw [hO 141 (by decide), htq.2]
          refine r_i2l C (dk oX10_takeNumber 32 rfl) ?_
          refine r_ldc2 C (dk oX10_takeNumber 33 rfl) kn_X10_169 ?_
          refine r_ldc2 C (dk oX10_takeNumber 34 rfl) kn_X10_171 ?_
          refine r_isi C Z (dk oX10_takeNumber 35 rfl) cl_X10_131 st_X10_in (c_X10_in I2 J ((nI (t ((sk t L a_) + k_))).toInt64) (48) (57)) rfl rfl (Nat.le_of_ble_eq_true rfl) ⟨Nat.le_of_ble_eq_true rfl, Nat.le_of_ble_eq_true rfl⟩ ⟨Nat.zero_le _, Nat.zero_le _⟩ (fun r68 I68 J68 h68 => ?_)
          obtain ⟨h68, e1_, e2_⟩ := h68
          have e1_ := e1_.symm
          have e2_ := e2_.symm
          subst e1_
          subst e2_
          subst h68
          refine r_if_eq (tgt := 119) C (dk oX10_takeNumber 36 rfl) (by decide) (fun hb71 => ?_) (fun hb71 => ?_)
          · rw [b32_0, in_ch (lo := 48) (hi := 57) (l := 48) (h := 57) htq.1 (by decide) (by decide) rfl rfl] at hb71
            have hend : nE t L ((sk t L a_) + k_) = (sk t L a_) + k_ := nE_out (Or.inr hb71)
            refine r_aload_n C 0 (dk oX10_takeNumber 61 rfl) rfl ?_
            refine r_aload_n C 0 (dk oX10_takeNumber 62 rfl) rfl ?_
            refine r_getI C (dk oX10_takeNumber 63 rfl) fl_X10_142 rfl (km hn rfl) ?_
            have hk : nE t L (sk t L a_) - (sk t L a_) = k_ := by omega
            have hvo := vl_ok (t := t) (L := L) (s := (sk t L a_)) (lo := lo) (hi := hi) hg
            rw [hk] at hvo
            rw [h26]
            refine r_aload_n C 0 (dk oX10_takeNumber 64 rfl) rfl ?_
            refine r_getI C (dk oX10_takeNumber 65 rfl) fl_X10_152 rfl (km hn rfl) ?_
            rw [h27]
            refine r_isub C (dk oX10_takeNumber 66 rfl) ?_
            rw [pk_sub (by omega), show (sk t L a_) + k_ - (sk t L a_) = k_ by omega]
            refine r_iconst C (dk oX10_takeNumber 67 rfl) (v := nI 4) (by decide) ?_
            refine r_icmp_ge (tgt := 150) C (dk oX10_takeNumber 68 rfl) (by decide) (fun hb130 => ?_) (fun hb130 => ?_)
            · simp (disch := omega) only [nI_leI, nI_ltI, nI_eq, nI_eq0] at hb130
              refine r_iconst C (dk oX10_takeNumber 79 rfl) (v := nI 0) (by decide) ?_
              refine r_topI (show nI 0 = b32 (decide ((nmF t L (sk t L a_) lo hi) = 0)) from by
                rw [← hvo.1]
                first
                  | exact b32_df (fun q => absurd q.1 (Nat.not_lt.mpr hb130))
                  | exact b32_df (fun q => of_decide_eq_false hb143 q.2)) ?_
              refine r_iconst C (dk oX10_takeNumber 80 rfl) (v := nI 2) (by decide) ?_
              refine r_aload_n C 0 (dk oX10_takeNumber 81 rfl) rfl ?_
              refine r_getI C (dk oX10_takeNumber 82 rfl) fl_X10_152 rfl (km hn rfl) ?_
              rw [h27]
              refine r_ivi C Z (dk oX10_takeNumber 83 rfl) cl_X10_173 ci_X10_want rfl (km hn rfl) (c_X10_want hn I2 J (decide ((nmF t L (sk t L a_) lo hi) = 0)) (nI 2) (nI (sk t L a_)) (nI 0) h29) rfl rfl (Nat.le_of_ble_eq_true rfl) ⟨Nat.le_of_ble_eq_true rfl, Nat.le_of_ble_eq_true rfl⟩ ⟨Nat.zero_le _, Nat.zero_le _⟩ (fun r156 I156 J156 h156 => ?_)
              obtain ⟨e1_, hI156, e2_⟩ := h156
              have e1_ := e1_.symm
              have e2_ := e2_.symm
              subst e1_
              subst e2_
              refine r_istore (lo' := [(5, _), (0, _), (1, _), (2, _), (4, _)]) C (dk oX10_takeNumber 84 rfl) (by decide) rfl ?_
              refine r_iload C 4 (dk oX10_takeNumber 85 rfl) rfl ?_
              refine hret (dk oX10_takeNumber 86 rfl) rfl ?_
              by_cases hz : (nmF t L (sk t L a_) lo hi) = 0
              · have hI2 : I156 = I2 := hI156.trans (if_neg (fun q => by rw [decide_eq_true hz] at q; exact absurd q.1 (by decide)))
                subst hI2
                exact ⟨by rw [hz]; exact h29, by rw [if_pos hz]; exact hO2 30 (by decide) (by decide), h27, fun _ => ⟨by rw [hvo.2.1 hz], by rw [h26]; congr 1; omega⟩, ⟨_, hkL, h26⟩, ⟨hO, fun i a b _ _ => hO2 i a b⟩, rfl⟩
              · have hI2 : I156 = up2 (up2 I2 117 29 (nI 2)) 117 30 (nI (sk t L a_)) := hI156.trans (if_pos ⟨decide_eq_false hz, rfl⟩)
                subst hI2
                have h2 := hvo.2.2 hz
                exact ⟨by rw [h2, up2_off (by decide), up2_at], by rw [if_neg hz, up2_at], by rw [up2_off (by decide), up2_off (by decide)]; exact h27, fun q => absurd q hz, ⟨_, hkL, by rw [up2_off (by decide), up2_off (by decide)]; exact h26⟩, ⟨fun k hk => by rw [up2_ne hk, up2_ne hk]; exact hO k hk, fun i a b c d => by rw [up2_off d, up2_off c]; exact hO2 i a b⟩, rfl⟩
            · simp (disch := omega) only [nI_leI, nI_ltI, nI_eq, nI_eq0] at hb130
              refine r_iload C 3 (dk oX10_takeNumber 69 rfl) rfl ?_
              refine r_i2l C (dk oX10_takeNumber 70 rfl) ?_
              refine r_iload_n C 1 (dk oX10_takeNumber 71 rfl) rfl ?_
              refine r_i2l C (dk oX10_takeNumber 72 rfl) ?_
              refine r_iload_n C 2 (dk oX10_takeNumber 73 rfl) rfl ?_
              refine r_i2l C (dk oX10_takeNumber 74 rfl) ?_
              refine r_isi C Z (dk oX10_takeNumber 75 rfl) cl_X10_131 st_X10_in (c_X10_in I2 J ((nI (vlN t (sk t L a_) k_)).toInt64) ((nI lo).toInt64) ((nI hi).toInt64)) rfl rfl (Nat.le_of_ble_eq_true rfl) ⟨Nat.le_of_ble_eq_true rfl, Nat.le_of_ble_eq_true rfl⟩ ⟨Nat.zero_le _, Nat.zero_le _⟩ (fun r140 I140 J140 h140 => ?_)
              obtain ⟨h140, e1_, e2_⟩ := h140
              have e1_ := e1_.symm
              have e2_ := e2_.symm
              subst e1_
              subst e2_
              subst h140
              rw [in_nat (by omega) (by omega) (by omega)]
              refine r_if_eq (tgt := 150) C (dk oX10_takeNumber 76 rfl) (by decide) (fun hb143 => ?_) (fun hb143 => ?_)
              · rw [b32_0] at hb143
                refine r_iconst C (dk oX10_takeNumber 79 rfl) (v := nI 0) (by decide) ?_
                refine r_topI (show nI 0 = b32 (decide ((nmF t L (sk t L a_) lo hi) = 0)) from by
                  rw [← hvo.1]
                  first
                    | exact b32_df (fun q => absurd q.1 (Nat.not_lt.mpr hb130))
                    | exact b32_df (fun q => of_decide_eq_false hb143 q.2)) ?_
                refine r_iconst C (dk oX10_takeNumber 80 rfl) (v := nI 2) (by decide) ?_
                refine r_aload_n C 0 (dk oX10_takeNumber 81 rfl) rfl ?_
                refine r_getI C (dk oX10_takeNumber 82 rfl) fl_X10_152 rfl (km hn rfl) ?_
                rw [h27]
                refine r_ivi C Z (dk oX10_takeNumber 83 rfl) cl_X10_173 ci_X10_want rfl (km hn rfl) (c_X10_want hn I2 J (decide ((nmF t L (sk t L a_) lo hi) = 0)) (nI 2) (nI (sk t L a_)) (nI 0) h29) rfl rfl (Nat.le_of_ble_eq_true rfl) ⟨Nat.le_of_ble_eq_true rfl, Nat.le_of_ble_eq_true rfl⟩ ⟨Nat.zero_le _, Nat.zero_le _⟩ (fun r156 I156 J156 h156 => ?_)
                obtain ⟨e1_, hI156, e2_⟩ := h156
                have e1_ := e1_.symm
                have e2_ := e2_.symm
                subst e1_
                subst e2_
                refine r_istore (lo' := [(5, _), (0, _), (1, _), (2, _), (4, _)]) C (dk oX10_takeNumber 84 rfl) (by decide) rfl ?_
                refine r_iload C 4 (dk oX10_takeNumber 85 rfl) rfl ?_
                refine hret (dk oX10_takeNumber 86 rfl) rfl ?_
                by_cases hz : (nmF t L (sk t L a_) lo hi) = 0
                · have hI2 : I156 = I2 := hI156.trans (if_neg (fun q => by rw [decide_eq_true hz] at q; exact absurd q.1 (by decide)))
                  subst hI2
                  exact ⟨by rw [hz]; exact h29, by rw [if_pos hz]; exact hO2 30 (by decide) (by decide), h27, fun _ => ⟨by rw [hvo.2.1 hz], by rw [h26]; congr 1; omega⟩, ⟨_, hkL, h26⟩, ⟨hO, fun i a b _ _ => hO2 i a b⟩, rfl⟩
                · have hI2 : I156 = up2 (up2 I2 117 29 (nI 2)) 117 30 (nI (sk t L a_)) := hI156.trans (if_pos ⟨decide_eq_false hz, rfl⟩)
                  subst hI2
                  have h2 := hvo.2.2 hz
                  exact ⟨by rw [h2, up2_off (by decide), up2_at], by rw [if_neg hz, up2_at], by rw [up2_off (by decide), up2_off (by decide)]; exact h27, fun q => absurd q hz, ⟨_, hkL, by rw [up2_off (by decide), up2_off (by decide)]; exact h26⟩, ⟨fun k hk => by rw [up2_ne hk, up2_ne hk]; exact hO k hk, fun i a b c d => by rw [up2_off d, up2_off c]; exact hO2 i a b⟩, rfl⟩
              · rw [b32_n] at hb143
                refine r_iconst C (dk oX10_takeNumber 77 rfl) (v := nI 1) (by decide) ?_
                refine r_topI (show nI 1 = b32 (decide ((nmF t L (sk t L a_) lo hi) = 0)) from by rw [← hvo.1]; exact b32_dt ⟨by omega, of_decide_eq_true hb143⟩) ?_
                refine r_goto (tgt := 151) C (dk oX10_takeNumber 78 rfl) (by decide) ?_
                refine r_iconst C (dk oX10_takeNumber 80 rfl) (v := nI 2) (by decide) ?_
                refine r_aload_n C 0 (dk oX10_takeNumber 81 rfl) rfl ?_
                refine r_getI C (dk oX10_takeNumber 82 rfl) fl_X10_152 rfl (km hn rfl) ?_
                rw [h27]
                refine r_ivi C Z (dk oX10_takeNumber 83 rfl) cl_X10_173 ci_X10_want rfl (km hn rfl) (c_X10_want hn I2 J (decide ((nmF t L (sk t L a_) lo hi) = 0)) (nI 2) (nI (sk t L a_)) (nI 0) h29) rfl rfl (Nat.le_of_ble_eq_true rfl) ⟨Nat.le_of_ble_eq_true rfl, Nat.le_of_ble_eq_true rfl⟩ ⟨Nat.zero_le _, Nat.zero_le _⟩ (fun r156 I156 J156 h156 => ?_)
                obtain ⟨e1_, hI156, e2_⟩ := h156
                have e1_ := e1_.symm
                have e2_ := e2_.symm
                subst e1_
                subst e2_
                refine r_istore (lo' := [(5, _), (0, _), (1, _), (2, _), (4, _)]) C (dk oX10_takeNumber 84 rfl) (by decide) rfl ?_
                refine r_iload C 4 (dk oX10_takeNumber 85 rfl) rfl ?_
                refine hret (dk oX10_takeNumber 86 rfl) rfl ?_
                by_cases hz : (nmF t L (sk t L a_) lo hi) = 0
                · have hI2 : I156 = I2 := hI156.trans (if_neg (fun q => by rw [decide_eq_true hz] at q; exact absurd q.1 (by decide)))
                  subst hI2
                  exact ⟨by rw [hz]; exact h29, by rw [if_pos hz]; exact hO2 30 (by decide) (by decide), h27, fun _ => ⟨by rw [hvo.2.1 hz], by rw [h26]; congr 1; omega⟩, ⟨_, hkL, h26⟩, ⟨hO, fun i a b _ _ => hO2 i a b⟩, rfl⟩
                · have hI2 : I156 = up2 (up2 I2 117 29 (nI 2)) 117 30 (nI (sk t L a_)) := hI156.trans (if_pos ⟨decide_eq_false hz, rfl⟩)
                  subst hI2
                  have h2 := hvo.2.2 hz
                  exact ⟨by rw [h2, up2_off (by decide), up2_at], by rw [if_neg hz, up2_at], by rw [up2_off (by decide), up2_off (by decide)]; exact h27, fun q => absurd q hz, ⟨_, hkL, by rw [up2_off (by decide), up2_off (by decide)]; exact h26⟩, ⟨fun k hk => by rw [up2_ne hk, up2_ne hk]; exact hO k hk, fun i a b c d => by rw [up2_off d, up2_off c]; exact hO2 i a b⟩, rfl⟩
          · rw [b32_n, in_ch (lo := 48) (hi := 57) (l := 48) (h := 57) htq.1 (by decide) (by decide) rfl rfl] at hb71
            refine r_iload C 3 (dk oX10_takeNumber 37 rfl) rfl ?_
            refine r_ldc C (dk oX10_takeNumber 38 rfl) kn_X10_177 ?_
            refine r_icmp_le (tgt := 86) C (dk oX10_takeNumber 39 rfl) (by decide) (fun hb78 => ?_) (fun hb78 => ?_)
            · rw [show (99999 : Int32) = nI 99999 from rfl] at hb78
              simp (disch := omega) only [nI_leI, nI_ltI, nI_eq, nI_eq0] at hb78
              refine r_bipush C (dk oX10_takeNumber 42 rfl) (v := nI 10) (by decide) ?_
              refine r_iload C 3 (dk oX10_takeNumber 43 rfl) rfl ?_
              refine r_imul C (dk oX10_takeNumber 44 rfl) ?_
              rw [pk_mul]
              refine r_aload_n C 0 (dk oX10_takeNumber 45 rfl) rfl ?_
              refine r_getR C (dk oX10_takeNumber 46 rfl) fl_X10_80 rfl (km hn rfl) ?_
              refine r_aload_n C 0 (dk oX10_takeNumber 47 rfl) rfl ?_
              refine r_getI C (dk oX10_takeNumber 48 rfl) fl_X10_142 rfl (km hn rfl) ?_
              rw [h26]
              refine r_iald C _ (dk oX10_takeNumber 49 rfl) rfl (km hn rfl) rfl (by omega) (by decide) ?_
              rw [hO 141 (by decide), htq.2]
              refine r_iadd C (dk oX10_takeNumber 50 rfl) ?_
              rw [nI_add]
              refine r_bipush C (dk oX10_takeNumber 51 rfl) (v := nI 48) (by decide) ?_
              refine r_isub C (dk oX10_takeNumber 52 rfl) ?_
              have hd48 := of_decide_eq_true hb71
              rw [pk_sub (by omega)]
              refine r_topI (show nI (10 * vlN t (sk t L a_) k_ + t ((sk t L a_) + k_) - 48) = nI (vlN t (sk t L a_) (k_ + 1)) from by
                rw [show vlN t (sk t L a_) (k_ + 1) = 10 * vlN t (sk t L a_) k_ + (t ((sk t L a_) + k_) - 48) from if_neg (by omega)]
                congr 1
                omega) ?_
              refine r_istore (lo' := [(4, _), (0, _), (1, _), (2, _)]) C (dk oX10_takeNumber 53 rfl) (by decide) rfl ?_
              refine r_aload_n C 1 (dk oX10_takeNumber 54 rfl) rfl ?_
              refine r_dup C (dk oX10_takeNumber 55 rfl) rfl ?_
              refine r_getI C (dk oX10_takeNumber 56 rfl) fl_X10_142 rfl (km hn rfl) ?_
              rw [h26]
              refine r_iconst C (dk oX10_takeNumber 57 rfl) (v := nI 1) (by decide) ?_
              refine r_iadd C (dk oX10_takeNumber 58 rfl) ?_
              rw [nI_add]
              refine r_putI C (dk oX10_takeNumber 59 rfl) fl_X10_142 ft_10_26 rfl (km hn rfl) ?_
              refine r_goto (tgt := 41) C (dk oX10_takeNumber 60 rfl) (by decide) ?_
              refine V.sub [1, 2, 3, 0] rfl ?_
              refine ih (k_ + 1) _ (by omega) (by omega) (fun j hj => ?_) ((nE_in hb49 hb71).trans hnE) up2_at (by rw [up2_off (by decide)]; exact h27) (by rw [up2_off (by decide)]; exact h29) (fun k hk => by rw [up2_ne hk]; exact hO k hk) (fun i a b => by rw [up2_off a]; exact hO2 i a b)
              by_cases e : j = k_
              · rw [e]; exact hb71
              · exact hdg j (by omega)
            · rw [show (99999 : Int32) = nI 99999 from rfl] at hb78
              simp (disch := omega) only [nI_leI, nI_ltI, nI_eq, nI_eq0] at hb78
              have hb78 : 99999 < vlN t (sk t L a_) k_ := by omega
              refine r_iload C 3 (dk oX10_takeNumber 40 rfl) rfl ?_
              refine r_topI (show nI (vlN t (sk t L a_) k_) = nI (vlN t (sk t L a_) (k_ + 1)) from by rw [show vlN t (sk t L a_) (k_ + 1) = vlN t (sk t L a_) k_ from if_pos hb78]) ?_
              refine r_goto (tgt := 104) C (dk oX10_takeNumber 41 rfl) (by decide) ?_
              refine r_istore (lo' := [(4, _), (0, _), (1, _), (2, _)]) C (dk oX10_takeNumber 53 rfl) (by decide) rfl ?_
              refine r_aload_n C 1 (dk oX10_takeNumber 54 rfl) rfl ?_
              refine r_dup C (dk oX10_takeNumber 55 rfl) rfl ?_
              refine r_getI C (dk oX10_takeNumber 56 rfl) fl_X10_142 rfl (km hn rfl) ?_
              rw [h26]
              refine r_iconst C (dk oX10_takeNumber 57 rfl) (v := nI 1) (by decide) ?_
              refine r_iadd C (dk oX10_takeNumber 58 rfl) ?_
              rw [nI_add]
              refine r_putI C (dk oX10_takeNumber 59 rfl) fl_X10_142 ft_10_26 rfl (km hn rfl) ?_
              refine r_goto (tgt := 41) C (dk oX10_takeNumber 60 rfl) (by decide) ?_
              refine V.sub [1, 2, 3, 0] rfl ?_
              refine ih (k_ + 1) _ (by omega) (by omega) (fun j hj => ?_) ((nE_in hb49 hb71).trans hnE) up2_at (by rw [up2_off (by decide)]; exact h27) (by rw [up2_off (by decide)]; exact h29) (fun k hk => by rw [up2_ne hk]; exact hO k hk) (fun i a b => by rw [up2_off a]; exact hO2 i a b)
              by_cases e : j = k_
              · rw [e]; exact hb71
              · exact hdg j (by omega)
    refine V.sub [2, 3, 4, 0] rfl ?_
    exact L41 (L + 1) 0 _ (by omega) (by omega) (fun j hj => absurd hj (Nat.not_lt_zero _)) rfl (by rw [up2_off (by decide)]; exact hh1) up2_at (by rw [up2_off (by decide), hhB1 29 (by decide)]; exact hft) (fun k hk => by rw [up2_ne hk]; exact hhA1 k hk) (fun i a b => by rw [up2_off b]; exact hhB1 i a)
  · rw [b32_0, decide_eq_false_iff_not] at hb33
    have hng : ¬ ((sk t L a_) < L ∧ isDg (t (sk t L a_)) = true) := fun hg => hb33 (by rw [decide_eq_true hg, if_neg (fun q => absurd q.1 (by decide))]; rfl)
    have hI30 : I30 = up2 (up2 (up2 I1 117 27 (nI (sk t L a_))) 117 29 (nI 1)) 117 30 (nI (sk t L a_)) := hI30.trans (if_pos ⟨decide_eq_false hng, rfl⟩)
    subst hI30
    refine r_iconst C (dk oX10_takeNumber 18 rfl) (v := nI 0) (by decide) ?_
    refine hret (dk oX10_takeNumber 19 rfl) rfl ?_
    rw [nmF_1 hng]
    exact ⟨by rw [up2_off (by decide), up2_at], by rw [up2_at, if_neg (by decide)], by rw [up2_off (by decide), up2_off (by decide), up2_at], fun q => absurd q (by decide), ⟨_, hsL, by rw [up2_off (by decide), up2_off (by decide), up2_off (by decide)]; exact hh1⟩, ⟨fun k hk => by rw [up2_ne hk, up2_ne hk, up2_ne hk]; exact hhA1 k hk, fun i a b c d => by rw [up2_off d, up2_off c, up2_off b]; exact hhB1 i a⟩, rfl⟩

end MOD8
