section TEXT
variable {l : Launch} {n : Nat} {ad : Nat → Nat} {cA : Nat → ClassId} {D : va_G} {z : Zw}
set_option maxHeartbeats 1000000 in
set_option maxRecDepth 100000 in
theorem c_X8_isLetterAt (hn : 117 ≤ n) (I : MI) (J : MJ) (i b : Nat) (hi : i < 160) (hb : b < 256) (hI : I 2 i = nI b) : Ci l n ad cA D z 0 yX8_isLetterAt cX8_isLetterAt 2 .boolean I J [.ref (ad 1), .int (nI i)] (fun r I' J' => r = b32 (isLt b) ∧ I' = I ∧ J' = J) := by
  refine Ci.of (by decide) (Nat.le_of_ble_eq_true rfl) ?_
  intro p e s m args below meth c A C hin Z Q hret
  refine r_aload_n C 0 (dk oX8_isLetterAt 0 rfl) rfl ?_
  refine r_getR C (dk oX8_isLetterAt 1 rfl) fl_X8_9 rfl (kn hn rfl) ?_
  refine r_iload_n C 1 (dk oX8_isLetterAt 2 rfl) rfl ?_
  refine r_iald C _ (dk oX8_isLetterAt 3 rfl) rfl (kn hn rfl) rfl (by omega) (by decide) ?_
  rw [hI]
  refine r_bipush C (dk oX8_isLetterAt 4 rfl) (v := nI 97) (by decide) ?_
  refine r_icmp_lt (tgt := 26) C (dk oX8_isLetterAt 5 rfl) (by decide) (fun hb8 => ?_) (fun hb8 => ?_)
  · simp (disch := omega) only [nI_leI, nI_ltI, nI_eq, nI_eq0] at hb8
    refine r_iconst C (dk oX8_isLetterAt 14 rfl) (v := nI 0) (by decide) ?_
    refine hret (dk oX8_isLetterAt 15 rfl) rfl ?_
    refine ⟨?_, rfl, rfl⟩
    first | (rw [isLt_f (by omega)]; rfl) | (rw [isLt_t (by omega)]; rfl)
  · simp (disch := omega) only [nI_leI, nI_ltI, nI_eq, nI_eq0] at hb8
    refine r_aload_n C 0 (dk oX8_isLetterAt 6 rfl) rfl ?_
    refine r_getR C (dk oX8_isLetterAt 7 rfl) fl_X8_9 rfl (kn hn rfl) ?_
    refine r_iload_n C 1 (dk oX8_isLetterAt 8 rfl) rfl ?_
    refine r_iald C _ (dk oX8_isLetterAt 9 rfl) rfl (kn hn rfl) rfl (by omega) (by decide) ?_
    rw [hI]
    refine r_bipush C (dk oX8_isLetterAt 10 rfl) (v := nI 122) (by decide) ?_
    refine r_icmp_gt (tgt := 26) C (dk oX8_isLetterAt 11 rfl) (by decide) (fun hb19 => ?_) (fun hb19 => ?_)
    · simp (disch := omega) only [nI_leI, nI_ltI, nI_eq, nI_eq0] at hb19
      refine r_iconst C (dk oX8_isLetterAt 14 rfl) (v := nI 0) (by decide) ?_
      refine hret (dk oX8_isLetterAt 15 rfl) rfl ?_
      refine ⟨?_, rfl, rfl⟩
      first | (rw [isLt_f (by omega)]; rfl) | (rw [isLt_t (by omega)]; rfl)
    · simp (disch := omega) only [nI_leI, nI_ltI, nI_eq, nI_eq0] at hb19
      refine r_iconst C (dk oX8_isLetterAt 12 rfl) (v := nI 1) (by decide) ?_
      refine r_goto (tgt := 27) C (dk oX8_isLetterAt 13 rfl) (by decide) ?_
      refine hret (dk oX8_isLetterAt 15 rfl) rfl ?_
      refine ⟨?_, rfl, rfl⟩
      first | (rw [isLt_f (by omega)]; rfl) | (rw [isLt_t (by omega)]; rfl)

set_option maxHeartbeats 1000000 in
set_option maxRecDepth 100000 in
theorem c_X8_isFigureAt (hn : 117 ≤ n) (I : MI) (J : MJ) (i b : Nat) (hi : i < 160) (hb : b < 256) (hI : I 2 i = nI b) : Ci l n ad cA D z 0 yX8_isFigureAt cX8_isFigureAt 2 .boolean I J [.ref (ad 1), .int (nI i)] (fun r I' J' => r = b32 (isDg b) ∧ I' = I ∧ J' = J) := by
  refine Ci.of (by decide) (Nat.le_of_ble_eq_true rfl) ?_
  intro p e s m args below meth c A C hin Z Q hret
  refine r_aload_n C 0 (dk oX8_isFigureAt 0 rfl) rfl ?_
  refine r_getR C (dk oX8_isFigureAt 1 rfl) fl_X8_9 rfl (kn hn rfl) ?_
  refine r_iload_n C 1 (dk oX8_isFigureAt 2 rfl) rfl ?_
  refine r_iald C _ (dk oX8_isFigureAt 3 rfl) rfl (kn hn rfl) rfl (by omega) (by decide) ?_
  rw [hI]
  refine r_bipush C (dk oX8_isFigureAt 4 rfl) (v := nI 48) (by decide) ?_
  refine r_icmp_lt (tgt := 26) C (dk oX8_isFigureAt 5 rfl) (by decide) (fun hb8 => ?_) (fun hb8 => ?_)
  · simp (disch := omega) only [nI_leI, nI_ltI, nI_eq, nI_eq0] at hb8
    refine r_iconst C (dk oX8_isFigureAt 14 rfl) (v := nI 0) (by decide) ?_
    refine hret (dk oX8_isFigureAt 15 rfl) rfl ?_
    refine ⟨?_, rfl, rfl⟩
    first | (rw [isDg_f (by omega)]; rfl) | (rw [isDg_t (by omega)]; rfl)
  · simp (disch := omega) only [nI_leI, nI_ltI, nI_eq, nI_eq0] at hb8
    refine r_aload_n C 0 (dk oX8_isFigureAt 6 rfl) rfl ?_
    refine r_getR C (dk oX8_isFigureAt 7 rfl) fl_X8_9 rfl (kn hn rfl) ?_
    refine r_iload_n C 1 (dk oX8_isFigureAt 8 rfl) rfl ?_
    refine r_iald C _ (dk oX8_isFigureAt 9 rfl) rfl (kn hn rfl) rfl (by omega) (by decide) ?_
    rw [hI]
    refine r_bipush C (dk oX8_isFigureAt 10 rfl) (v := nI 57) (by decide) ?_
    refine r_icmp_gt (tgt := 26) C (dk oX8_isFigureAt 11 rfl) (by decide) (fun hb19 => ?_) (fun hb19 => ?_)
    · simp (disch := omega) only [nI_leI, nI_ltI, nI_eq, nI_eq0] at hb19
      refine r_iconst C (dk oX8_isFigureAt 14 rfl) (v := nI 0) (by decide) ?_
      refine hret (dk oX8_isFigureAt 15 rfl) rfl ?_
      refine ⟨?_, rfl, rfl⟩
      first | (rw [isDg_f (by omega)]; rfl) | (rw [isDg_t (by omega)]; rfl)
    · simp (disch := omega) only [nI_leI, nI_ltI, nI_eq, nI_eq0] at hb19
      refine r_iconst C (dk oX8_isFigureAt 12 rfl) (v := nI 1) (by decide) ?_
      refine r_goto (tgt := 27) C (dk oX8_isFigureAt 13 rfl) (by decide) ?_
      refine hret (dk oX8_isFigureAt 15 rfl) rfl ?_
      refine ⟨?_, rfl, rfl⟩
      first | (rw [isDg_f (by omega)]; rfl) | (rw [isDg_t (by omega)]; rfl)

set_option maxHeartbeats 1000000 in
set_option maxRecDepth 100000 in
theorem c_X8_append (hn : 117 ≤ n) (I : MI) (J : MJ) (t : Nat → Nat) (L v : Nat) (hT : Tx I t L) (hL : L < 160) : Cv l n ad cA D z 0 yX8_append cX8_append 2 I J [.ref (ad 1), .int (nI v)] (fun I' J' => I' = up2 (up2 I 2 L (nI v)) 1 1 (nI (L + 1)) ∧ J' = J) := by
  refine Cv.of (by decide) (Nat.le_of_ble_eq_true rfl) ?_
  intro p e s m args below meth c A C hin Z Q hret
  refine r_aload_n C 0 (dk oX8_append 0 rfl) rfl ?_
  refine r_getI C (dk oX8_append 1 rfl) fl_X8_19 rfl (kn hn rfl) ?_
  rw [hT.2.1]
  refine r_aload_n C 0 (dk oX8_append 2 rfl) rfl ?_
  refine r_getR C (dk oX8_append 3 rfl) fl_X8_9 rfl (kn hn rfl) ?_
  refine r_alen C (dk oX8_append 4 rfl) rfl (by decide) (kn hn rfl) ?_
  refine r_icmp_ge (tgt := 32) C (dk oX8_append 5 rfl) (by decide) (fun hb9 => absurd hb9 (by rw [nI_leI (by omega) (by omega)]; omega)) (fun hb9 => ?_)
  refine r_aload_n C 0 (dk oX8_append 6 rfl) rfl ?_
  refine r_getR C (dk oX8_append 7 rfl) fl_X8_9 rfl (kn hn rfl) ?_
  refine r_aload_n C 0 (dk oX8_append 8 rfl) rfl ?_
  refine r_getI C (dk oX8_append 9 rfl) fl_X8_19 rfl (kn hn rfl) ?_
  rw [hT.2.1]
  refine r_iload_n C 1 (dk oX8_append 10 rfl) rfl ?_
  refine r_iast C _ (dk oX8_append 11 rfl) rfl (kn hn rfl) rfl (by omega) (by decide) ?_
  refine r_aload_n C 0 (dk oX8_append 12 rfl) rfl ?_
  refine r_dup C (dk oX8_append 13 rfl) rfl ?_
  refine r_getI C (dk oX8_append 14 rfl) fl_X8_19 rfl (kn hn rfl) ?_
  rw [up2_ne (by decide), hT.2.1]
  refine r_iconst C (dk oX8_append 15 rfl) (v := nI 1) (by decide) ?_
  refine r_iadd C (dk oX8_append 16 rfl) ?_
  rw [show nI L + nI 1 = nI (L + 1) from nI_add L 1]
  refine r_putI C (dk oX8_append 17 rfl) fl_X8_19 ft_8_1 rfl (kn hn rfl) ?_
  refine hret (dk oX8_append 18 rfl) ?_
  exact ⟨rfl, rfl⟩

set_option maxHeartbeats 1000000 in
set_option maxRecDepth 100000 in
theorem c_X8_next (hn : 117 ≤ n) (I : MI) (J : MJ) (t : Nat → Nat) (L : Nat) (hT : Tx I t L) (e_ : Nat) (he : e_ ≤ L) (hE : I 1 4 = nI e_) : Cv l n ad cA D z 1 yX8_next cX8_next 1 I J [.ref (ad 1)] (fun I' J' => txF I I' ∧ Tk I' t L (sk t L e_) ∧ J' = J) := by
  refine Cv.of (by decide) (Nat.le_of_ble_eq_true rfl) ?_
  intro p e s m args below meth c A C hin Z Q hret
  refine r_aload_n C 0 (dk oX8_next 0 rfl) rfl ?_
  refine r_aload_n C 0 (dk oX8_next 1 rfl) rfl ?_
  refine r_getI C (dk oX8_next 2 rfl) fl_X8_25 rfl (kn hn rfl) ?_
  rw [hE]
  refine r_putI C (dk oX8_next 3 rfl) fl_X8_31 ft_8_3 rfl (kn hn rfl) ?_
  have L8 : ∀ (d_ : Nat) (p_ : Nat) (I1 : MI), L - p_ < d_ → p_ ≤ L → sk t L p_ = sk t L e_ → txF I I1 → I1 1 3 = nI p_ → V p l e (rmL 1) s m args below meth c Q D A 1 0 0 n ad (mE cA ad I1 J) 8 [(0, .ref (ad 1))] [] := by
    intro d_
    induction d_ with
    | zero => intros; exact absurd (by assumption) (Nat.not_lt_zero _)
    | succ d_ ih => 
      intro p_ I1 hd_ hp hS hF h3
      have hT1 := hT.of hF
      have hL := hT.1
      refine r_aload_n C 0 (dk oX8_next 4 rfl) rfl ?_
      refine r_getI C (dk oX8_next 5 rfl) fl_X8_31 rfl (kn hn rfl) ?_
      rw [h3]
      refine r_aload_n C 0 (dk oX8_next 6 rfl) rfl ?_
      refine r_getI C (dk oX8_next 7 rfl) fl_X8_19 rfl (kn hn rfl) ?_
      rw [hT1.2.1]
      refine r_icmp_ge (tgt := 46) C (dk oX8_next 8 rfl) (by decide) (fun hb16 => ?_) (fun hb16 => ?_)
      · simp (disch := omega) only [nI_leI, nI_ltI, nI_eq, nI_eq0] at hb16
        have hS9 : sk t L e_ = p_ := hS.symm.trans (sk_out (Or.inl (by omega)))
        refine r_aload_n C 0 (dk oX8_next 23 rfl) rfl ?_
        refine r_aload_n C 0 (dk oX8_next 24 rfl) rfl ?_
        refine r_getI C (dk oX8_next 25 rfl) fl_X8_31 rfl (kn hn rfl) ?_
        rw [h3]
        refine r_putI C (dk oX8_next 26 rfl) fl_X8_25 ft_8_4 rfl (kn hn rfl) ?_
        generalize hI2 : up2 I1 1 4 (nI p_) = I2
        have hF2 : txF I I2 := hI2 ▸ hF.up 4 _ (by decide)
        have hT2 := hT.of hF2
        have k3 : I2 1 3 = nI p_ := by rw [← hI2, up2_off (by decide)]; exact h3
        have k4 : I2 1 4 = nI p_ := by rw [← hI2, up2_at]
        refine r_aload_n C 0 (dk oX8_next 27 rfl) rfl ?_
        refine r_getI C (dk oX8_next 28 rfl) fl_X8_31 rfl (kn hn rfl) ?_
        rw [k3]
        refine r_aload_n C 0 (dk oX8_next 29 rfl) rfl ?_
        refine r_getI C (dk oX8_next 30 rfl) fl_X8_19 rfl (kn hn rfl) ?_
        rw [hT2.2.1]
        refine r_icmp_lt (tgt := 73) C (dk oX8_next 31 rfl) (by decide) (fun hb62 => ?_) (fun hb62 => ?_)
        · simp (disch := omega) only [nI_leI, nI_ltI, nI_eq, nI_eq0] at hb62
          refine r_aload_n C 0 (dk oX8_next 36 rfl) rfl ?_
          refine r_aload_n C 0 (dk oX8_next 37 rfl) rfl ?_
          refine r_getI C (dk oX8_next 38 rfl) fl_X8_31 rfl (kn hn rfl) ?_
          rw [k3]
          refine r_ivi C Z (dk oX8_next 39 rfl) cl_X8_37 ci_X8_isLetterAt rfl (kn hn rfl) (c_X8_isLetterAt hn I2 J p_ (t p_) (by have := hT.1; omega) (hT2.2.2 p_ (by omega)).1 (hT2.2.2 p_ (by omega)).2) rfl rfl (Nat.le_of_ble_eq_true rfl) ⟨Nat.le_of_ble_eq_true rfl, Nat.le_of_ble_eq_true rfl⟩ ⟨Nat.zero_le _, Nat.zero_le _⟩ (fun r78 I78 J78 h78 => ?_)
          obtain ⟨h78, e1_, e2_⟩ := h78
          have e1_ := e1_.symm
          have e2_ := e2_.symm
          subst e1_
          subst e2_
          subst h78
          refine r_if_eq (tgt := 124) C (dk oX8_next 40 rfl) (by decide) (fun hb81 => ?_) (fun hb81 => ?_)
          · rw [b32_0] at hb81
            refine r_aload_n C 0 (dk oX8_next 61 rfl) rfl ?_
            refine r_aload_n C 0 (dk oX8_next 62 rfl) rfl ?_
            refine r_getI C (dk oX8_next 63 rfl) fl_X8_31 rfl (kn hn rfl) ?_
            rw [k3]
            refine r_ivi C Z (dk oX8_next 64 rfl) cl_X8_41 ci_X8_isFigureAt rfl (kn hn rfl) (c_X8_isFigureAt hn _ _ p_ (t p_) (by have := hT.1; omega) (hT2.2.2 p_ (by omega)).1 (hT2.2.2 p_ (by omega)).2) rfl rfl (Nat.le_of_ble_eq_true rfl) ⟨Nat.le_of_ble_eq_true rfl, Nat.le_of_ble_eq_true rfl⟩ ⟨Nat.zero_le _, Nat.zero_le _⟩ (fun r129 I129 J129 h129 => ?_)
            obtain ⟨h129, e1_, e2_⟩ := h129
            have e1_ := e1_.symm
            have e2_ := e2_.symm
            subst e1_
            subst e2_
            subst h129
            refine r_if_eq (tgt := 175) C (dk oX8_next 65 rfl) (by decide) (fun hb132 => ?_) (fun hb132 => ?_)
            · rw [b32_0] at hb132
              refine r_aload_n C 0 (dk oX8_next 86 rfl) rfl ?_
              refine r_iconst C (dk oX8_next 87 rfl) (v := nI 3) (by decide) ?_
              refine r_putI C (dk oX8_next 88 rfl) fl_X8_34 ft_8_2 rfl (kn hn rfl) ?_
              refine r_aload_n C 0 (dk oX8_next 89 rfl) rfl ?_
              refine r_dup C (dk oX8_next 90 rfl) rfl ?_
              refine r_getI C (dk oX8_next 91 rfl) fl_X8_25 rfl (kn hn rfl) ?_
              rw [up2_off (by decide), k4]
              refine r_iconst C (dk oX8_next 92 rfl) (v := nI 1) (by decide) ?_
              refine r_iadd C (dk oX8_next 93 rfl) ?_
              rw [show nI p_ + nI 1 = nI (p_ + 1) from nI_add p_ 1]
              refine r_putI C (dk oX8_next 94 rfl) fl_X8_25 ft_8_4 rfl (kn hn rfl) ?_
              refine hret (dk oX8_next 95 rfl) ?_
              first
                | exact ⟨hF2.up 2 _ (by decide), ⟨by rw [hS9]; omega, by rw [hS9, (tkK_0 (by omega)).1]; exact up2_at, by rw [hS9, up2_off (by decide)]; exact k3, by rw [hS9, up2_off (by decide), (tkK_0 (by omega)).2]; exact k4⟩, rfl⟩
                | exact ⟨hF3, ⟨by rw [hS9]; omega, by rw [hS9, (tkK_1 (by omega) hb81).1]; exact g2, by rw [hS9]; exact g3, by rw [hS9, (tkK_1 (by omega) hb81).2, hS8]; exact g4⟩, rfl⟩
                | exact ⟨hF3, ⟨by rw [hS9]; omega, by rw [hS9, (tkK_2 (by omega) hb81 hb132).1]; exact g2, by rw [hS9]; exact g3, by rw [hS9, (tkK_2 (by omega) hb81 hb132).2, hS8]; exact g4⟩, rfl⟩
                | exact ⟨(hF2.up 2 _ (by decide)).up 4 _ (by decide), ⟨by rw [hS9]; omega, by rw [hS9, (tkK_3 (by omega) hb81 hb132).1, up2_off (by decide)]; exact up2_at, by rw [hS9, up2_off (by decide), up2_off (by decide)]; exact k3, by rw [hS9, (tkK_3 (by omega) hb81 hb132).2]; exact up2_at⟩, rfl⟩
            · rw [b32_n] at hb132
              refine r_aload_n C 0 (dk oX8_next 66 rfl) rfl ?_
              refine r_iconst C (dk oX8_next 67 rfl) (v := nI 2) (by decide) ?_
              refine r_putI C (dk oX8_next 68 rfl) fl_X8_34 ft_8_2 rfl (kn hn rfl) ?_
              have L140 : ∀ (d_ : Nat) (p2 : Nat) (I3 : MI), L - p2 < d_ → p2 ≤ L → nE t L p2 = nE t L p_ → txF I I3 → I3 1 2 = nI 2 → I3 1 3 = nI p_ → I3 1 4 = nI p2 → V p l e (rmL 1) s m args below meth c Q D A 1 0 0 n ad (mE cA ad I3 J) 140 [(0, .ref (ad 1))] [] := by
                intro d_
                induction d_ with
                | zero => intros; exact absurd (by assumption) (Nat.not_lt_zero _)
                | succ d_ ih => 
                  intro p2 I3 hd2 hp2 hS2 hF3 g2 g3 g4
                  have hT3 := hT.of hF3
                  refine r_aload_n C 0 (dk oX8_next 69 rfl) rfl ?_
                  refine r_getI C (dk oX8_next 70 rfl) fl_X8_25 rfl (kn hn rfl) ?_
                  rw [g4]
                  refine r_aload_n C 0 (dk oX8_next 71 rfl) rfl ?_
                  refine r_getI C (dk oX8_next 72 rfl) fl_X8_19 rfl (kn hn rfl) ?_
                  rw [hT3.2.1]
                  refine r_icmp_ge (tgt := 190) C (dk oX8_next 73 rfl) (by decide) (fun hb148 => ?_) (fun hb148 => ?_)
                  · simp (disch := omega) only [nI_leI, nI_ltI, nI_eq, nI_eq0] at hb148
                    have hS8 : nE t L p_ = p2 := hS2.symm.trans (nE_out (Or.inl (by omega)))
                    refine hret (dk oX8_next 95 rfl) ?_
                    first
                      | exact ⟨hF2.up 2 _ (by decide), ⟨by rw [hS9]; omega, by rw [hS9, (tkK_0 (by omega)).1]; exact up2_at, by rw [hS9, up2_off (by decide)]; exact k3, by rw [hS9, up2_off (by decide), (tkK_0 (by omega)).2]; exact k4⟩, rfl⟩
                      | exact ⟨hF3, ⟨by rw [hS9]; omega, by rw [hS9, (tkK_1 (by omega) hb81).1]; exact g2, by rw [hS9]; exact g3, by rw [hS9, (tkK_1 (by omega) hb81).2, hS8]; exact g4⟩, rfl⟩
                      | exact ⟨hF3, ⟨by rw [hS9]; omega, by rw [hS9, (tkK_2 (by omega) hb81 hb132).1]; exact g2, by rw [hS9]; exact g3, by rw [hS9, (tkK_2 (by omega) hb81 hb132).2, hS8]; exact g4⟩, rfl⟩
                      | exact ⟨(hF2.up 2 _ (by decide)).up 4 _ (by decide), ⟨by rw [hS9]; omega, by rw [hS9, (tkK_3 (by omega) hb81 hb132).1, up2_off (by decide)]; exact up2_at, by rw [hS9, up2_off (by decide), up2_off (by decide)]; exact k3, by rw [hS9, (tkK_3 (by omega) hb81 hb132).2]; exact up2_at⟩, rfl⟩
                  · simp (disch := omega) only [nI_leI, nI_ltI, nI_eq, nI_eq0] at hb148
                    refine r_aload_n C 0 (dk oX8_next 74 rfl) rfl ?_
                    refine r_aload_n C 0 (dk oX8_next 75 rfl) rfl ?_
                    refine r_getI C (dk oX8_next 76 rfl) fl_X8_25 rfl (kn hn rfl) ?_
                    rw [g4]
                    refine r_ivi C Z (dk oX8_next 77 rfl) cl_X8_41 ci_X8_isFigureAt rfl (kn hn rfl) (c_X8_isFigureAt hn I3 _ p2 (t p2) (by have := hT.1; omega) (hT3.2.2 p2 (by omega)).1 (hT3.2.2 p2 (by omega)).2) rfl rfl (Nat.le_of_ble_eq_true rfl) ⟨Nat.le_of_ble_eq_true rfl, Nat.le_of_ble_eq_true rfl⟩ ⟨Nat.zero_le _, Nat.zero_le _⟩ (fun r156 I156 J156 h156 => ?_)
                    obtain ⟨h156, e1_, e2_⟩ := h156
                    have e1_ := e1_.symm
                    have e2_ := e2_.symm
                    subst e1_
                    subst e2_
                    subst h156
                    refine r_if_eq (tgt := 190) C (dk oX8_next 78 rfl) (by decide) (fun hb159 => ?_) (fun hb159 => ?_)
                    · rw [b32_0] at hb159
                      have hS8 : nE t L p_ = p2 := hS2.symm.trans (nE_out (Or.inr hb159))
                      refine hret (dk oX8_next 95 rfl) ?_
                      first
                        | exact ⟨hF2.up 2 _ (by decide), ⟨by rw [hS9]; omega, by rw [hS9, (tkK_0 (by omega)).1]; exact up2_at, by rw [hS9, up2_off (by decide)]; exact k3, by rw [hS9, up2_off (by decide), (tkK_0 (by omega)).2]; exact k4⟩, rfl⟩
                        | exact ⟨hF3, ⟨by rw [hS9]; omega, by rw [hS9, (tkK_1 (by omega) hb81).1]; exact g2, by rw [hS9]; exact g3, by rw [hS9, (tkK_1 (by omega) hb81).2, hS8]; exact g4⟩, rfl⟩
                        | exact ⟨hF3, ⟨by rw [hS9]; omega, by rw [hS9, (tkK_2 (by omega) hb81 hb132).1]; exact g2, by rw [hS9]; exact g3, by rw [hS9, (tkK_2 (by omega) hb81 hb132).2, hS8]; exact g4⟩, rfl⟩
                        | exact ⟨(hF2.up 2 _ (by decide)).up 4 _ (by decide), ⟨by rw [hS9]; omega, by rw [hS9, (tkK_3 (by omega) hb81 hb132).1, up2_off (by decide)]; exact up2_at, by rw [hS9, up2_off (by decide), up2_off (by decide)]; exact k3, by rw [hS9, (tkK_3 (by omega) hb81 hb132).2]; exact up2_at⟩, rfl⟩
                    · rw [b32_n] at hb159
                      refine r_aload_n C 0 (dk oX8_next 79 rfl) rfl ?_
                      refine r_dup C (dk oX8_next 80 rfl) rfl ?_
                      refine r_getI C (dk oX8_next 81 rfl) fl_X8_25 rfl (kn hn rfl) ?_
                      rw [g4]
                      refine r_iconst C (dk oX8_next 82 rfl) (v := nI 1) (by decide) ?_
                      refine r_iadd C (dk oX8_next 83 rfl) ?_
                      rw [show nI p2 + nI 1 = nI (p2 + 1) from nI_add p2 1]
                      refine r_putI C (dk oX8_next 84 rfl) fl_X8_25 ft_8_4 rfl (kn hn rfl) ?_
                      refine r_goto (tgt := 140) C (dk oX8_next 85 rfl) (by decide) ?_
                      refine V.sub [0] rfl ?_
                      exact ih (p2 + 1) _ (by omega) (by omega) (by rw [← hS2]; exact nE_in (by omega) hb159) (hF3.up 4 _ (by decide)) (by rw [up2_off (by decide)]; exact g2) (by rw [up2_off (by decide)]; exact g3) up2_at
              refine V.sub [0] rfl ?_
              exact L140 (L + 1) p_ _ (by omega) (by omega) rfl (hF2.up 2 _ (by decide)) up2_at (by rw [up2_off (by decide)]; exact k3) (by rw [up2_off (by decide)]; exact k4)
          · rw [b32_n] at hb81
            refine r_aload_n C 0 (dk oX8_next 41 rfl) rfl ?_
            refine r_iconst C (dk oX8_next 42 rfl) (v := nI 1) (by decide) ?_
            refine r_putI C (dk oX8_next 43 rfl) fl_X8_34 ft_8_2 rfl (kn hn rfl) ?_
            have L89 : ∀ (d_ : Nat) (p2 : Nat) (I3 : MI), L - p2 < d_ → p2 ≤ L → wE t L p2 = wE t L p_ → txF I I3 → I3 1 2 = nI 1 → I3 1 3 = nI p_ → I3 1 4 = nI p2 → V p l e (rmL 1) s m args below meth c Q D A 1 0 0 n ad (mE cA ad I3 J) 89 [(0, .ref (ad 1))] [] := by
              intro d_
              induction d_ with
              | zero => intros; exact absurd (by assumption) (Nat.not_lt_zero _)
              | succ d_ ih => 
                intro p2 I3 hd2 hp2 hS2 hF3 g2 g3 g4
                have hT3 := hT.of hF3
                refine r_aload_n C 0 (dk oX8_next 44 rfl) rfl ?_
                refine r_getI C (dk oX8_next 45 rfl) fl_X8_25 rfl (kn hn rfl) ?_
                rw [g4]
                refine r_aload_n C 0 (dk oX8_next 46 rfl) rfl ?_
                refine r_getI C (dk oX8_next 47 rfl) fl_X8_19 rfl (kn hn rfl) ?_
                rw [hT3.2.1]
                refine r_icmp_ge (tgt := 190) C (dk oX8_next 48 rfl) (by decide) (fun hb97 => ?_) (fun hb97 => ?_)
                · simp (disch := omega) only [nI_leI, nI_ltI, nI_eq, nI_eq0] at hb97
                  have hS8 : wE t L p_ = p2 := hS2.symm.trans (wE_out (Or.inl (by omega)))
                  refine hret (dk oX8_next 95 rfl) ?_
                  first
                    | exact ⟨hF2.up 2 _ (by decide), ⟨by rw [hS9]; omega, by rw [hS9, (tkK_0 (by omega)).1]; exact up2_at, by rw [hS9, up2_off (by decide)]; exact k3, by rw [hS9, up2_off (by decide), (tkK_0 (by omega)).2]; exact k4⟩, rfl⟩
                    | exact ⟨hF3, ⟨by rw [hS9]; omega, by rw [hS9, (tkK_1 (by omega) hb81).1]; exact g2, by rw [hS9]; exact g3, by rw [hS9, (tkK_1 (by omega) hb81).2, hS8]; exact g4⟩, rfl⟩
                    | exact ⟨hF3, ⟨by rw [hS9]; omega, by rw [hS9, (tkK_2 (by omega) hb81 hb132).1]; exact g2, by rw [hS9]; exact g3, by rw [hS9, (tkK_2 (by omega) hb81 hb132).2, hS8]; exact g4⟩, rfl⟩
                    | exact ⟨(hF2.up 2 _ (by decide)).up 4 _ (by decide), ⟨by rw [hS9]; omega, by rw [hS9, (tkK_3 (by omega) hb81 hb132).1, up2_off (by decide)]; exact up2_at, by rw [hS9, up2_off (by decide), up2_off (by decide)]; exact k3, by rw [hS9, (tkK_3 (by omega) hb81 hb132).2]; exact up2_at⟩, rfl⟩
                · simp (disch := omega) only [nI_leI, nI_ltI, nI_eq, nI_eq0] at hb97
                  refine r_aload_n C 0 (dk oX8_next 49 rfl) rfl ?_
                  refine r_aload_n C 0 (dk oX8_next 50 rfl) rfl ?_
                  refine r_getI C (dk oX8_next 51 rfl) fl_X8_25 rfl (kn hn rfl) ?_
                  rw [g4]
                  refine r_ivi C Z (dk oX8_next 52 rfl) cl_X8_37 ci_X8_isLetterAt rfl (kn hn rfl) (c_X8_isLetterAt hn I3 J p2 (t p2) (by have := hT.1; omega) (hT3.2.2 p2 (by omega)).1 (hT3.2.2 p2 (by omega)).2) rfl rfl (Nat.le_of_ble_eq_true rfl) ⟨Nat.le_of_ble_eq_true rfl, Nat.le_of_ble_eq_true rfl⟩ ⟨Nat.zero_le _, Nat.zero_le _⟩ (fun r105 I105 J105 h105 => ?_)
                  obtain ⟨h105, e1_, e2_⟩ := h105
                  have e1_ := e1_.symm
                  have e2_ := e2_.symm
                  subst e1_
                  subst e2_
                  subst h105
                  refine r_if_eq (tgt := 190) C (dk oX8_next 53 rfl) (by decide) (fun hb108 => ?_) (fun hb108 => ?_)
                  · rw [b32_0] at hb108
                    have hS8 : wE t L p_ = p2 := hS2.symm.trans (wE_out (Or.inr hb108))
                    refine hret (dk oX8_next 95 rfl) ?_
                    first
                      | exact ⟨hF2.up 2 _ (by decide), ⟨by rw [hS9]; omega, by rw [hS9, (tkK_0 (by omega)).1]; exact up2_at, by rw [hS9, up2_off (by decide)]; exact k3, by rw [hS9, up2_off (by decide), (tkK_0 (by omega)).2]; exact k4⟩, rfl⟩
                      | exact ⟨hF3, ⟨by rw [hS9]; omega, by rw [hS9, (tkK_1 (by omega) hb81).1]; exact g2, by rw [hS9]; exact g3, by rw [hS9, (tkK_1 (by omega) hb81).2, hS8]; exact g4⟩, rfl⟩
                      | exact ⟨hF3, ⟨by rw [hS9]; omega, by rw [hS9, (tkK_2 (by omega) hb81 hb132).1]; exact g2, by rw [hS9]; exact g3, by rw [hS9, (tkK_2 (by omega) hb81 hb132).2, hS8]; exact g4⟩, rfl⟩
                      | exact ⟨(hF2.up 2 _ (by decide)).up 4 _ (by decide), ⟨by rw [hS9]; omega, by rw [hS9, (tkK_3 (by omega) hb81 hb132).1, up2_off (by decide)]; exact up2_at, by rw [hS9, up2_off (by decide), up2_off (by decide)]; exact k3, by rw [hS9, (tkK_3 (by omega) hb81 hb132).2]; exact up2_at⟩, rfl⟩
                  · rw [b32_n] at hb108
                    refine r_aload_n C 0 (dk oX8_next 54 rfl) rfl ?_
                    refine r_dup C (dk oX8_next 55 rfl) rfl ?_
                    refine r_getI C (dk oX8_next 56 rfl) fl_X8_25 rfl (kn hn rfl) ?_
                    rw [g4]
                    refine r_iconst C (dk oX8_next 57 rfl) (v := nI 1) (by decide) ?_
                    refine r_iadd C (dk oX8_next 58 rfl) ?_
                    rw [show nI p2 + nI 1 = nI (p2 + 1) from nI_add p2 1]
                    refine r_putI C (dk oX8_next 59 rfl) fl_X8_25 ft_8_4 rfl (kn hn rfl) ?_
                    refine r_goto (tgt := 89) C (dk oX8_next 60 rfl) (by decide) ?_
                    refine V.sub [0] rfl ?_
                    exact ih (p2 + 1) _ (by omega) (by omega) (by rw [← hS2]; exact wE_in (by omega) hb108) (hF3.up 4 _ (by decide)) (by rw [up2_off (by decide)]; exact g2) (by rw [up2_off (by decide)]; exact g3) up2_at
            refine V.sub [0] rfl ?_
            exact L89 (L + 1) p_ _ (by omega) (by omega) rfl (hF2.up 2 _ (by decide)) up2_at (by rw [up2_off (by decide)]; exact k3) (by rw [up2_off (by decide)]; exact k4)
        · simp (disch := omega) only [nI_leI, nI_ltI, nI_eq, nI_eq0] at hb62
          refine r_aload_n C 0 (dk oX8_next 32 rfl) rfl ?_
          refine r_iconst C (dk oX8_next 33 rfl) (v := nI 0) (by decide) ?_
          refine r_putI C (dk oX8_next 34 rfl) fl_X8_34 ft_8_2 rfl (kn hn rfl) ?_
          refine r_goto (tgt := 190) C (dk oX8_next 35 rfl) (by decide) ?_
          refine hret (dk oX8_next 95 rfl) ?_
          first
            | exact ⟨hF2.up 2 _ (by decide), ⟨by rw [hS9]; omega, by rw [hS9, (tkK_0 (by omega)).1]; exact up2_at, by rw [hS9, up2_off (by decide)]; exact k3, by rw [hS9, up2_off (by decide), (tkK_0 (by omega)).2]; exact k4⟩, rfl⟩
            | exact ⟨hF3, ⟨by rw [hS9]; omega, by rw [hS9, (tkK_1 (by omega) hb81).1]; exact g2, by rw [hS9]; exact g3, by rw [hS9, (tkK_1 (by omega) hb81).2, hS8]; exact g4⟩, rfl⟩
            | exact ⟨hF3, ⟨by rw [hS9]; omega, by rw [hS9, (tkK_2 (by omega) hb81 hb132).1]; exact g2, by rw [hS9]; exact g3, by rw [hS9, (tkK_2 (by omega) hb81 hb132).2, hS8]; exact g4⟩, rfl⟩
            | exact ⟨(hF2.up 2 _ (by decide)).up 4 _ (by decide), ⟨by rw [hS9]; omega, by rw [hS9, (tkK_3 (by omega) hb81 hb132).1, up2_off (by decide)]; exact up2_at, by rw [hS9, up2_off (by decide), up2_off (by decide)]; exact k3, by rw [hS9, (tkK_3 (by omega) hb81 hb132).2]; exact up2_at⟩, rfl⟩
      · simp (disch := omega) only [nI_leI, nI_ltI, nI_eq, nI_eq0] at hb16
        refine r_aload_n C 0 (dk oX8_next 9 rfl) rfl ?_
        refine r_getR C (dk oX8_next 10 rfl) fl_X8_9 rfl (kn hn rfl) ?_
        refine r_aload_n C 0 (dk oX8_next 11 rfl) rfl ?_
        refine r_getI C (dk oX8_next 12 rfl) fl_X8_31 rfl (kn hn rfl) ?_
        rw [h3]
        refine r_iald C _ (dk oX8_next 13 rfl) rfl (kn hn rfl) rfl (by have := hT.1; omega) (by decide) ?_
        have b27 := (hT1.2.2 p_ (by omega)).1
        rw [(hT1.2.2 p_ (by omega)).2]
        refine r_bipush C (dk oX8_next 14 rfl) (v := nI 32) (by decide) ?_
        refine r_icmp_ne (tgt := 46) C (dk oX8_next 15 rfl) (by decide) (fun hb30 => ?_) (fun hb30 => ?_)
        · simp (disch := omega) only [nI_leI, nI_ltI, nI_eq, nI_eq0] at hb30
          have hS9 : sk t L e_ = p_ := hS.symm.trans (sk_out (Or.inr (isBl_f hb30)))
          refine r_aload_n C 0 (dk oX8_next 23 rfl) rfl ?_
          refine r_aload_n C 0 (dk oX8_next 24 rfl) rfl ?_
          refine r_getI C (dk oX8_next 25 rfl) fl_X8_31 rfl (kn hn rfl) ?_
          rw [h3]
          refine r_putI C (dk oX8_next 26 rfl) fl_X8_25 ft_8_4 rfl (kn hn rfl) ?_
          generalize hI2 : up2 I1 1 4 (nI p_) = I2
          have hF2 : txF I I2 := hI2 ▸ hF.up 4 _ (by decide)
          have hT2 := hT.of hF2
          have k3 : I2 1 3 = nI p_ := by rw [← hI2, up2_off (by decide)]; exact h3
          have k4 : I2 1 4 = nI p_ := by rw [← hI2, up2_at]
          refine r_aload_n C 0 (dk oX8_next 27 rfl) rfl ?_
          refine r_getI C (dk oX8_next 28 rfl) fl_X8_31 rfl (kn hn rfl) ?_
          rw [k3]
          refine r_aload_n C 0 (dk oX8_next 29 rfl) rfl ?_
          refine r_getI C (dk oX8_next 30 rfl) fl_X8_19 rfl (kn hn rfl) ?_
          rw [hT2.2.1]
          refine r_icmp_lt (tgt := 73) C (dk oX8_next 31 rfl) (by decide) (fun hb62 => ?_) (fun hb62 => ?_)
          · simp (disch := omega) only [nI_leI, nI_ltI, nI_eq, nI_eq0] at hb62
            refine r_aload_n C 0 (dk oX8_next 36 rfl) rfl ?_
            refine r_aload_n C 0 (dk oX8_next 37 rfl) rfl ?_
            refine r_getI C (dk oX8_next 38 rfl) fl_X8_31 rfl (kn hn rfl) ?_
            rw [k3]
            refine r_ivi C Z (dk oX8_next 39 rfl) cl_X8_37 ci_X8_isLetterAt rfl (kn hn rfl) (c_X8_isLetterAt hn I2 J p_ (t p_) (by have := hT.1; omega) (hT2.2.2 p_ (by omega)).1 (hT2.2.2 p_ (by omega)).2) rfl rfl (Nat.le_of_ble_eq_true rfl) ⟨Nat.le_of_ble_eq_true rfl, Nat.le_of_ble_eq_true rfl⟩ ⟨Nat.zero_le _, Nat.zero_le _⟩ (fun r78 I78 J78 h78 => ?_)
            obtain ⟨h78, e1_, e2_⟩ := h78
            have e1_ := e1_.symm
            have e2_ := e2_.symm
            subst e1_
            subst e2_
            subst h78
            refine r_if_eq (tgt := 124) C (dk oX8_next 40 rfl) (by decide) (fun hb81 => ?_) (fun hb81 => ?_)
            · rw [b32_0] at hb81
              refine r_aload_n C 0 (dk oX8_next 61 rfl) rfl ?_
              refine r_aload_n C 0 (dk oX8_next 62 rfl) rfl ?_
              refine r_getI C (dk oX8_next 63 rfl) fl_X8_31 rfl (kn hn rfl) ?_
              rw [k3]
              refine r_ivi C Z (dk oX8_next 64 rfl) cl_X8_41 ci_X8_isFigureAt rfl (kn hn rfl) (c_X8_isFigureAt hn _ _ p_ (t p_) (by have := hT.1; omega) (hT2.2.2 p_ (by omega)).1 (hT2.2.2 p_ (by omega)).2) rfl rfl (Nat.le_of_ble_eq_true rfl) ⟨Nat.le_of_ble_eq_true rfl, Nat.le_of_ble_eq_true rfl⟩ ⟨Nat.zero_le _, Nat.zero_le _⟩ (fun r129 I129 J129 h129 => ?_)
              obtain ⟨h129, e1_, e2_⟩ := h129
              have e1_ := e1_.symm
              have e2_ := e2_.symm
              subst e1_
              subst e2_
              subst h129
              refine r_if_eq (tgt := 175) C (dk oX8_next 65 rfl) (by decide) (fun hb132 => ?_) (fun hb132 => ?_)
              · rw [b32_0] at hb132
                refine r_aload_n C 0 (dk oX8_next 86 rfl) rfl ?_
                refine r_iconst C (dk oX8_next 87 rfl) (v := nI 3) (by decide) ?_
                refine r_putI C (dk oX8_next 88 rfl) fl_X8_34 ft_8_2 rfl (kn hn rfl) ?_
                refine r_aload_n C 0 (dk oX8_next 89 rfl) rfl ?_
                refine r_dup C (dk oX8_next 90 rfl) rfl ?_
                refine r_getI C (dk oX8_next 91 rfl) fl_X8_25 rfl (kn hn rfl) ?_
                rw [up2_off (by decide), k4]
                refine r_iconst C (dk oX8_next 92 rfl) (v := nI 1) (by decide) ?_
                refine r_iadd C (dk oX8_next 93 rfl) ?_
                rw [show nI p_ + nI 1 = nI (p_ + 1) from nI_add p_ 1]
                refine r_putI C (dk oX8_next 94 rfl) fl_X8_25 ft_8_4 rfl (kn hn rfl) ?_
                refine hret (dk oX8_next 95 rfl) ?_
                first
                  | exact ⟨hF2.up 2 _ (by decide), ⟨by rw [hS9]; omega, by rw [hS9, (tkK_0 (by omega)).1]; exact up2_at, by rw [hS9, up2_off (by decide)]; exact k3, by rw [hS9, up2_off (by decide), (tkK_0 (by omega)).2]; exact k4⟩, rfl⟩
                  | exact ⟨hF3, ⟨by rw [hS9]; omega, by rw [hS9, (tkK_1 (by omega) hb81).1]; exact g2, by rw [hS9]; exact g3, by rw [hS9, (tkK_1 (by omega) hb81).2, hS8]; exact g4⟩, rfl⟩
                  | exact ⟨hF3, ⟨by rw [hS9]; omega, by rw [hS9, (tkK_2 (by omega) hb81 hb132).1]; exact g2, by rw [hS9]; exact g3, by rw [hS9, (tkK_2 (by omega) hb81 hb132).2, hS8]; exact g4⟩, rfl⟩
                  | exact ⟨(hF2.up 2 _ (by decide)).up 4 _ (by decide), ⟨by rw [hS9]; omega, by rw [hS9, (tkK_3 (by omega) hb81 hb132).1, up2_off (by decide)]; exact up2_at, by rw [hS9, up2_off (by decide), up2_off (by decide)]; exact k3, by rw [hS9, (tkK_3 (by omega) hb81 hb132).2]; exact up2_at⟩, rfl⟩
              · rw [b32_n] at hb132
                refine r_aload_n C 0 (dk oX8_next 66 rfl) rfl ?_
                refine r_iconst C (dk oX8_next 67 rfl) (v := nI 2) (by decide) ?_
                refine r_putI C (dk oX8_next 68 rfl) fl_X8_34 ft_8_2 rfl (kn hn rfl) ?_
                have L140 : ∀ (d_ : Nat) (p2 : Nat) (I3 : MI), L - p2 < d_ → p2 ≤ L → nE t L p2 = nE t L p_ → txF I I3 → I3 1 2 = nI 2 → I3 1 3 = nI p_ → I3 1 4 = nI p2 → V p l e (rmL 1) s m args below meth c Q D A 1 0 0 n ad (mE cA ad I3 J) 140 [(0, .ref (ad 1))] [] := by
                  intro d_
                  induction d_ with
                  | zero => intros; exact absurd (by assumption) (Nat.not_lt_zero _)
                  | succ d_ ih => 
                    intro p2 I3 hd2 hp2 hS2 hF3 g2 g3 g4
                    have hT3 := hT.of hF3
                    refine r_aload_n C 0 (dk oX8_next 69 rfl) rfl ?_
                    refine r_getI C (dk oX8_next 70 rfl) fl_X8_25 rfl (kn hn rfl) ?_
                    rw [g4]
                    refine r_aload_n C 0 (dk oX8_next 71 rfl) rfl ?_
                    refine r_getI C (dk oX8_next 72 rfl) fl_X8_19 rfl (kn hn rfl) ?_
                    rw [hT3.2.1]
                    refine r_icmp_ge (tgt := 190) C (dk oX8_next 73 rfl) (by decide) (fun hb148 => ?_) (fun hb148 => ?_)
                    · simp (disch := omega) only [nI_leI, nI_ltI, nI_eq, nI_eq0] at hb148
                      have hS8 : nE t L p_ = p2 := hS2.symm.trans (nE_out (Or.inl (by omega)))
                      refine hret (dk oX8_next 95 rfl) ?_
                      first
                        | exact ⟨hF2.up 2 _ (by decide), ⟨by rw [hS9]; omega, by rw [hS9, (tkK_0 (by omega)).1]; exact up2_at, by rw [hS9, up2_off (by decide)]; exact k3, by rw [hS9, up2_off (by decide), (tkK_0 (by omega)).2]; exact k4⟩, rfl⟩
                        | exact ⟨hF3, ⟨by rw [hS9]; omega, by rw [hS9, (tkK_1 (by omega) hb81).1]; exact g2, by rw [hS9]; exact g3, by rw [hS9, (tkK_1 (by omega) hb81).2, hS8]; exact g4⟩, rfl⟩
                        | exact ⟨hF3, ⟨by rw [hS9]; omega, by rw [hS9, (tkK_2 (by omega) hb81 hb132).1]; exact g2, by rw [hS9]; exact g3, by rw [hS9, (tkK_2 (by omega) hb81 hb132).2, hS8]; exact g4⟩, rfl⟩
                        | exact ⟨(hF2.up 2 _ (by decide)).up 4 _ (by decide), ⟨by rw [hS9]; omega, by rw [hS9, (tkK_3 (by omega) hb81 hb132).1, up2_off (by decide)]; exact up2_at, by rw [hS9, up2_off (by decide), up2_off (by decide)]; exact k3, by rw [hS9, (tkK_3 (by omega) hb81 hb132).2]; exact up2_at⟩, rfl⟩
                    · simp (disch := omega) only [nI_leI, nI_ltI, nI_eq, nI_eq0] at hb148
                      refine r_aload_n C 0 (dk oX8_next 74 rfl) rfl ?_
                      refine r_aload_n C 0 (dk oX8_next 75 rfl) rfl ?_
                      refine r_getI C (dk oX8_next 76 rfl) fl_X8_25 rfl (kn hn rfl) ?_
                      rw [g4]
                      refine r_ivi C Z (dk oX8_next 77 rfl) cl_X8_41 ci_X8_isFigureAt rfl (kn hn rfl) (c_X8_isFigureAt hn I3 _ p2 (t p2) (by have := hT.1; omega) (hT3.2.2 p2 (by omega)).1 (hT3.2.2 p2 (by omega)).2) rfl rfl (Nat.le_of_ble_eq_true rfl) ⟨Nat.le_of_ble_eq_true rfl, Nat.le_of_ble_eq_true rfl⟩ ⟨Nat.zero_le _, Nat.zero_le _⟩ (fun r156 I156 J156 h156 => ?_)
                      obtain ⟨h156, e1_, e2_⟩ := h156
                      have e1_ := e1_.symm
                      have e2_ := e2_.symm
                      subst e1_
                      subst e2_
                      subst h156
                      refine r_if_eq (tgt := 190) C (dk oX8_next 78 rfl) (by decide) (fun hb159 => ?_) (fun hb159 => ?_)
                      · rw [b32_0] at hb159
                        have hS8 : nE t L p_ = p2 := hS2.symm.trans (nE_out (Or.inr hb159))
                        refine hret (dk oX8_next 95 rfl) ?_
                        first
                          | exact ⟨hF2.up 2 _ (by decide), ⟨by rw [hS9]; omega, by rw [hS9, (tkK_0 (by omega)).1]; exact up2_at, by rw [hS9, up2_off (by decide)]; exact k3, by rw [hS9, up2_off (by decide), (tkK_0 (by omega)).2]; exact k4⟩, rfl⟩
                          | exact ⟨hF3, ⟨by rw [hS9]; omega, by rw [hS9, (tkK_1 (by omega) hb81).1]; exact g2, by rw [hS9]; exact g3, by rw [hS9, (tkK_1 (by omega) hb81).2, hS8]; exact g4⟩, rfl⟩
                          | exact ⟨hF3, ⟨by rw [hS9]; omega, by rw [hS9, (tkK_2 (by omega) hb81 hb132).1]; exact g2, by rw [hS9]; exact g3, by rw [hS9, (tkK_2 (by omega) hb81 hb132).2, hS8]; exact g4⟩, rfl⟩
                          | exact ⟨(hF2.up 2 _ (by decide)).up 4 _ (by decide), ⟨by rw [hS9]; omega, by rw [hS9, (tkK_3 (by omega) hb81 hb132).1, up2_off (by decide)]; exact up2_at, by rw [hS9, up2_off (by decide), up2_off (by decide)]; exact k3, by rw [hS9, (tkK_3 (by omega) hb81 hb132).2]; exact up2_at⟩, rfl⟩
                      · rw [b32_n] at hb159
                        refine r_aload_n C 0 (dk oX8_next 79 rfl) rfl ?_
                        refine r_dup C (dk oX8_next 80 rfl) rfl ?_
                        refine r_getI C (dk oX8_next 81 rfl) fl_X8_25 rfl (kn hn rfl) ?_
                        rw [g4]
                        refine r_iconst C (dk oX8_next 82 rfl) (v := nI 1) (by decide) ?_
                        refine r_iadd C (dk oX8_next 83 rfl) ?_
                        rw [show nI p2 + nI 1 = nI (p2 + 1) from nI_add p2 1]
                        refine r_putI C (dk oX8_next 84 rfl) fl_X8_25 ft_8_4 rfl (kn hn rfl) ?_
                        refine r_goto (tgt := 140) C (dk oX8_next 85 rfl) (by decide) ?_
                        refine V.sub [0] rfl ?_
                        exact ih (p2 + 1) _ (by omega) (by omega) (by rw [← hS2]; exact nE_in (by omega) hb159) (hF3.up 4 _ (by decide)) (by rw [up2_off (by decide)]; exact g2) (by rw [up2_off (by decide)]; exact g3) up2_at
                refine V.sub [0] rfl ?_
                exact L140 (L + 1) p_ _ (by omega) (by omega) rfl (hF2.up 2 _ (by decide)) up2_at (by rw [up2_off (by decide)]; exact k3) (by rw [up2_off (by decide)]; exact k4)
            · rw [b32_n] at hb81
              refine r_aload_n C 0 (dk oX8_next 41 rfl) rfl ?_
              refine r_iconst C (dk oX8_next 42 rfl) (v := nI 1) (by decide) ?_
              refine r_putI C (dk oX8_next 43 rfl) fl_X8_34 ft_8_2 rfl (kn hn rfl) ?_
              have L89 : ∀ (d_ : Nat) (p2 : Nat) (I3 : MI), L - p2 < d_ → p2 ≤ L → wE t L p2 = wE t L p_ → txF I I3 → I3 1 2 = nI 1 → I3 1 3 = nI p_ → I3 1 4 = nI p2 → V p l e (rmL 1) s m args below meth c Q D A 1 0 0 n ad (mE cA ad I3 J) 89 [(0, .ref (ad 1))] [] := by
                intro d_
                induction d_ with
                | zero => intros; exact absurd (by assumption) (Nat.not_lt_zero _)
                | succ d_ ih => 
                  intro p2 I3 hd2 hp2 hS2 hF3 g2 g3 g4
                  have hT3 := hT.of hF3
                  refine r_aload_n C 0 (dk oX8_next 44 rfl) rfl ?_
                  refine r_getI C (dk oX8_next 45 rfl) fl_X8_25 rfl (kn hn rfl) ?_
                  rw [g4]
                  refine r_aload_n C 0 (dk oX8_next 46 rfl) rfl ?_
                  refine r_getI C (dk oX8_next 47 rfl) fl_X8_19 rfl (kn hn rfl) ?_
                  rw [hT3.2.1]
                  refine r_icmp_ge (tgt := 190) C (dk oX8_next 48 rfl) (by decide) (fun hb97 => ?_) (fun hb97 => ?_)
                  · simp (disch := omega) only [nI_leI, nI_ltI, nI_eq, nI_eq0] at hb97
                    have hS8 : wE t L p_ = p2 := hS2.symm.trans (wE_out (Or.inl (by omega)))
                    refine hret (dk oX8_next 95 rfl) ?_
                    first
                      | exact ⟨hF2.up 2 _ (by decide), ⟨by rw [hS9]; omega, by rw [hS9, (tkK_0 (by omega)).1]; exact up2_at, by rw [hS9, up2_off (by decide)]; exact k3, by rw [hS9, up2_off (by decide), (tkK_0 (by omega)).2]; exact k4⟩, rfl⟩
                      | exact ⟨hF3, ⟨by rw [hS9]; omega, by rw [hS9, (tkK_1 (by omega) hb81).1]; exact g2, by rw [hS9]; exact g3, by rw [hS9, (tkK_1 (by omega) hb81).2, hS8]; exact g4⟩, rfl⟩
                      | exact ⟨hF3, ⟨by rw [hS9]; omega, by rw [hS9, (tkK_2 (by omega) hb81 hb132).1]; exact g2, by rw [hS9]; exact g3, by rw [hS9, (tkK_2 (by omega) hb81 hb132).2, hS8]; exact g4⟩, rfl⟩
                      | exact ⟨(hF2.up 2 _ (by decide)).up 4 _ (by decide), ⟨by rw [hS9]; omega, by rw [hS9, (tkK_3 (by omega) hb81 hb132).1, up2_off (by decide)]; exact up2_at, by rw [hS9, up2_off (by decide), up2_off (by decide)]; exact k3, by rw [hS9, (tkK_3 (by omega) hb81 hb132).2]; exact up2_at⟩, rfl⟩
                  · simp (disch := omega) only [nI_leI, nI_ltI, nI_eq, nI_eq0] at hb97
                    refine r_aload_n C 0 (dk oX8_next 49 rfl) rfl ?_
                    refine r_aload_n C 0 (dk oX8_next 50 rfl) rfl ?_
                    refine r_getI C (dk oX8_next 51 rfl) fl_X8_25 rfl (kn hn rfl) ?_
                    rw [g4]
                    refine r_ivi C Z (dk oX8_next 52 rfl) cl_X8_37 ci_X8_isLetterAt rfl (kn hn rfl) (c_X8_isLetterAt hn I3 J p2 (t p2) (by have := hT.1; omega) (hT3.2.2 p2 (by omega)).1 (hT3.2.2 p2 (by omega)).2) rfl rfl (Nat.le_of_ble_eq_true rfl) ⟨Nat.le_of_ble_eq_true rfl, Nat.le_of_ble_eq_true rfl⟩ ⟨Nat.zero_le _, Nat.zero_le _⟩ (fun r105 I105 J105 h105 => ?_)
                    obtain ⟨h105, e1_, e2_⟩ := h105
                    have e1_ := e1_.symm
                    have e2_ := e2_.symm
                    subst e1_
                    subst e2_
                    subst h105
                    refine r_if_eq (tgt := 190) C (dk oX8_next 53 rfl) (by decide) (fun hb108 => ?_) (fun hb108 => ?_)
                    · rw [b32_0] at hb108
                      have hS8 : wE t L p_ = p2 := hS2.symm.trans (wE_out (Or.inr hb108))
                      refine hret (dk oX8_next 95 rfl) ?_
                      first
                        | exact ⟨hF2.up 2 _ (by decide), ⟨by rw [hS9]; omega, by rw [hS9, (tkK_0 (by omega)).1]; exact up2_at, by rw [hS9, up2_off (by decide)]; exact k3, by rw [hS9, up2_off (by decide), (tkK_0 (by omega)).2]; exact k4⟩, rfl⟩
                        | exact ⟨hF3, ⟨by rw [hS9]; omega, by rw [hS9, (tkK_1 (by omega) hb81).1]; exact g2, by rw [hS9]; exact g3, by rw [hS9, (tkK_1 (by omega) hb81).2, hS8]; exact g4⟩, rfl⟩
                        | exact ⟨hF3, ⟨by rw [hS9]; omega, by rw [hS9, (tkK_2 (by omega) hb81 hb132).1]; exact g2, by rw [hS9]; exact g3, by rw [hS9, (tkK_2 (by omega) hb81 hb132).2, hS8]; exact g4⟩, rfl⟩
                        | exact ⟨(hF2.up 2 _ (by decide)).up 4 _ (by decide), ⟨by rw [hS9]; omega, by rw [hS9, (tkK_3 (by omega) hb81 hb132).1, up2_off (by decide)]; exact up2_at, by rw [hS9, up2_off (by decide), up2_off (by decide)]; exact k3, by rw [hS9, (tkK_3 (by omega) hb81 hb132).2]; exact up2_at⟩, rfl⟩
                    · rw [b32_n] at hb108
                      refine r_aload_n C 0 (dk oX8_next 54 rfl) rfl ?_
                      refine r_dup C (dk oX8_next 55 rfl) rfl ?_
                      refine r_getI C (dk oX8_next 56 rfl) fl_X8_25 rfl (kn hn rfl) ?_
                      rw [g4]
                      refine r_iconst C (dk oX8_next 57 rfl) (v := nI 1) (by decide) ?_
                      refine r_iadd C (dk oX8_next 58 rfl) ?_
                      rw [show nI p2 + nI 1 = nI (p2 + 1) from nI_add p2 1]
                      refine r_putI C (dk oX8_next 59 rfl) fl_X8_25 ft_8_4 rfl (kn hn rfl) ?_
                      refine r_goto (tgt := 89) C (dk oX8_next 60 rfl) (by decide) ?_
                      refine V.sub [0] rfl ?_
                      exact ih (p2 + 1) _ (by omega) (by omega) (by rw [← hS2]; exact wE_in (by omega) hb108) (hF3.up 4 _ (by decide)) (by rw [up2_off (by decide)]; exact g2) (by rw [up2_off (by decide)]; exact g3) up2_at
              refine V.sub [0] rfl ?_
              exact L89 (L + 1) p_ _ (by omega) (by omega) rfl (hF2.up 2 _ (by decide)) up2_at (by rw [up2_off (by decide)]; exact k3) (by rw [up2_off (by decide)]; exact k4)
          · simp (disch := omega) only [nI_leI, nI_ltI, nI_eq, nI_eq0] at hb62
            refine r_aload_n C 0 (dk oX8_next 32 rfl) rfl ?_
            refine r_iconst C (dk oX8_next 33 rfl) (v := nI 0) (by decide) ?_
            refine r_putI C (dk oX8_next 34 rfl) fl_X8_34 ft_8_2 rfl (kn hn rfl) ?_
            refine r_goto (tgt := 190) C (dk oX8_next 35 rfl) (by decide) ?_
            refine hret (dk oX8_next 95 rfl) ?_
            first
              | exact ⟨hF2.up 2 _ (by decide), ⟨by rw [hS9]; omega, by rw [hS9, (tkK_0 (by omega)).1]; exact up2_at, by rw [hS9, up2_off (by decide)]; exact k3, by rw [hS9, up2_off (by decide), (tkK_0 (by omega)).2]; exact k4⟩, rfl⟩
              | exact ⟨hF3, ⟨by rw [hS9]; omega, by rw [hS9, (tkK_1 (by omega) hb81).1]; exact g2, by rw [hS9]; exact g3, by rw [hS9, (tkK_1 (by omega) hb81).2, hS8]; exact g4⟩, rfl⟩
              | exact ⟨hF3, ⟨by rw [hS9]; omega, by rw [hS9, (tkK_2 (by omega) hb81 hb132).1]; exact g2, by rw [hS9]; exact g3, by rw [hS9, (tkK_2 (by omega) hb81 hb132).2, hS8]; exact g4⟩, rfl⟩
              | exact ⟨(hF2.up 2 _ (by decide)).up 4 _ (by decide), ⟨by rw [hS9]; omega, by rw [hS9, (tkK_3 (by omega) hb81 hb132).1, up2_off (by decide)]; exact up2_at, by rw [hS9, up2_off (by decide), up2_off (by decide)]; exact k3, by rw [hS9, (tkK_3 (by omega) hb81 hb132).2]; exact up2_at⟩, rfl⟩
        · simp (disch := omega) only [nI_leI, nI_ltI, nI_eq, nI_eq0] at hb30
          refine r_aload_n C 0 (dk oX8_next 16 rfl) rfl ?_
          refine r_dup C (dk oX8_next 17 rfl) rfl ?_
          refine r_getI C (dk oX8_next 18 rfl) fl_X8_31 rfl (kn hn rfl) ?_
          rw [h3]
          refine r_iconst C (dk oX8_next 19 rfl) (v := nI 1) (by decide) ?_
          refine r_iadd C (dk oX8_next 20 rfl) ?_
          rw [show nI p_ + nI 1 = nI (p_ + 1) from nI_add p_ 1]
          refine r_putI C (dk oX8_next 21 rfl) fl_X8_31 ft_8_3 rfl (kn hn rfl) ?_
          refine r_goto (tgt := 8) C (dk oX8_next 22 rfl) (by decide) ?_
          refine V.sub [0] rfl ?_
          exact ih (p_ + 1) _ (by omega) (by omega) (by rw [← hS]; exact sk_in (by omega) (isBl_t hb30)) (hF.up 3 _ (by decide)) up2_at
  refine V.sub [0] rfl ?_
  exact L8 (L + 1) e_ _ (by omega) he rfl ((txF.rf I).up 3 _ (by decide)) up2_at

set_option maxHeartbeats 1000000 in
set_option maxRecDepth 100000 in
theorem c_X8_begin (hn : 117 ≤ n) (I : MI) (J : MJ) (t : Nat → Nat) (L : Nat) (hT : Tx I t L) : Cv l n ad cA D z 2 yX8_begin cX8_begin 1 I J [.ref (ad 1)] (fun I' J' => txG I I' ∧ Tk I' t L (sk t L 0) ∧ I' 1 5 = nI 0 ∧ I' 1 6 = -1 ∧ J' = J) := by
  refine Cv.of (by decide) (Nat.le_of_ble_eq_true rfl) ?_
  intro p e s m args below meth c A C hin Z Q hret
  refine r_aload_n C 0 (dk oX8_begin 0 rfl) rfl ?_
  refine r_iconst C (dk oX8_begin 1 rfl) (v := nI 0) (by decide) ?_
  refine r_putI C (dk oX8_begin 2 rfl) fl_X8_22 ft_8_5 rfl (kn hn rfl) ?_
  refine r_aload_n C 0 (dk oX8_begin 3 rfl) rfl ?_
  refine r_iconst C (dk oX8_begin 4 rfl) (v := -1) (by decide) ?_
  refine r_putI C (dk oX8_begin 5 rfl) fl_X8_15 ft_8_6 rfl (kn hn rfl) ?_
  refine r_aload_n C 0 (dk oX8_begin 6 rfl) rfl ?_
  refine r_iconst C (dk oX8_begin 7 rfl) (v := nI 0) (by decide) ?_
  refine r_putI C (dk oX8_begin 8 rfl) fl_X8_25 ft_8_4 rfl (kn hn rfl) ?_
  refine r_aload_n C 0 (dk oX8_begin 9 rfl) rfl ?_
  refine r_ivv C Z (dk oX8_begin 10 rfl) cl_X8_28 ci_X8_next rfl (kn hn rfl) (c_X8_next hn _ J t L (hT.ofG ((((txG.rf I).up 5 _ (by decide)).up 6 _ (by decide)).up 4 _ (by decide))) 0 (by omega) up2_at) rfl rfl (Nat.le_of_ble_eq_true rfl) ⟨Nat.le_of_ble_eq_true rfl, Nat.le_of_ble_eq_true rfl⟩ ⟨Nat.zero_le _, Nat.zero_le _⟩ (fun I16 J16 h16 => ?_)
  refine hret (dk oX8_begin 11 rfl) ?_
  obtain ⟨a1, a2, a3⟩ := h16
  exact ⟨((((txG.rf I).up 5 _ (by decide)).up 6 _ (by decide)).up 4 _ (by decide)).trans a1.G, a2, by rw [a1.2 5 (by decide) (by decide) (by decide), up2_off (by decide), up2_off (by decide), up2_at], by rw [a1.2 6 (by decide) (by decide) (by decide), up2_off (by decide), up2_at], a3⟩

set_option maxHeartbeats 1000000 in
set_option maxRecDepth 100000 in
theorem c_X8_isSound (hn : 117 ≤ n) (I : MI) (J : MJ) (k : Nat) (hk : k < 8) (h : I 1 5 = nI k) : Ci l n ad cA D z 0 yX8_isSound cX8_isSound 1 .boolean I J [.ref (ad 1)] (fun r I' J' => r = b32 (decide (k = 0)) ∧ I' = I ∧ J' = J) := by
  refine Ci.of (by decide) (Nat.le_of_ble_eq_true rfl) ?_
  intro p e s m args below meth c A C hin Z Q hret
  refine r_aload_n C 0 (dk oX8_isSound 0 rfl) rfl ?_
  refine r_getI C (dk oX8_isSound 1 rfl) fl_X8_22 rfl (kn hn rfl) ?_
  rw [h]
  refine r_if_ne (tgt := 11) C (dk oX8_isSound 2 rfl) (by decide) (fun hb4 => ?_) (fun hb4 => ?_)
  · simp (disch := omega) only [nI_leI, nI_ltI, nI_eq, nI_eq0] at hb4
    refine r_iconst C (dk oX8_isSound 5 rfl) (v := nI 0) (by decide) ?_
    refine hret (dk oX8_isSound 6 rfl) rfl ?_
    refine ⟨?_, rfl, rfl⟩
    first | (rw [decide_eq_true hb4]; rfl) | (rw [decide_eq_false hb4]; rfl)
  · simp (disch := omega) only [nI_leI, nI_ltI, nI_eq, nI_eq0] at hb4
    refine r_iconst C (dk oX8_isSound 3 rfl) (v := nI 1) (by decide) ?_
    refine r_goto (tgt := 12) C (dk oX8_isSound 4 rfl) (by decide) ?_
    refine hret (dk oX8_isSound 6 rfl) rfl ?_
    refine ⟨?_, rfl, rfl⟩
    first | (rw [decide_eq_true hb4]; rfl) | (rw [decide_eq_false hb4]; rfl)

set_option maxHeartbeats 1000000 in
set_option maxRecDepth 100000 in
theorem c_X8_isAtEnd (hn : 117 ≤ n) (I : MI) (J : MJ) : Ci l n ad cA D z 0 yX8_isAtEnd cX8_isAtEnd 1 .boolean I J [.ref (ad 1)] (fun r I' J' => r = b32 (decide (I 1 2 = 0)) ∧ I' = I ∧ J' = J) := by
  refine Ci.of (by decide) (Nat.le_of_ble_eq_true rfl) ?_
  intro p e s m args below meth c A C hin Z Q hret
  refine r_aload_n C 0 (dk oX8_isAtEnd 0 rfl) rfl ?_
  refine r_getI C (dk oX8_isAtEnd 1 rfl) fl_X8_34 rfl (kn hn rfl) ?_
  refine r_if_ne (tgt := 11) C (dk oX8_isAtEnd 2 rfl) (by decide) (fun hb4 => ?_) (fun hb4 => ?_)
  · refine r_iconst C (dk oX8_isAtEnd 5 rfl) (v := nI 0) (by decide) ?_
    refine hret (dk oX8_isAtEnd 6 rfl) rfl ?_
    refine ⟨?_, rfl, rfl⟩
    first | (rw [decide_eq_true hb4]; rfl) | (rw [decide_eq_false hb4]; rfl)
  · refine r_iconst C (dk oX8_isAtEnd 3 rfl) (v := nI 1) (by decide) ?_
    refine r_goto (tgt := 12) C (dk oX8_isAtEnd 4 rfl) (by decide) ?_
    refine hret (dk oX8_isAtEnd 6 rfl) rfl ?_
    refine ⟨?_, rfl, rfl⟩
    first | (rw [decide_eq_true hb4]; rfl) | (rw [decide_eq_false hb4]; rfl)

set_option maxHeartbeats 1000000 in
set_option maxRecDepth 100000 in
theorem c_X8_fail (hn : 117 ≤ n) (I : MI) (J : MJ) (k fn s_ : Nat) (hf : fn < 8) (h5 : I 1 5 = nI fn) (h3 : I 1 3 = nI s_) : Cv l n ad cA D z 0 yX8_fail cX8_fail 2 I J [.ref (ad 1), .int (nI k)] (fun I' J' => I' = (if fn = 0 then flt I k s_ else I) ∧ J' = J) := by
  refine Cv.of (by decide) (Nat.le_of_ble_eq_true rfl) ?_
  intro p e s m args below meth c A C hin Z Q hret
  refine r_aload_n C 0 (dk oX8_fail 0 rfl) rfl ?_
  refine r_getI C (dk oX8_fail 1 rfl) fl_X8_22 rfl (kn hn rfl) ?_
  rw [h5]
  refine r_if_ne (tgt := 20) C (dk oX8_fail 2 rfl) (by decide) (fun hb4 => ?_) (fun hb4 => ?_)
  · simp (disch := omega) only [nI_leI, nI_ltI, nI_eq, nI_eq0] at hb4
    refine hret (dk oX8_fail 10 rfl) ?_
    first | exact ⟨(if_neg hb4).symm, rfl⟩ | exact ⟨(if_pos hb4).symm, rfl⟩
  · simp (disch := omega) only [nI_leI, nI_ltI, nI_eq, nI_eq0] at hb4
    refine r_aload_n C 0 (dk oX8_fail 3 rfl) rfl ?_
    refine r_iload_n C 1 (dk oX8_fail 4 rfl) rfl ?_
    refine r_putI C (dk oX8_fail 5 rfl) fl_X8_22 ft_8_5 rfl (kn hn rfl) ?_
    refine r_aload_n C 0 (dk oX8_fail 6 rfl) rfl ?_
    refine r_aload_n C 0 (dk oX8_fail 7 rfl) rfl ?_
    refine r_getI C (dk oX8_fail 8 rfl) fl_X8_31 rfl (kn hn rfl) ?_
    rw [up2_off (by decide), h3]
    refine r_putI C (dk oX8_fail 9 rfl) fl_X8_15 ft_8_6 rfl (kn hn rfl) ?_
    refine hret (dk oX8_fail 10 rfl) ?_
    first | exact ⟨(if_neg hb4).symm, rfl⟩ | exact ⟨(if_pos hb4).symm, rfl⟩

set_option maxHeartbeats 1000000 in
set_option maxRecDepth 100000 in
theorem c_X8_isSign (hn : 117 ≤ n) (I : MI) (J : MJ) (t : Nat → Nat) (L : Nat) (hT : Tx I t L) (s_ ch : Nat) (hk : Tk I t L s_) (hc : isLt ch = false) (hc2 : isDg ch = false) (hc3 : ch < 256) : Ci l n ad cA D z 0 yX8_isSign cX8_isSign 2 .boolean I J [.ref (ad 1), .int (nI ch)] (fun r I' J' => r = b32 (isS t L s_ ch) ∧ I' = I ∧ J' = J) := by
  refine Ci.of (by decide) (Nat.le_of_ble_eq_true rfl) ?_
  intro p e s m args below meth c A C hin Z Q hret
  have hK := @tkK_lt t L s_
  have hL := hT.1
  refine r_aload_n C 0 (dk oX8_isSign 0 rfl) rfl ?_
  refine r_getI C (dk oX8_isSign 1 rfl) fl_X8_34 rfl (kn hn rfl) ?_
  rw [hk.2.1]
  refine r_iconst C (dk oX8_isSign 2 rfl) (v := nI 3) (by decide) ?_
  refine r_icmp_ne (tgt := 25) C (dk oX8_isSign 3 rfl) (by decide) (fun hb5 => ?_) (fun hb5 => ?_)
  · simp (disch := omega) only [nI_leI, nI_ltI, nI_eq, nI_eq0] at hb5
    refine r_iconst C (dk oX8_isSign 13 rfl) (v := nI 0) (by decide) ?_
    refine hret (dk oX8_isSign 14 rfl) rfl ?_
    refine ⟨?_, rfl, rfl⟩
    first
      | (rw [show isS t L s_ ch = true from decide_eq_true ⟨hsL, hb18⟩]; rfl)
      | (rw [show isS t L s_ ch = false from decide_eq_false (fun q => hb18 q.2)]; rfl)
      | (rw [show isS t L s_ ch = false from decide_eq_false (fun q => hb5 (by rw [← q.2] at hc hc2; exact (tkK_3 q.1 hc hc2).1))]; rfl)
  · simp (disch := omega) only [nI_leI, nI_ltI, nI_eq, nI_eq0] at hb5
    have hsL : s_ < L := by
      rcases Nat.lt_or_ge s_ L with q | q
      · exact q
      · rw [(tkK_0 q).1] at hb5; cases hb5
    refine r_aload_n C 0 (dk oX8_isSign 4 rfl) rfl ?_
    refine r_getR C (dk oX8_isSign 5 rfl) fl_X8_9 rfl (kn hn rfl) ?_
    refine r_aload_n C 0 (dk oX8_isSign 6 rfl) rfl ?_
    refine r_getI C (dk oX8_isSign 7 rfl) fl_X8_31 rfl (kn hn rfl) ?_
    rw [hk.2.2.1]
    refine r_iald C _ (dk oX8_isSign 8 rfl) rfl (kn hn rfl) rfl (by omega) (by decide) ?_
    have hbb := hT.2.2 s_ hsL
    have hb1 := hbb.1
    rw [hbb.2]
    refine r_iload_n C 1 (dk oX8_isSign 9 rfl) rfl ?_
    refine r_icmp_ne (tgt := 25) C (dk oX8_isSign 10 rfl) (by decide) (fun hb18 => ?_) (fun hb18 => ?_)
    · simp (disch := omega) only [nI_leI, nI_ltI, nI_eq, nI_eq0] at hb18
      refine r_iconst C (dk oX8_isSign 13 rfl) (v := nI 0) (by decide) ?_
      refine hret (dk oX8_isSign 14 rfl) rfl ?_
      refine ⟨?_, rfl, rfl⟩
      first
        | (rw [show isS t L s_ ch = true from decide_eq_true ⟨hsL, hb18⟩]; rfl)
        | (rw [show isS t L s_ ch = false from decide_eq_false (fun q => hb18 q.2)]; rfl)
        | (rw [show isS t L s_ ch = false from decide_eq_false (fun q => hb5 (by rw [← q.2] at hc hc2; exact (tkK_3 q.1 hc hc2).1))]; rfl)
    · simp (disch := omega) only [nI_leI, nI_ltI, nI_eq, nI_eq0] at hb18
      refine r_iconst C (dk oX8_isSign 11 rfl) (v := nI 1) (by decide) ?_
      refine r_goto (tgt := 26) C (dk oX8_isSign 12 rfl) (by decide) ?_
      refine hret (dk oX8_isSign 14 rfl) rfl ?_
      refine ⟨?_, rfl, rfl⟩
      first
        | (rw [show isS t L s_ ch = true from decide_eq_true ⟨hsL, hb18⟩]; rfl)
        | (rw [show isS t L s_ ch = false from decide_eq_false (fun q => hb18 q.2)]; rfl)
        | (rw [show isS t L s_ ch = false from decide_eq_false (fun q => hb5 (by rw [← q.2] at hc hc2; exact (tkK_3 q.1 hc hc2).1))]; rfl)

set_option maxHeartbeats 1000000 in
set_option maxRecDepth 100000 in
theorem c_X8_takesSign (hn : 117 ≤ n) (I : MI) (J : MJ) (t : Nat → Nat) (L : Nat) (hT : Tx I t L) (s_ ch fn : Nat) (hf : fn < 8) (h5 : I 1 5 = nI fn) (hk0 : fn = 0 → Tk I t L s_) (hc : isLt ch = false) (hc2 : isDg ch = false) (hc3 : ch < 256) : Ci l n ad cA D z 2 yX8_takesSign cX8_takesSign 3 .boolean I J [.ref (ad 1), .int (nI ch)] (fun r I' J' => (fn = 0 ∧ isS t L s_ ch = true ∧ r = b32 true ∧ txF I I' ∧ Tk I' t L (sk t L (s_ + 1)) ∧ J' = J) ∨ (¬ (fn = 0 ∧ isS t L s_ ch = true) ∧ r = b32 false ∧ I' = I ∧ J' = J)) := by
  refine Ci.of (by decide) (Nat.le_of_ble_eq_true rfl) ?_
  intro p e s m args below meth c A C hin Z Q hret
  refine r_aload_n C 0 (dk oX8_takesSign 0 rfl) rfl ?_
  refine r_ivi C Z (dk oX8_takesSign 1 rfl) cl_X8_53 ci_X8_isSound rfl (kn hn rfl) (c_X8_isSound hn I J fn hf h5) rfl rfl (Nat.le_of_ble_eq_true rfl) ⟨Nat.le_of_ble_eq_true rfl, Nat.le_of_ble_eq_true rfl⟩ ⟨Nat.zero_le _, Nat.zero_le _⟩ (fun r1 I1 J1 h1 => ?_)
  obtain ⟨h1, e1_, e2_⟩ := h1
  have e1_ := e1_.symm
  have e2_ := e2_.symm
  subst e1_
  subst e2_
  subst h1
  refine r_if_eq (tgt := 19) C (dk oX8_takesSign 2 rfl) (by decide) (fun hb4 => ?_) (fun hb4 => ?_)
  · rw [b32_0, decide_eq_false_iff_not] at hb4
    refine r_iconst C (dk oX8_takesSign 9 rfl) (v := nI 0) (by decide) ?_
    refine r_istore_n (lo' := [(2, _), (0, _), (1, _)]) C (dk oX8_takesSign 10 rfl) rfl (by decide) rfl ?_
    refine r_iload_n C 0 (dk oX8_takesSign 11 rfl) rfl ?_
    refine r_if_eq (tgt := 29) C (dk oX8_takesSign 12 rfl) (by decide) (fun hb22 => ?_) (fun hb22 => ?_)
    · first
        | exact absurd hb22 (by decide)
        | refine r_iload_n C 0 (dk oX8_takesSign 15 rfl) rfl ?_
          refine hret (dk oX8_takesSign 16 rfl) (by first | exact b32_nar | rfl) ?_
          first
            | exact Or.inl ⟨hb4, hb12, rfl, h26.1, h26.2.1, h26.2.2⟩
            | exact Or.inr ⟨fun q => hb4 q.1, rfl, rfl, rfl⟩
            | exact Or.inr ⟨fun q => by rw [hb12] at q; exact absurd q.2 (by decide), rfl, rfl, rfl⟩
    · first
        | exact absurd rfl hb22
        | refine r_aload_n C 1 (dk oX8_takesSign 13 rfl) rfl ?_
          refine r_ivv C Z (dk oX8_takesSign 14 rfl) cl_X8_28 ci_X8_next rfl (kn hn rfl) (c_X8_next hn I J t L hT (s_ + 1) (by have := of_decide_eq_true hb12; omega) (by have q := of_decide_eq_true hb12; rw [hk.2.2.2]; rw [← q.2] at hc hc2; rw [(tkK_3 q.1 hc hc2).2])) rfl rfl (Nat.le_of_ble_eq_true rfl) ⟨Nat.le_of_ble_eq_true rfl, Nat.le_of_ble_eq_true rfl⟩ ⟨Nat.zero_le _, Nat.zero_le _⟩ (fun I26 J26 h26 => ?_)
          refine r_iload_n C 0 (dk oX8_takesSign 15 rfl) rfl ?_
          refine hret (dk oX8_takesSign 16 rfl) (by first | exact b32_nar | rfl) ?_
          first
            | exact Or.inl ⟨hb4, hb12, rfl, h26.1, h26.2.1, h26.2.2⟩
            | exact Or.inr ⟨fun q => hb4 q.1, rfl, rfl, rfl⟩
            | exact Or.inr ⟨fun q => by rw [hb12] at q; exact absurd q.2 (by decide), rfl, rfl, rfl⟩
  · rw [b32_n, decide_eq_true_eq] at hb4
    have hk := hk0 hb4
    refine r_aload_n C 0 (dk oX8_takesSign 3 rfl) rfl ?_
    refine r_iload_n C 1 (dk oX8_takesSign 4 rfl) rfl ?_
    refine r_ivi C Z (dk oX8_takesSign 5 rfl) cl_X8_61 ci_X8_isSign rfl (kn hn rfl) (c_X8_isSign hn I J t L hT s_ ch hk hc hc2 hc3) rfl rfl (Nat.le_of_ble_eq_true rfl) ⟨Nat.le_of_ble_eq_true rfl, Nat.le_of_ble_eq_true rfl⟩ ⟨Nat.zero_le _, Nat.zero_le _⟩ (fun r9 I9 J9 h9 => ?_)
    obtain ⟨h9, e1_, e2_⟩ := h9
    have e1_ := e1_.symm
    have e2_ := e2_.symm
    subst e1_
    subst e2_
    subst h9
    refine r_if_eq (tgt := 19) C (dk oX8_takesSign 6 rfl) (by decide) (fun hb12 => ?_) (fun hb12 => ?_)
    · rw [b32_0] at hb12
      refine r_iconst C (dk oX8_takesSign 9 rfl) (v := nI 0) (by decide) ?_
      refine r_istore_n (lo' := [(2, _), (0, _), (1, _)]) C (dk oX8_takesSign 10 rfl) rfl (by decide) rfl ?_
      refine r_iload_n C 0 (dk oX8_takesSign 11 rfl) rfl ?_
      refine r_if_eq (tgt := 29) C (dk oX8_takesSign 12 rfl) (by decide) (fun hb22 => ?_) (fun hb22 => ?_)
      · first
          | exact absurd hb22 (by decide)
          | refine r_iload_n C 0 (dk oX8_takesSign 15 rfl) rfl ?_
            refine hret (dk oX8_takesSign 16 rfl) (by first | exact b32_nar | rfl) ?_
            first
              | exact Or.inl ⟨hb4, hb12, rfl, h26.1, h26.2.1, h26.2.2⟩
              | exact Or.inr ⟨fun q => hb4 q.1, rfl, rfl, rfl⟩
              | exact Or.inr ⟨fun q => by rw [hb12] at q; exact absurd q.2 (by decide), rfl, rfl, rfl⟩
      · first
          | exact absurd rfl hb22
          | refine r_aload_n C 1 (dk oX8_takesSign 13 rfl) rfl ?_
            refine r_ivv C Z (dk oX8_takesSign 14 rfl) cl_X8_28 ci_X8_next rfl (kn hn rfl) (c_X8_next hn I J t L hT (s_ + 1) (by have := of_decide_eq_true hb12; omega) (by have q := of_decide_eq_true hb12; rw [hk.2.2.2]; rw [← q.2] at hc hc2; rw [(tkK_3 q.1 hc hc2).2])) rfl rfl (Nat.le_of_ble_eq_true rfl) ⟨Nat.le_of_ble_eq_true rfl, Nat.le_of_ble_eq_true rfl⟩ ⟨Nat.zero_le _, Nat.zero_le _⟩ (fun I26 J26 h26 => ?_)
            refine r_iload_n C 0 (dk oX8_takesSign 15 rfl) rfl ?_
            refine hret (dk oX8_takesSign 16 rfl) (by first | exact b32_nar | rfl) ?_
            first
              | exact Or.inl ⟨hb4, hb12, rfl, h26.1, h26.2.1, h26.2.2⟩
              | exact Or.inr ⟨fun q => hb4 q.1, rfl, rfl, rfl⟩
              | exact Or.inr ⟨fun q => by rw [hb12] at q; exact absurd q.2 (by decide), rfl, rfl, rfl⟩
    · rw [b32_n] at hb12
      refine r_iconst C (dk oX8_takesSign 7 rfl) (v := nI 1) (by decide) ?_
      refine r_goto (tgt := 20) C (dk oX8_takesSign 8 rfl) (by decide) ?_
      refine r_istore_n (lo' := [(2, _), (0, _), (1, _)]) C (dk oX8_takesSign 10 rfl) rfl (by decide) rfl ?_
      refine r_iload_n C 0 (dk oX8_takesSign 11 rfl) rfl ?_
      refine r_if_eq (tgt := 29) C (dk oX8_takesSign 12 rfl) (by decide) (fun hb22 => ?_) (fun hb22 => ?_)
      · first
          | exact absurd hb22 (by decide)
          | refine r_iload_n C 0 (dk oX8_takesSign 15 rfl) rfl ?_
            refine hret (dk oX8_takesSign 16 rfl) (by first | exact b32_nar | rfl) ?_
            first
              | exact Or.inl ⟨hb4, hb12, rfl, h26.1, h26.2.1, h26.2.2⟩
              | exact Or.inr ⟨fun q => hb4 q.1, rfl, rfl, rfl⟩
              | exact Or.inr ⟨fun q => by rw [hb12] at q; exact absurd q.2 (by decide), rfl, rfl, rfl⟩
      · first
          | exact absurd rfl hb22
          | refine r_aload_n C 1 (dk oX8_takesSign 13 rfl) rfl ?_
            refine r_ivv C Z (dk oX8_takesSign 14 rfl) cl_X8_28 ci_X8_next rfl (kn hn rfl) (c_X8_next hn I J t L hT (s_ + 1) (by have := of_decide_eq_true hb12; omega) (by have q := of_decide_eq_true hb12; rw [hk.2.2.2]; rw [← q.2] at hc hc2; rw [(tkK_3 q.1 hc hc2).2])) rfl rfl (Nat.le_of_ble_eq_true rfl) ⟨Nat.le_of_ble_eq_true rfl, Nat.le_of_ble_eq_true rfl⟩ ⟨Nat.zero_le _, Nat.zero_le _⟩ (fun I26 J26 h26 => ?_)
            refine r_iload_n C 0 (dk oX8_takesSign 15 rfl) rfl ?_
            refine hret (dk oX8_takesSign 16 rfl) (by first | exact b32_nar | rfl) ?_
            first
              | exact Or.inl ⟨hb4, hb12, rfl, h26.1, h26.2.1, h26.2.2⟩
              | exact Or.inr ⟨fun q => hb4 q.1, rfl, rfl, rfl⟩
              | exact Or.inr ⟨fun q => by rw [hb12] at q; exact absurd q.2 (by decide), rfl, rfl, rfl⟩

set_option maxHeartbeats 1000000 in
set_option maxRecDepth 100000 in
theorem c_X8_numberHere (hn : 117 ≤ n) (I : MI) (J : MJ) (t : Nat → Nat) (L : Nat) (hT : Tx I t L) (s_ lo_ hi_ : Nat) (h5 : I 1 5 = nI 0) (hk : Tk I t L s_) (hlo : lo_ < 1000) (hhi : hi_ < 1000) : Ci l n ad cA D z 1 yX8_numberHere cX8_numberHere 5 .int I J [.ref (ad 1), .int (nI lo_), .int (nI hi_)] (fun r I' J' => ((nmF t L s_ lo_ hi_ = 0 ∧ r = nI (nmV t L s_) ∧ I' = I) ∨ (nmF t L s_ lo_ hi_ ≠ 0 ∧ r = -1 ∧ I' = flt I (nmF t L s_ lo_ hi_) s_)) ∧ J' = J) := by
  refine Ci.of (by decide) (Nat.le_of_ble_eq_true rfl) ?_
  intro p e s m args below meth c A C hin Z Q hret
  have hK := @tkK_lt t L s_
  have hL := hT.1
  have hsl := hk.1
  have eK : tkK t L s_ = 2 ↔ s_ < L ∧ isDg (t s_) = true := by
    constructor
    · intro h
      rcases Nat.lt_or_ge s_ L with q | q
      · by_cases h1 : isLt (t s_) = true
        · rw [(tkK_1 q h1).1] at h; cases h
        · by_cases h2 : isDg (t s_) = true
          · exact ⟨q, h2⟩
          · rw [(tkK_3 q (by simpa using h1) (by simpa using h2)).1] at h; cases h
      · rw [(tkK_0 q).1] at h; cases h
    · intro h
      have h1 : isLt (t s_) = false := by
        have := h.2
        simp only [isDg, decide_eq_true_eq] at this
        exact isLt_f (by omega)
      exact (tkK_2 h.1 h1 h.2).1
  refine r_aload_n C 0 (dk oX8_numberHere 0 rfl) rfl ?_
  refine r_getI C (dk oX8_numberHere 1 rfl) fl_X8_34 rfl (kn hn rfl) ?_
  rw [hk.2.1]
  refine r_iconst C (dk oX8_numberHere 2 rfl) (v := nI 2) (by decide) ?_
  refine r_icmp_eq (tgt := 15) C (dk oX8_numberHere 3 rfl) (by decide) (fun hb5 => ?_) (fun hb5 => ?_)
  · simp (disch := omega) only [nI_leI, nI_ltI, nI_eq, nI_eq0] at hb5
    have hD := eK.mp hb5
    have hD1 := hD.1
    have eE : tkE t L s_ = nE t L s_ := (tkK_2 hD.1 (by have := hD.2; simp only [isDg, decide_eq_true_eq] at this; exact isLt_f (by omega)) hD.2).2
    have hE1 := nE_le (t := t) hsl
    have hE2 := @nE_ge t L s_
    refine r_iconst C (dk oX8_numberHere 9 rfl) (v := nI 0) (by decide) ?_
    refine r_istore_n (lo' := [(3, _), (0, _), (1, _), (2, _)]) C (dk oX8_numberHere 10 rfl) rfl (by decide) rfl ?_
    refine r_aload_n C 1 (dk oX8_numberHere 11 rfl) rfl ?_
    refine r_getI C (dk oX8_numberHere 12 rfl) fl_X8_31 rfl (kn hn rfl) ?_
    rw [hk.2.2.1]
    refine r_istore (lo' := [(4, _), (3, _), (0, _), (1, _), (2, _)]) C (dk oX8_numberHere 13 rfl) (by decide) rfl ?_
    have L23 : ∀ (d_ : Nat) (k : Nat), 3 - k < d_ → k ≤ 3 → s_ + k ≤ nE t L s_ → V p l e (rmL 1) s m args below meth c Q D A 5 0 0 n ad (mE cA ad I J) 23 [(0, .ref (ad 1)), (1, .int (nI lo_)), (2, .int (nI hi_)), (3, .int (nI (dv t s_ k))), (4, .int (nI (s_ + k)))] [] := by
      intro d_
      induction d_ with
      | zero => intros; exact absurd (by assumption) (Nat.not_lt_zero _)
      | succ d_ ih => 
        intro k hd_ hk3 hke
        have hdv := dv_lt (t := t) (s := s_) k (fun j hj => (nE_dg (L := L) (by omega)).2)
        have hdv2 : (10 : Nat) ^ k ≤ 10 ^ 3 := Nat.pow_le_pow_right (by decide) hk3
        refine r_iload C 4 (dk oX8_numberHere 14 rfl) rfl ?_
        refine r_aload_n C 0 (dk oX8_numberHere 15 rfl) rfl ?_
        refine r_getI C (dk oX8_numberHere 16 rfl) fl_X8_25 rfl (kn hn rfl) ?_
        rw [hk.2.2.2, eE]
        refine r_icmp_ge (tgt := 65) C (dk oX8_numberHere 17 rfl) (by decide) (fun hb29 => ?_) (fun hb29 => ?_)
        · simp (disch := omega) only [nI_leI, nI_ltI, nI_eq, nI_eq0] at hb29
          have hv : nmV t L s_ = dv t s_ k := by unfold nmV; rw [show min 3 (nE t L s_ - s_) = k by omega]
          refine r_aload_n C 0 (dk oX8_numberHere 37 rfl) rfl ?_
          refine r_getI C (dk oX8_numberHere 38 rfl) fl_X8_25 rfl (kn hn rfl) ?_
          rw [hk.2.2.2, eE]
          refine r_aload_n C 0 (dk oX8_numberHere 39 rfl) rfl ?_
          refine r_getI C (dk oX8_numberHere 40 rfl) fl_X8_31 rfl (kn hn rfl) ?_
          rw [hk.2.2.1]
          refine r_isub C (dk oX8_numberHere 41 rfl) ?_
          rw [pk_sub (by omega)]
          refine r_iconst C (dk oX8_numberHere 42 rfl) (v := nI 3) (by decide) ?_
          refine r_icmp_gt (tgt := 88) C (dk oX8_numberHere 43 rfl) (by decide) (fun hb75 => ?_) (fun hb75 => ?_)
          · simp (disch := omega) only [nI_leI, nI_ltI, nI_eq, nI_eq0] at hb75
            refine r_aload_n C 0 (dk oX8_numberHere 50 rfl) rfl ?_
            refine r_iconst C (dk oX8_numberHere 51 rfl) (v := nI 2) (by decide) ?_
            refine r_ivv C Z (dk oX8_numberHere 52 rfl) cl_X8_65 ci_X8_fail rfl (kn hn rfl) (c_X8_fail hn I _ 2 0 s_ (by decide) h5 hk.2.2.1) rfl rfl (Nat.le_of_ble_eq_true rfl) ⟨Nat.le_of_ble_eq_true rfl, Nat.le_of_ble_eq_true rfl⟩ ⟨Nat.zero_le _, Nat.zero_le _⟩ (fun I90 J90 h90 => ?_)
            obtain ⟨e1_, e2_⟩ := h90
            rw [if_pos rfl] at e1_
            subst e1_
            subst e2_
            refine r_iconst C (dk oX8_numberHere 53 rfl) (v := -1) (by decide) ?_
            refine hret (dk oX8_numberHere 54 rfl) rfl ?_
            exact ⟨Or.inr (by rw [show nmF t L s_ lo_ hi_ = 2 from (if_pos hD).trans (if_pos (by rw [hv]; omega))]; exact ⟨by decide, rfl, rfl⟩), rfl⟩
          · simp (disch := omega) only [nI_leI, nI_ltI, nI_eq, nI_eq0] at hb75
            refine r_iload_n C 3 (dk oX8_numberHere 44 rfl) rfl ?_
            refine r_iload_n C 1 (dk oX8_numberHere 45 rfl) rfl ?_
            refine r_icmp_lt (tgt := 88) C (dk oX8_numberHere 46 rfl) (by decide) (fun hb80 => ?_) (fun hb80 => ?_)
            · simp (disch := omega) only [nI_leI, nI_ltI, nI_eq, nI_eq0] at hb80
              refine r_aload_n C 0 (dk oX8_numberHere 50 rfl) rfl ?_
              refine r_iconst C (dk oX8_numberHere 51 rfl) (v := nI 2) (by decide) ?_
              refine r_ivv C Z (dk oX8_numberHere 52 rfl) cl_X8_65 ci_X8_fail rfl (kn hn rfl) (c_X8_fail hn I _ 2 0 s_ (by decide) h5 hk.2.2.1) rfl rfl (Nat.le_of_ble_eq_true rfl) ⟨Nat.le_of_ble_eq_true rfl, Nat.le_of_ble_eq_true rfl⟩ ⟨Nat.zero_le _, Nat.zero_le _⟩ (fun I90 J90 h90 => ?_)
              obtain ⟨e1_, e2_⟩ := h90
              rw [if_pos rfl] at e1_
              subst e1_
              subst e2_
              refine r_iconst C (dk oX8_numberHere 53 rfl) (v := -1) (by decide) ?_
              refine hret (dk oX8_numberHere 54 rfl) rfl ?_
              exact ⟨Or.inr (by rw [show nmF t L s_ lo_ hi_ = 2 from (if_pos hD).trans (if_pos (by rw [hv]; omega))]; exact ⟨by decide, rfl, rfl⟩), rfl⟩
            · simp (disch := omega) only [nI_leI, nI_ltI, nI_eq, nI_eq0] at hb80
              refine r_iload_n C 3 (dk oX8_numberHere 47 rfl) rfl ?_
              refine r_iload_n C 2 (dk oX8_numberHere 48 rfl) rfl ?_
              refine r_icmp_le (tgt := 95) C (dk oX8_numberHere 49 rfl) (by decide) (fun hb85 => ?_) (fun hb85 => ?_)
              · simp (disch := omega) only [nI_leI, nI_ltI, nI_eq, nI_eq0] at hb85
                refine r_iload_n C 3 (dk oX8_numberHere 55 rfl) rfl ?_
                refine hret (dk oX8_numberHere 56 rfl) rfl ?_
                exact ⟨Or.inl ⟨(if_pos hD).trans (if_neg (by rw [hv]; omega)), by rw [hv], rfl⟩, rfl⟩
              · simp (disch := omega) only [nI_leI, nI_ltI, nI_eq, nI_eq0] at hb85
                refine r_aload_n C 0 (dk oX8_numberHere 50 rfl) rfl ?_
                refine r_iconst C (dk oX8_numberHere 51 rfl) (v := nI 2) (by decide) ?_
                refine r_ivv C Z (dk oX8_numberHere 52 rfl) cl_X8_65 ci_X8_fail rfl (kn hn rfl) (c_X8_fail hn I _ 2 0 s_ (by decide) h5 hk.2.2.1) rfl rfl (Nat.le_of_ble_eq_true rfl) ⟨Nat.le_of_ble_eq_true rfl, Nat.le_of_ble_eq_true rfl⟩ ⟨Nat.zero_le _, Nat.zero_le _⟩ (fun I90 J90 h90 => ?_)
                obtain ⟨e1_, e2_⟩ := h90
                rw [if_pos rfl] at e1_
                subst e1_
                subst e2_
                refine r_iconst C (dk oX8_numberHere 53 rfl) (v := -1) (by decide) ?_
                refine hret (dk oX8_numberHere 54 rfl) rfl ?_
                exact ⟨Or.inr (by rw [show nmF t L s_ lo_ hi_ = 2 from (if_pos hD).trans (if_pos (by rw [hv]; omega))]; exact ⟨by decide, rfl, rfl⟩), rfl⟩
        · simp (disch := omega) only [nI_leI, nI_ltI, nI_eq, nI_eq0] at hb29
          refine r_iload C 4 (dk oX8_numberHere 18 rfl) rfl ?_
          refine r_aload_n C 0 (dk oX8_numberHere 19 rfl) rfl ?_
          refine r_getI C (dk oX8_numberHere 20 rfl) fl_X8_31 rfl (kn hn rfl) ?_
          rw [hk.2.2.1]
          refine r_iconst C (dk oX8_numberHere 21 rfl) (v := nI 3) (by decide) ?_
          refine r_iadd C (dk oX8_numberHere 22 rfl) ?_
          rw [nI_add]
          refine r_icmp_ge (tgt := 65) C (dk oX8_numberHere 23 rfl) (by decide) (fun hb40 => ?_) (fun hb40 => ?_)
          · simp (disch := omega) only [nI_leI, nI_ltI, nI_eq, nI_eq0] at hb40
            have hv : nmV t L s_ = dv t s_ k := by unfold nmV; rw [show min 3 (nE t L s_ - s_) = k by omega]
            refine r_aload_n C 0 (dk oX8_numberHere 37 rfl) rfl ?_
            refine r_getI C (dk oX8_numberHere 38 rfl) fl_X8_25 rfl (kn hn rfl) ?_
            rw [hk.2.2.2, eE]
            refine r_aload_n C 0 (dk oX8_numberHere 39 rfl) rfl ?_
            refine r_getI C (dk oX8_numberHere 40 rfl) fl_X8_31 rfl (kn hn rfl) ?_
            rw [hk.2.2.1]
            refine r_isub C (dk oX8_numberHere 41 rfl) ?_
            rw [pk_sub (by omega)]
            refine r_iconst C (dk oX8_numberHere 42 rfl) (v := nI 3) (by decide) ?_
            refine r_icmp_gt (tgt := 88) C (dk oX8_numberHere 43 rfl) (by decide) (fun hb75 => ?_) (fun hb75 => ?_)
            · simp (disch := omega) only [nI_leI, nI_ltI, nI_eq, nI_eq0] at hb75
              refine r_aload_n C 0 (dk oX8_numberHere 50 rfl) rfl ?_
              refine r_iconst C (dk oX8_numberHere 51 rfl) (v := nI 2) (by decide) ?_
              refine r_ivv C Z (dk oX8_numberHere 52 rfl) cl_X8_65 ci_X8_fail rfl (kn hn rfl) (c_X8_fail hn I _ 2 0 s_ (by decide) h5 hk.2.2.1) rfl rfl (Nat.le_of_ble_eq_true rfl) ⟨Nat.le_of_ble_eq_true rfl, Nat.le_of_ble_eq_true rfl⟩ ⟨Nat.zero_le _, Nat.zero_le _⟩ (fun I90 J90 h90 => ?_)
              obtain ⟨e1_, e2_⟩ := h90
              rw [if_pos rfl] at e1_
              subst e1_
              subst e2_
              refine r_iconst C (dk oX8_numberHere 53 rfl) (v := -1) (by decide) ?_
              refine hret (dk oX8_numberHere 54 rfl) rfl ?_
              exact ⟨Or.inr (by rw [show nmF t L s_ lo_ hi_ = 2 from (if_pos hD).trans (if_pos (by rw [hv]; omega))]; exact ⟨by decide, rfl, rfl⟩), rfl⟩
            · simp (disch := omega) only [nI_leI, nI_ltI, nI_eq, nI_eq0] at hb75
              refine r_iload_n C 3 (dk oX8_numberHere 44 rfl) rfl ?_
              refine r_iload_n C 1 (dk oX8_numberHere 45 rfl) rfl ?_
              refine r_icmp_lt (tgt := 88) C (dk oX8_numberHere 46 rfl) (by decide) (fun hb80 => ?_) (fun hb80 => ?_)
              · simp (disch := omega) only [nI_leI, nI_ltI, nI_eq, nI_eq0] at hb80
                refine r_aload_n C 0 (dk oX8_numberHere 50 rfl) rfl ?_
                refine r_iconst C (dk oX8_numberHere 51 rfl) (v := nI 2) (by decide) ?_
                refine r_ivv C Z (dk oX8_numberHere 52 rfl) cl_X8_65 ci_X8_fail rfl (kn hn rfl) (c_X8_fail hn I _ 2 0 s_ (by decide) h5 hk.2.2.1) rfl rfl (Nat.le_of_ble_eq_true rfl) ⟨Nat.le_of_ble_eq_true rfl, Nat.le_of_ble_eq_true rfl⟩ ⟨Nat.zero_le _, Nat.zero_le _⟩ (fun I90 J90 h90 => ?_)
                obtain ⟨e1_, e2_⟩ := h90
                rw [if_pos rfl] at e1_
                subst e1_
                subst e2_
                refine r_iconst C (dk oX8_numberHere 53 rfl) (v := -1) (by decide) ?_
                refine hret (dk oX8_numberHere 54 rfl) rfl ?_
                exact ⟨Or.inr (by rw [show nmF t L s_ lo_ hi_ = 2 from (if_pos hD).trans (if_pos (by rw [hv]; omega))]; exact ⟨by decide, rfl, rfl⟩), rfl⟩
              · simp (disch := omega) only [nI_leI, nI_ltI, nI_eq, nI_eq0] at hb80
                refine r_iload_n C 3 (dk oX8_numberHere 47 rfl) rfl ?_
                refine r_iload_n C 2 (dk oX8_numberHere 48 rfl) rfl ?_
                refine r_icmp_le (tgt := 95) C (dk oX8_numberHere 49 rfl) (by decide) (fun hb85 => ?_) (fun hb85 => ?_)
                · simp (disch := omega) only [nI_leI, nI_ltI, nI_eq, nI_eq0] at hb85
                  refine r_iload_n C 3 (dk oX8_numberHere 55 rfl) rfl ?_
                  refine hret (dk oX8_numberHere 56 rfl) rfl ?_
                  exact ⟨Or.inl ⟨(if_pos hD).trans (if_neg (by rw [hv]; omega)), by rw [hv], rfl⟩, rfl⟩
                · simp (disch := omega) only [nI_leI, nI_ltI, nI_eq, nI_eq0] at hb85
                  refine r_aload_n C 0 (dk oX8_numberHere 50 rfl) rfl ?_
                  refine r_iconst C (dk oX8_numberHere 51 rfl) (v := nI 2) (by decide) ?_
                  refine r_ivv C Z (dk oX8_numberHere 52 rfl) cl_X8_65 ci_X8_fail rfl (kn hn rfl) (c_X8_fail hn I _ 2 0 s_ (by decide) h5 hk.2.2.1) rfl rfl (Nat.le_of_ble_eq_true rfl) ⟨Nat.le_of_ble_eq_true rfl, Nat.le_of_ble_eq_true rfl⟩ ⟨Nat.zero_le _, Nat.zero_le _⟩ (fun I90 J90 h90 => ?_)
                  obtain ⟨e1_, e2_⟩ := h90
                  rw [if_pos rfl] at e1_
                  subst e1_
                  subst e2_
                  refine r_iconst C (dk oX8_numberHere 53 rfl) (v := -1) (by decide) ?_
                  refine hret (dk oX8_numberHere 54 rfl) rfl ?_
                  exact ⟨Or.inr (by rw [show nmF t L s_ lo_ hi_ = 2 from (if_pos hD).trans (if_pos (by rw [hv]; omega))]; exact ⟨by decide, rfl, rfl⟩), rfl⟩
          · simp (disch := omega) only [nI_leI, nI_ltI, nI_eq, nI_eq0] at hb40
            refine r_iload_n C 3 (dk oX8_numberHere 24 rfl) rfl ?_
            refine r_bipush C (dk oX8_numberHere 25 rfl) (v := nI 10) (by decide) ?_
            refine r_imul C (dk oX8_numberHere 26 rfl) ?_
            refine r_aload_n C 0 (dk oX8_numberHere 27 rfl) rfl ?_
            refine r_getR C (dk oX8_numberHere 28 rfl) fl_X8_9 rfl (kn hn rfl) ?_
            refine r_iload C 4 (dk oX8_numberHere 29 rfl) rfl ?_
            refine r_iald C _ (dk oX8_numberHere 30 rfl) rfl (kn hn rfl) rfl (by omega) (by decide) ?_
            have hdg := nE_dg (t := t) (L := L) (s := s_) (j := k) (by omega)
            have hbb := hT.2.2 (s_ + k) hdg.1
            have hb1 := hbb.1
            have hd1 := hdg.2
            simp only [isDg, decide_eq_true_eq] at hd1
            rw [hbb.2]
            refine r_iadd C (dk oX8_numberHere 31 rfl) ?_
            refine r_bipush C (dk oX8_numberHere 32 rfl) (v := nI 48) (by decide) ?_
            refine r_isub C (dk oX8_numberHere 33 rfl) ?_
            rw [show nI (dv t s_ k) * nI 10 + nI (t (s_ + k)) - nI 48 = nI (dv t s_ (k + 1)) from by rw [pk_mul, nI_add, pk_sub (by omega)]; exact congrArg nI (by simp only [dv]; omega)]
            refine r_istore_n (lo' := [(3, _), (0, _), (1, _), (2, _), (4, _)]) C (dk oX8_numberHere 34 rfl) rfl (by decide) rfl ?_
            refine r_iinc (lo' := [(4, _), (3, _), (0, _), (1, _), (2, _)]) C 4 (dk oX8_numberHere 35 rfl) rfl (by first | exact nI_inc _ | rfl) (by decide) rfl ?_
            refine r_goto (tgt := 23) C (dk oX8_numberHere 36 rfl) (by decide) ?_
            refine V.sub [2, 3, 4, 1, 0] rfl ?_
            exact ih (k + 1) (by omega) (by omega) (by omega)
    refine V.sub [2, 3, 4, 1, 0] rfl ?_
    exact L23 4 0 (by omega) (by omega) (by omega)
  · simp (disch := omega) only [nI_leI, nI_ltI, nI_eq, nI_eq0] at hb5
    refine r_aload_n C 0 (dk oX8_numberHere 4 rfl) rfl ?_
    refine r_iconst C (dk oX8_numberHere 5 rfl) (v := nI 1) (by decide) ?_
    refine r_ivv C Z (dk oX8_numberHere 6 rfl) cl_X8_65 ci_X8_fail rfl (kn hn rfl) (c_X8_fail hn I J 1 0 s_ (by decide) h5 hk.2.2.1) rfl rfl (Nat.le_of_ble_eq_true rfl) ⟨Nat.le_of_ble_eq_true rfl, Nat.le_of_ble_eq_true rfl⟩ ⟨Nat.zero_le _, Nat.zero_le _⟩ (fun I10 J10 h10 => ?_)
    obtain ⟨e1_, e2_⟩ := h10
    rw [if_pos rfl] at e1_
    subst e1_
    subst e2_
    refine r_iconst C (dk oX8_numberHere 7 rfl) (v := -1) (by decide) ?_
    refine hret (dk oX8_numberHere 8 rfl) rfl ?_
    exact ⟨Or.inr (by rw [show nmF t L s_ lo_ hi_ = 1 from if_neg (fun q => hb5 (eK.mpr q))]; exact ⟨by decide, rfl, rfl⟩), rfl⟩

end TEXT
