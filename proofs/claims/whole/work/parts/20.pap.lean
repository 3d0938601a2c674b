section PAP
variable {l : Launch} {n : Nat} {ad : Nat → Nat} {cA : Nat → ClassId} {D : va_G} {z : Zw}
set_option maxHeartbeats 1000000 in
set_option maxRecDepth 100000 in
theorem c_X3_kindHere (hn : 117 ≤ n) (I : MI) (J : MJ) (t : Nat → Nat) (L : Nat) (hT : Tx I t L) (s_ : Nat) (hk : Tk I t L s_) : Ci l n ad cA D z 5 yX3_kindHere cX3_kindHere 1 .int I J [.ref (ad 1)] (fun r I' J' => r = nI (kdOf t L s_) ∧ I' = I ∧ J' = J) := by
  refine Ci.of (by decide) (Nat.le_of_ble_eq_true rfl) ?_
  intro p e s m args below meth c A C hin Z Q hret
  refine r_aload_n C 0 (dk oX3_kindHere 0 rfl) rfl ?_
  refine r_ldcS C (dk oX3_kindHere 1 rfl) (Z.2.1 6 (by decide)) ?_
  refine r_ivi C Z (dk oX3_kindHere 2 rfl) cl_X3_60 ci_X8_isWord rfl (kn hn rfl) (c_X8_isWord hn I J t L hT s_ 6 (by decide) hk) rfl rfl (Nat.le_of_ble_eq_true rfl) ⟨Nat.le_of_ble_eq_true rfl, Nat.le_of_ble_eq_true rfl⟩ ⟨Nat.zero_le _, Nat.zero_le _⟩ (fun r3 I3 J3 h3 => ?_)
  obtain ⟨h3, e1_, e2_⟩ := h3
  have e1_ := e1_.symm
  have e2_ := e2_.symm
  subst e1_
  subst e2_
  subst h3
  refine r_if_eq (tgt := 11) C (dk oX3_kindHere 3 rfl) (by decide) (fun hb6 => ?_) (fun hb6 => ?_)
  · rw [b32_0] at hb6
    refine r_aload_n C 0 (dk oX3_kindHere 6 rfl) rfl ?_
    refine r_ldcS C (dk oX3_kindHere 7 rfl) (Z.2.1 7 (by decide)) ?_
    refine r_ivi C Z (dk oX3_kindHere 8 rfl) cl_X3_60 ci_X8_isWord rfl (kn hn rfl) (c_X8_isWord hn I J t L hT s_ 7 (by decide) hk) rfl rfl (Nat.le_of_ble_eq_true rfl) ⟨Nat.le_of_ble_eq_true rfl, Nat.le_of_ble_eq_true rfl⟩ ⟨Nat.zero_le _, Nat.zero_le _⟩ (fun r14 I14 J14 h14 => ?_)
    obtain ⟨h14, e1_, e2_⟩ := h14
    have e1_ := e1_.symm
    have e2_ := e2_.symm
    subst e1_
    subst e2_
    subst h14
    refine r_if_eq (tgt := 22) C (dk oX3_kindHere 9 rfl) (by decide) (fun hb17 => ?_) (fun hb17 => ?_)
    · rw [b32_0] at hb17
      refine r_aload_n C 0 (dk oX3_kindHere 12 rfl) rfl ?_
      refine r_ldcS C (dk oX3_kindHere 13 rfl) (Z.2.1 8 (by decide)) ?_
      refine r_ivi C Z (dk oX3_kindHere 14 rfl) cl_X3_60 ci_X8_isWord rfl (kn hn rfl) (c_X8_isWord hn I J t L hT s_ 8 (by decide) hk) rfl rfl (Nat.le_of_ble_eq_true rfl) ⟨Nat.le_of_ble_eq_true rfl, Nat.le_of_ble_eq_true rfl⟩ ⟨Nat.zero_le _, Nat.zero_le _⟩ (fun r25 I25 J25 h25 => ?_)
      obtain ⟨h25, e1_, e2_⟩ := h25
      have e1_ := e1_.symm
      have e2_ := e2_.symm
      subst e1_
      subst e2_
      subst h25
      refine r_if_eq (tgt := 33) C (dk oX3_kindHere 15 rfl) (by decide) (fun hb28 => ?_) (fun hb28 => ?_)
      · rw [b32_0] at hb28
        refine r_aload_n C 0 (dk oX3_kindHere 18 rfl) rfl ?_
        refine r_ldcS C (dk oX3_kindHere 19 rfl) (Z.2.1 9 (by decide)) ?_
        refine r_ivi C Z (dk oX3_kindHere 20 rfl) cl_X3_60 ci_X8_isWord rfl (kn hn rfl) (c_X8_isWord hn I J t L hT s_ 9 (by decide) hk) rfl rfl (Nat.le_of_ble_eq_true rfl) ⟨Nat.le_of_ble_eq_true rfl, Nat.le_of_ble_eq_true rfl⟩ ⟨Nat.zero_le _, Nat.zero_le _⟩ (fun r36 I36 J36 h36 => ?_)
        obtain ⟨h36, e1_, e2_⟩ := h36
        have e1_ := e1_.symm
        have e2_ := e2_.symm
        subst e1_
        subst e2_
        subst h36
        refine r_if_eq (tgt := 44) C (dk oX3_kindHere 21 rfl) (by decide) (fun hb39 => ?_) (fun hb39 => ?_)
        · rw [b32_0] at hb39
          refine r_aload_n C 0 (dk oX3_kindHere 24 rfl) rfl ?_
          refine r_ldcS C (dk oX3_kindHere 25 rfl) (Z.2.1 10 (by decide)) ?_
          refine r_ivi C Z (dk oX3_kindHere 26 rfl) cl_X3_60 ci_X8_isWord rfl (kn hn rfl) (c_X8_isWord hn I J t L hT s_ 10 (by decide) hk) rfl rfl (Nat.le_of_ble_eq_true rfl) ⟨Nat.le_of_ble_eq_true rfl, Nat.le_of_ble_eq_true rfl⟩ ⟨Nat.zero_le _, Nat.zero_le _⟩ (fun r47 I47 J47 h47 => ?_)
          obtain ⟨h47, e1_, e2_⟩ := h47
          have e1_ := e1_.symm
          have e2_ := e2_.symm
          subst e1_
          subst e2_
          subst h47
          refine r_if_eq (tgt := 58) C (dk oX3_kindHere 27 rfl) (by decide) (fun hb50 => ?_) (fun hb50 => ?_)
          · rw [b32_0] at hb50
            refine r_iconst C (dk oX3_kindHere 30 rfl) (v := nI 0) (by decide) ?_
            refine hret (dk oX3_kindHere 31 rfl) rfl ?_
            refine ⟨?_, rfl, rfl⟩
            unfold kdOf
            first
              | (rw [if_pos hb6])
              | (rw [if_neg (by rw [hb6]; decide), if_pos hb17])
              | (rw [if_neg (by rw [hb6]; decide), if_neg (by rw [hb17]; decide), if_pos hb28])
              | (rw [if_neg (by rw [hb6]; decide), if_neg (by rw [hb17]; decide), if_neg (by rw [hb28]; decide), if_pos hb39])
              | (rw [if_neg (by rw [hb6]; decide), if_neg (by rw [hb17]; decide), if_neg (by rw [hb28]; decide), if_neg (by rw [hb39]; decide), if_pos hb50])
              | (rw [if_neg (by rw [hb6]; decide), if_neg (by rw [hb17]; decide), if_neg (by rw [hb28]; decide), if_neg (by rw [hb39]; decide), if_neg (by rw [hb50]; decide)])
          · rw [b32_n] at hb50
            refine r_bipush C (dk oX3_kindHere 28 rfl) (v := nI 6) (by decide) ?_
            refine r_goto (tgt := 59) C (dk oX3_kindHere 29 rfl) (by decide) ?_
            refine hret (dk oX3_kindHere 31 rfl) rfl ?_
            refine ⟨?_, rfl, rfl⟩
            unfold kdOf
            first
              | (rw [if_pos hb6])
              | (rw [if_neg (by rw [hb6]; decide), if_pos hb17])
              | (rw [if_neg (by rw [hb6]; decide), if_neg (by rw [hb17]; decide), if_pos hb28])
              | (rw [if_neg (by rw [hb6]; decide), if_neg (by rw [hb17]; decide), if_neg (by rw [hb28]; decide), if_pos hb39])
              | (rw [if_neg (by rw [hb6]; decide), if_neg (by rw [hb17]; decide), if_neg (by rw [hb28]; decide), if_neg (by rw [hb39]; decide), if_pos hb50])
              | (rw [if_neg (by rw [hb6]; decide), if_neg (by rw [hb17]; decide), if_neg (by rw [hb28]; decide), if_neg (by rw [hb39]; decide), if_neg (by rw [hb50]; decide)])
        · rw [b32_n] at hb39
          refine r_iconst C (dk oX3_kindHere 22 rfl) (v := nI 5) (by decide) ?_
          refine hret (dk oX3_kindHere 23 rfl) rfl ?_
          refine ⟨?_, rfl, rfl⟩
          unfold kdOf
          first
            | (rw [if_pos hb6])
            | (rw [if_neg (by rw [hb6]; decide), if_pos hb17])
            | (rw [if_neg (by rw [hb6]; decide), if_neg (by rw [hb17]; decide), if_pos hb28])
            | (rw [if_neg (by rw [hb6]; decide), if_neg (by rw [hb17]; decide), if_neg (by rw [hb28]; decide), if_pos hb39])
            | (rw [if_neg (by rw [hb6]; decide), if_neg (by rw [hb17]; decide), if_neg (by rw [hb28]; decide), if_neg (by rw [hb39]; decide), if_pos hb50])
            | (rw [if_neg (by rw [hb6]; decide), if_neg (by rw [hb17]; decide), if_neg (by rw [hb28]; decide), if_neg (by rw [hb39]; decide), if_neg (by rw [hb50]; decide)])
      · rw [b32_n] at hb28
        refine r_iconst C (dk oX3_kindHere 16 rfl) (v := nI 4) (by decide) ?_
        refine hret (dk oX3_kindHere 17 rfl) rfl ?_
        refine ⟨?_, rfl, rfl⟩
        unfold kdOf
        first
          | (rw [if_pos hb6])
          | (rw [if_neg (by rw [hb6]; decide), if_pos hb17])
          | (rw [if_neg (by rw [hb6]; decide), if_neg (by rw [hb17]; decide), if_pos hb28])
          | (rw [if_neg (by rw [hb6]; decide), if_neg (by rw [hb17]; decide), if_neg (by rw [hb28]; decide), if_pos hb39])
          | (rw [if_neg (by rw [hb6]; decide), if_neg (by rw [hb17]; decide), if_neg (by rw [hb28]; decide), if_neg (by rw [hb39]; decide), if_pos hb50])
          | (rw [if_neg (by rw [hb6]; decide), if_neg (by rw [hb17]; decide), if_neg (by rw [hb28]; decide), if_neg (by rw [hb39]; decide), if_neg (by rw [hb50]; decide)])
    · rw [b32_n] at hb17
      refine r_iconst C (dk oX3_kindHere 10 rfl) (v := nI 3) (by decide) ?_
      refine hret (dk oX3_kindHere 11 rfl) rfl ?_
      refine ⟨?_, rfl, rfl⟩
      unfold kdOf
      first
        | (rw [if_pos hb6])
        | (rw [if_neg (by rw [hb6]; decide), if_pos hb17])
        | (rw [if_neg (by rw [hb6]; decide), if_neg (by rw [hb17]; decide), if_pos hb28])
        | (rw [if_neg (by rw [hb6]; decide), if_neg (by rw [hb17]; decide), if_neg (by rw [hb28]; decide), if_pos hb39])
        | (rw [if_neg (by rw [hb6]; decide), if_neg (by rw [hb17]; decide), if_neg (by rw [hb28]; decide), if_neg (by rw [hb39]; decide), if_pos hb50])
        | (rw [if_neg (by rw [hb6]; decide), if_neg (by rw [hb17]; decide), if_neg (by rw [hb28]; decide), if_neg (by rw [hb39]; decide), if_neg (by rw [hb50]; decide)])
  · rw [b32_n] at hb6
    refine r_iconst C (dk oX3_kindHere 4 rfl) (v := nI 1) (by decide) ?_
    refine hret (dk oX3_kindHere 5 rfl) rfl ?_
    refine ⟨?_, rfl, rfl⟩
    unfold kdOf
    first
      | (rw [if_pos hb6])
      | (rw [if_neg (by rw [hb6]; decide), if_pos hb17])
      | (rw [if_neg (by rw [hb6]; decide), if_neg (by rw [hb17]; decide), if_pos hb28])
      | (rw [if_neg (by rw [hb6]; decide), if_neg (by rw [hb17]; decide), if_neg (by rw [hb28]; decide), if_pos hb39])
      | (rw [if_neg (by rw [hb6]; decide), if_neg (by rw [hb17]; decide), if_neg (by rw [hb28]; decide), if_neg (by rw [hb39]; decide), if_pos hb50])
      | (rw [if_neg (by rw [hb6]; decide), if_neg (by rw [hb17]; decide), if_neg (by rw [hb28]; decide), if_neg (by rw [hb39]; decide), if_neg (by rw [hb50]; decide)])

set_option maxHeartbeats 1000000 in
set_option maxRecDepth 100000 in
theorem c_X3_readItem (hn : 117 ≤ n) (I : MI) (J : MJ) (t : Nat → Nat) (L : Nat) (hT : Tx I t L) (p_ s_ ks k_ : Nat) (hp : p_ < 10) (hk0 : 0 < k_ ∧ k_ ≤ 6) (a : Nat → Nat) (ha : ∀ f, a f ≤ 6) (Φ : Nat → FS) (hM : FcM I 38 Φ) (hS : paS t L s_ a I) : Cv l n ad cA D z 6 yX3_readItem cX3_readItem 7 I J [.ref (ad 6), .ref (ad 1), .ref (ad 38), .int (nI (p_ % 2)), .int (nI k_)] (fun I' J' => J' = J ∧ paF I I' ∧ I' 6 = I 6 ∧ (paBad (stpP t L p_ Φ) (1, s_, ks, k_, a) I' ∨ paItem t L p_ Φ s_ ks k_ a I')) := by
  refine Cv.of (by decide) (Nat.le_of_ble_eq_true rfl) ?_
  intro p e s m args below meth c A C hin Z Q hret
  obtain ⟨h5, h6, hk, hac⟩ := hS
  refine r_iload C 4 (dk oX3_readItem 0 rfl) rfl ?_
  refine r_iconst C (dk oX3_readItem 1 rfl) (v := nI 1) (by decide) ?_
  refine r_icmp_ne (tgt := 19) C (dk oX3_readItem 2 rfl) (by decide) (fun hb3 => ?_) (fun hb3 => ?_)
  · simp (disch := omega) only [nI_leI, nI_ltI, nI_eq, nI_eq0] at hb3
    obtain ⟨I2, hI2⟩ : ∃ X, X = I := ⟨_, rfl⟩
    have hA : itA t L s_ k_ = k_ := if_neg (fun q => hb3 q.1)
    have hPp : itP t L s_ k_ = s_ := if_neg (fun q => hb3 q.1)
    have hG2 : txG I I2 := by rw [hI2]; exact txG.rf I
    have h25 : I2 1 5 = nI 0 := by rw [hI2]; exact h5
    have h26 : I2 1 6 = -1 := by rw [hI2]; exact h6
    have hk2 : Tk I2 t L (itP t L s_ k_) := by rw [hI2, hPp]; exact hk
    have hsP : s_ ≤ itP t L s_ k_ := by rw [hPp]; exact Nat.le_refl _
    rw [← hI2]
    clear hI2
    refine r_iload C 4 (dk oX3_readItem 9 rfl) rfl ?_
    refine r_topI (show nI k_ = nI (itA t L s_ k_) from by rw [hA]) ?_
    refine r_istore (lo' := [(5, _), (0, _), (1, _), (2, _), (3, _), (4, _)]) C (dk oX3_readItem 10 rfl) (by decide) rfl ?_
    refine r_aload_n C 2 (dk oX3_readItem 11 rfl) rfl ?_
    refine r_iconst C (dk oX3_readItem 12 rfl) (v := nI 0) (by decide) ?_
    refine r_bipush C (dk oX3_readItem 13 rfl) (v := nI 11) (by decide) ?_
    refine r_ivi C Z (dk oX3_readItem 14 rfl) cl_X3_77 ci_X8_numberHere rfl (kn hn rfl) (c_X8_numberHere hn I2 J t L (hT.ofG hG2) (itP t L s_ k_) 0 11 h25 hk2 (by decide) (by decide)) rfl rfl (Nat.le_of_ble_eq_true rfl) ⟨Nat.le_of_ble_eq_true rfl, Nat.le_of_ble_eq_true rfl⟩ ⟨Nat.zero_le _, Nat.zero_le _⟩ (fun r27 I27 J27 h27 => ?_)
    obtain ⟨h27, e2_⟩ := h27
    have e2_ := e2_.symm
    subst e2_
    have hf3 := @nmF_lt t L (itP t L s_ k_) 0 11
    have hG27 : txG I2 I27 := by
      rcases h27 with ⟨-, -, e⟩ | ⟨-, -, e⟩
      · rw [e]; exact txG.rf _
      · rw [e]; exact flt_G _ _ _
    have h55 : I27 1 5 = nI (nmF t L (itP t L s_ k_) 0 11) := by
      rcases h27 with ⟨e0, -, e⟩ | ⟨-, -, e⟩
      · rw [e, h25, e0]
      · rw [e, flt_5]
    refine r_istore (lo' := [(6, _), (5, _), (0, _), (1, _), (2, _), (3, _), (4, _)]) C (dk oX3_readItem 15 rfl) (by decide) rfl ?_
    refine r_aload_n C 3 (dk oX3_readItem 16 rfl) rfl ?_
    refine r_ivi C Z (dk oX3_readItem 17 rfl) cl_X3_24 ci_X8_isSound rfl (kn hn rfl) (c_X8_isSound hn I27 J (nmF t L (itP t L s_ k_) 0 11) (by omega) h55) rfl rfl (Nat.le_of_ble_eq_true rfl) ⟨Nat.le_of_ble_eq_true rfl, Nat.le_of_ble_eq_true rfl⟩ ⟨Nat.zero_le _, Nat.zero_le _⟩ (fun r33 I33 J33 h33 => ?_)
    obtain ⟨h33, e1_, e2_⟩ := h33
    have e1_ := e1_.symm
    have e2_ := e2_.symm
    subst e1_
    subst e2_
    subst h33
    refine r_if_eq (tgt := 47) C (dk oX3_readItem 18 rfl) (by decide) (fun hb36 => ?_) (fun hb36 => ?_)
    · rw [b32_0, decide_eq_false_iff_not] at hb36
      refine hret (dk oX3_readItem 22 rfl) ?_
      refine ⟨rfl, (hG2.trans hG27).P, by rw [(hG2.trans hG27).1 6 (by decide)], Or.inl ⟨nmF t L (itP t L s_ k_) 0 11, itP t L s_ k_, ks, k_, a, by omega, by omega, h55, ?_, rchP.one ?_⟩⟩
      · rcases h27 with q | ⟨-, -, e⟩
        · exact absurd q.1 hb36
        · rw [e, flt_6]
      · unfold stpP; dsimp only; rw [if_neg (by decide), if_pos rfl, if_pos hb36]
    · rw [b32_n, decide_eq_true_eq] at hb36
      have hfg := nmF_fig hb36
      have hlt : isLt (t (itP t L s_ k_)) = false := by
        have := hfg.2.1
        simp only [isDg, decide_eq_true_eq] at this
        exact isLt_f (by omega)
      obtain ⟨-, er, eI⟩ : nmF t L (itP t L s_ k_) 0 11 = 0 ∧ r27 = nI (nmV t L (itP t L s_ k_)) ∧ I27 = I2 := by
        rcases h27 with q | q
        · exact q
        · exact absurd hb36 q.1
      subst er
      have eI := eI.symm
      subst eI
      have hM2 : FcM I2 38 Φ := hM.ofP hG2.P
      have hac2 : AcM I2 a := hac.ofG hG2
      refine r_iload C 0 (dk oX3_readItem 19 rfl) rfl ?_
      refine r_isi C Z (dk oX3_readItem 20 rfl) cl_X3_81 st_X9_isFact (c_X9_isFact I2 J (nI (nmV t L (itP t L s_ k_)))) rfl rfl (Nat.le_of_ble_eq_true rfl) ⟨Nat.le_of_ble_eq_true rfl, Nat.le_of_ble_eq_true rfl⟩ ⟨Nat.zero_le _, Nat.zero_le _⟩ (fun r41 I41 J41 h41 => ?_)
      obtain ⟨h41, e1_, e2_⟩ := h41
      have e1_ := e1_.symm
      have e2_ := e2_.symm
      subst e1_
      subst e2_
      subst h41
      refine r_if_ne (tgt := 48) C (dk oX3_readItem 21 rfl) (by decide) (fun hb44 => ?_) (fun hb44 => absurd hb44 (by rw [b32_n, decide_eq_true_eq]; exact ⟨nI_pos' (by omega), nI_lt (by omega) (by decide)⟩))
      refine r_aload_n C 2 (dk oX3_readItem 23 rfl) rfl ?_
      refine r_getR C (dk oX3_readItem 24 rfl) fl_X3_9 rfl (kn hn rfl) ?_
      refine r_iload C 0 (dk oX3_readItem 25 rfl) rfl ?_
      refine r_iald C _ (dk oX3_readItem 26 rfl) rfl (kn hn rfl) rfl (by omega) (by decide) ?_
      rw [hac2 _ (by omega)]
      have ha6 := ha (nmV t L (itP t L s_ k_))
      refine r_if_eq (tgt := 66) C (dk oX3_readItem 27 rfl) (by decide) (fun hb55 => ?_) (fun hb55 => ?_)
      · simp (disch := omega) only [nI_leI, nI_ltI, nI_eq, nI_eq0] at hb55
        refine r_aload_n C 4 (dk oX3_readItem 32 rfl) rfl ?_
        refine r_iload C 0 (dk oX3_readItem 33 rfl) rfl ?_
        refine r_iload C 1 (dk oX3_readItem 34 rfl) rfl ?_
        refine r_iload_n C 5 (dk oX3_readItem 35 rfl) rfl ?_
        refine r_ivi C Z (dk oX3_readItem 36 rfl) cl_X3_85 ci_X2_allow rfl (kn hn rfl) (c38_X2_allow hn I2 J (nmV t L (itP t L s_ k_)) (itA t L s_ k_) p_ (by omega) ⟨itA_pos hk0.1, itA_le hk0.2⟩) rfl rfl (Nat.le_of_ble_eq_true rfl) ⟨Nat.le_of_ble_eq_true rfl, Nat.le_of_ble_eq_true rfl⟩ ⟨Nat.zero_le _, Nat.zero_le _⟩ (fun r72 I72 J72 h72 => ?_)
        obtain ⟨h72, e1_, e2_⟩ := h72
        have e1_ := e1_.symm
        have e2_ := e2_.symm
        subst e1_
        subst e2_
        subst h72
        rw [show alw (itA t L s_ k_) p_ (fun i => I2 (38 + 1 + i) (nmV t L (itP t L s_ k_))) = alw (itA t L s_ k_) p_ (Φ (nmV t L (itP t L s_ k_))) from alw_cong (hM2 _ (by omega) 0 (by decide)) (hM2 _ (by omega) 2 (by decide))]
        refine r_if_ne (tgt := 86) C (dk oX3_readItem 37 rfl) (by decide) (fun hb75 => ?_) (fun hb75 => ?_)
        · rw [b32_n] at hb75
          refine r_aload_n C 2 (dk oX3_readItem 42 rfl) rfl ?_
          refine r_getR C (dk oX3_readItem 43 rfl) fl_X3_9 rfl (kn hn rfl) ?_
          refine r_iload C 0 (dk oX3_readItem 44 rfl) rfl ?_
          refine r_iload C 1 (dk oX3_readItem 45 rfl) rfl ?_
          refine r_iast C _ (dk oX3_readItem 46 rfl) rfl (kn hn rfl) rfl (by omega) (by decide) ?_
          refine r_aload_n C 3 (dk oX3_readItem 47 rfl) rfl ?_
          refine r_ivv C Z (dk oX3_readItem 48 rfl) cl_X3_47 ci_X8_next rfl (kn hn rfl) (c_X8_next hn _ J t L ⟨(hT.ofG hG2).1, by rw [up2_ne (by decide)]; exact (hT.ofG hG2).2.1, fun j hj => by rw [up2_ne (by decide)]; exact (hT.ofG hG2).2.2 j hj⟩ (nE t L (itP t L s_ k_)) (nE_le hk2.1) (by rw [up2_ne (by decide), hk2.2.2.2, (tkK_2 hfg.1 hlt hfg.2.1).2])) rfl rfl (Nat.le_of_ble_eq_true rfl) ⟨Nat.le_of_ble_eq_true rfl, Nat.le_of_ble_eq_true rfl⟩ ⟨Nat.zero_le _, Nat.zero_le _⟩ (fun I96 J96 h96 => ?_)
          obtain ⟨hF96, hk96, e2_⟩ := h96
          have e2_ := e2_.symm
          subst e2_
          refine hret (dk oX3_readItem 49 rfl) ?_
          have d10 : ¬ (1 : Nat) = 0 := by decide
          first
            | (refine ⟨rfl, (hG2.trans (flt_G _ _ _)).P, by rw [(hG2.trans (flt_G _ _ _)).1 6 (by decide)], Or.inl ⟨4, itP t L s_ k_, ks, k_, a, by decide, by decide, flt_5 _ _ _, flt_6 _ _ _, rchP.one ?_⟩⟩
               unfold stpP; dsimp only; rw [if_neg d10, if_pos rfl, if_neg (by rw [hb36]; decide), if_pos hb55])
            | (refine ⟨rfl, (hG2.trans (flt_G _ _ _)).P, by rw [(hG2.trans (flt_G _ _ _)).1 6 (by decide)], Or.inl ⟨5, itP t L s_ k_, ks, k_, a, by decide, by decide, flt_5 _ _ _, flt_6 _ _ _, rchP.one ?_⟩⟩
               unfold stpP; dsimp only; rw [if_neg d10, if_pos rfl, if_neg (by rw [hb36]; decide), if_neg (by rw [hb55]; decide), if_pos hb75])
            | (have hPF : paF I2 (up2 I2 7 (nmV t L (itP t L s_ k_)) (nI (itA t L s_ k_))) := ⟨fun k a b c => up2_ne c, by rw [up2_ne (by decide)]⟩
               refine ⟨rfl, (hG2.P.trans hPF).trans hF96.G.P, by rw [hF96.1 6 (by decide), up2_ne (by decide), hG2.1 6 (by decide)], Or.inr ⟨sk t L (nE t L (itP t L s_ k_)), fun f => if f = nmV t L (itP t L s_ k_) then itA t L s_ k_ else a f, ⟨?_, ?_, hk96, fun f hf => ?_⟩, ?_, rchP.one ?_⟩⟩
               · rw [hF96.2 5 (by decide) (by decide) (by decide), up2_ne (by decide)]; exact h25
               · rw [hF96.2 6 (by decide) (by decide) (by decide), up2_ne (by decide)]; exact h26
               · rw [hF96.1 7 (by decide)]
                 show _ = nI (if f = nmV t L (itP t L s_ k_) then itA t L s_ k_ else a f)
                 by_cases e : f = nmV t L (itP t L s_ k_)
                 · rw [e, up2_at, if_pos rfl]
                 · rw [up2_off e, if_neg e]; exact hac2 f hf
               · have := @sk_ge t L (nE t L (itP t L s_ k_))
                 omega
               · unfold stpP; dsimp only; rw [if_neg d10, if_pos rfl, if_neg (by rw [hb36]; decide), if_neg (by rw [hb55]; decide), if_neg (by rw [hb75]; decide)])
        · rw [b32_0] at hb75
          refine r_aload_n C 3 (dk oX3_readItem 38 rfl) rfl ?_
          refine r_iconst C (dk oX3_readItem 39 rfl) (v := nI 5) (by decide) ?_
          refine r_ivv C Z (dk oX3_readItem 40 rfl) cl_X3_39 ci_X8_fail rfl (kn hn rfl) (c_X8_fail hn I2 J 5 0 (itP t L s_ k_) (by decide) h25 hk2.2.2.1) rfl rfl (Nat.le_of_ble_eq_true rfl) ⟨Nat.le_of_ble_eq_true rfl, Nat.le_of_ble_eq_true rfl⟩ ⟨Nat.zero_le _, Nat.zero_le _⟩ (fun I80 J80 h80 => ?_)
          obtain ⟨e1_, e2_⟩ := h80
          rw [if_pos rfl] at e1_
          have e1_ := e1_.symm
          have e2_ := e2_.symm
          subst e1_
          subst e2_
          refine r_goto (tgt := 99) C (dk oX3_readItem 41 rfl) (by decide) ?_
          refine hret (dk oX3_readItem 49 rfl) ?_
          have d10 : ¬ (1 : Nat) = 0 := by decide
          first
            | (refine ⟨rfl, (hG2.trans (flt_G _ _ _)).P, by rw [(hG2.trans (flt_G _ _ _)).1 6 (by decide)], Or.inl ⟨4, itP t L s_ k_, ks, k_, a, by decide, by decide, flt_5 _ _ _, flt_6 _ _ _, rchP.one ?_⟩⟩
               unfold stpP; dsimp only; rw [if_neg d10, if_pos rfl, if_neg (by rw [hb36]; decide), if_pos hb55])
            | (refine ⟨rfl, (hG2.trans (flt_G _ _ _)).P, by rw [(hG2.trans (flt_G _ _ _)).1 6 (by decide)], Or.inl ⟨5, itP t L s_ k_, ks, k_, a, by decide, by decide, flt_5 _ _ _, flt_6 _ _ _, rchP.one ?_⟩⟩
               unfold stpP; dsimp only; rw [if_neg d10, if_pos rfl, if_neg (by rw [hb36]; decide), if_neg (by rw [hb55]; decide), if_pos hb75])
            | (have hPF : paF I2 (up2 I2 7 (nmV t L (itP t L s_ k_)) (nI (itA t L s_ k_))) := ⟨fun k a b c => up2_ne c, by rw [up2_ne (by decide)]⟩
               refine ⟨rfl, (hG2.P.trans hPF).trans hF96.G.P, by rw [hF96.1 6 (by decide), up2_ne (by decide), hG2.1 6 (by decide)], Or.inr ⟨sk t L (nE t L (itP t L s_ k_)), fun f => if f = nmV t L (itP t L s_ k_) then itA t L s_ k_ else a f, ⟨?_, ?_, hk96, fun f hf => ?_⟩, ?_, rchP.one ?_⟩⟩
               · rw [hF96.2 5 (by decide) (by decide) (by decide), up2_ne (by decide)]; exact h25
               · rw [hF96.2 6 (by decide) (by decide) (by decide), up2_ne (by decide)]; exact h26
               · rw [hF96.1 7 (by decide)]
                 show _ = nI (if f = nmV t L (itP t L s_ k_) then itA t L s_ k_ else a f)
                 by_cases e : f = nmV t L (itP t L s_ k_)
                 · rw [e, up2_at, if_pos rfl]
                 · rw [up2_off e, if_neg e]; exact hac2 f hf
               · have := @sk_ge t L (nE t L (itP t L s_ k_))
                 omega
               · unfold stpP; dsimp only; rw [if_neg d10, if_pos rfl, if_neg (by rw [hb36]; decide), if_neg (by rw [hb55]; decide), if_neg (by rw [hb75]; decide)])
      · simp (disch := omega) only [nI_leI, nI_ltI, nI_eq, nI_eq0] at hb55
        refine r_aload_n C 3 (dk oX3_readItem 28 rfl) rfl ?_
        refine r_iconst C (dk oX3_readItem 29 rfl) (v := nI 4) (by decide) ?_
        refine r_ivv C Z (dk oX3_readItem 30 rfl) cl_X3_39 ci_X8_fail rfl (kn hn rfl) (c_X8_fail hn I2 J 4 0 (itP t L s_ k_) (by decide) h25 hk2.2.2.1) rfl rfl (Nat.le_of_ble_eq_true rfl) ⟨Nat.le_of_ble_eq_true rfl, Nat.le_of_ble_eq_true rfl⟩ ⟨Nat.zero_le _, Nat.zero_le _⟩ (fun I60 J60 h60 => ?_)
        obtain ⟨e1_, e2_⟩ := h60
        rw [if_pos rfl] at e1_
        have e1_ := e1_.symm
        have e2_ := e2_.symm
        subst e1_
        subst e2_
        refine r_goto (tgt := 99) C (dk oX3_readItem 31 rfl) (by decide) ?_
        refine hret (dk oX3_readItem 49 rfl) ?_
        have d10 : ¬ (1 : Nat) = 0 := by decide
        first
          | (refine ⟨rfl, (hG2.trans (flt_G _ _ _)).P, by rw [(hG2.trans (flt_G _ _ _)).1 6 (by decide)], Or.inl ⟨4, itP t L s_ k_, ks, k_, a, by decide, by decide, flt_5 _ _ _, flt_6 _ _ _, rchP.one ?_⟩⟩
             unfold stpP; dsimp only; rw [if_neg d10, if_pos rfl, if_neg (by rw [hb36]; decide), if_pos hb55])
          | (refine ⟨rfl, (hG2.trans (flt_G _ _ _)).P, by rw [(hG2.trans (flt_G _ _ _)).1 6 (by decide)], Or.inl ⟨5, itP t L s_ k_, ks, k_, a, by decide, by decide, flt_5 _ _ _, flt_6 _ _ _, rchP.one ?_⟩⟩
             unfold stpP; dsimp only; rw [if_neg d10, if_pos rfl, if_neg (by rw [hb36]; decide), if_neg (by rw [hb55]; decide), if_pos hb75])
          | (have hPF : paF I2 (up2 I2 7 (nmV t L (itP t L s_ k_)) (nI (itA t L s_ k_))) := ⟨fun k a b c => up2_ne c, by rw [up2_ne (by decide)]⟩
             refine ⟨rfl, (hG2.P.trans hPF).trans hF96.G.P, by rw [hF96.1 6 (by decide), up2_ne (by decide), hG2.1 6 (by decide)], Or.inr ⟨sk t L (nE t L (itP t L s_ k_)), fun f => if f = nmV t L (itP t L s_ k_) then itA t L s_ k_ else a f, ⟨?_, ?_, hk96, fun f hf => ?_⟩, ?_, rchP.one ?_⟩⟩
             · rw [hF96.2 5 (by decide) (by decide) (by decide), up2_ne (by decide)]; exact h25
             · rw [hF96.2 6 (by decide) (by decide) (by decide), up2_ne (by decide)]; exact h26
             · rw [hF96.1 7 (by decide)]
               show _ = nI (if f = nmV t L (itP t L s_ k_) then itA t L s_ k_ else a f)
               by_cases e : f = nmV t L (itP t L s_ k_)
               · rw [e, up2_at, if_pos rfl]
               · rw [up2_off e, if_neg e]; exact hac2 f hf
             · have := @sk_ge t L (nE t L (itP t L s_ k_))
               omega
             · unfold stpP; dsimp only; rw [if_neg d10, if_pos rfl, if_neg (by rw [hb36]; decide), if_neg (by rw [hb55]; decide), if_neg (by rw [hb75]; decide)])
  · simp (disch := omega) only [nI_leI, nI_ltI, nI_eq, nI_eq0] at hb3
    refine r_aload_n C 1 (dk oX3_readItem 3 rfl) rfl ?_
    refine r_ldcS C (dk oX3_readItem 4 rfl) (Z.2.1 11 (by decide)) ?_
    refine r_ivi C Z (dk oX3_readItem 5 rfl) cl_X3_74 ci_X8_takesWord rfl (kn hn rfl) (c_X8_takesWord hn I J t L hT s_ 11 0 (by decide) (by decide) h5 (fun _ => hk)) rfl rfl (Nat.le_of_ble_eq_true rfl) ⟨Nat.le_of_ble_eq_true rfl, Nat.le_of_ble_eq_true rfl⟩ ⟨Nat.zero_le _, Nat.zero_le _⟩ (fun r9 I9 J9 h9 => ?_)
    refine r_if_eq (tgt := 19) C (dk oX3_readItem 6 rfl) (by decide) (fun hb12 => ?_) (fun hb12 => ?_)
    · obtain ⟨q1, e1_, e2_⟩ : ¬ (isW t L s_ (sWd 11) = true) ∧ I9 = I ∧ J9 = J := by
        rcases h9 with ⟨q1, q2, q3, q4⟩ | ⟨q1, q2, q3⟩
        · rw [q3] at hb12; exact absurd hb12 (by decide)
        · exact ⟨fun z => q1 ⟨rfl, z⟩, q3⟩
      have e1_ := e1_.symm
      have e2_ := e2_.symm
      subst e1_
      subst e2_
      obtain ⟨I2, hI2⟩ : ∃ X, X = I := ⟨_, rfl⟩
      have hA : itA t L s_ k_ = k_ := if_neg (fun q => q1 q.2)
      have hPp : itP t L s_ k_ = s_ := if_neg (fun q => q1 q.2)
      have hG2 : txG I I2 := by rw [hI2]; exact txG.rf I
      have h25 : I2 1 5 = nI 0 := by rw [hI2]; exact h5
      have h26 : I2 1 6 = -1 := by rw [hI2]; exact h6
      have hk2 : Tk I2 t L (itP t L s_ k_) := by rw [hI2, hPp]; exact hk
      have hsP : s_ ≤ itP t L s_ k_ := by rw [hPp]; exact Nat.le_refl _
      rw [← hI2]
      clear hI2
      refine r_iload C 4 (dk oX3_readItem 9 rfl) rfl ?_
      refine r_topI (show nI k_ = nI (itA t L s_ k_) from by rw [hA]) ?_
      refine r_istore (lo' := [(5, _), (0, _), (1, _), (2, _), (3, _), (4, _)]) C (dk oX3_readItem 10 rfl) (by decide) rfl ?_
      refine r_aload_n C 2 (dk oX3_readItem 11 rfl) rfl ?_
      refine r_iconst C (dk oX3_readItem 12 rfl) (v := nI 0) (by decide) ?_
      refine r_bipush C (dk oX3_readItem 13 rfl) (v := nI 11) (by decide) ?_
      refine r_ivi C Z (dk oX3_readItem 14 rfl) cl_X3_77 ci_X8_numberHere rfl (kn hn rfl) (c_X8_numberHere hn I2 J t L (hT.ofG hG2) (itP t L s_ k_) 0 11 h25 hk2 (by decide) (by decide)) rfl rfl (Nat.le_of_ble_eq_true rfl) ⟨Nat.le_of_ble_eq_true rfl, Nat.le_of_ble_eq_true rfl⟩ ⟨Nat.zero_le _, Nat.zero_le _⟩ (fun r27 I27 J27 h27 => ?_)
      obtain ⟨h27, e2_⟩ := h27
      have e2_ := e2_.symm
      subst e2_
      have hf3 := @nmF_lt t L (itP t L s_ k_) 0 11
      have hG27 : txG I2 I27 := by
        rcases h27 with ⟨-, -, e⟩ | ⟨-, -, e⟩
        · rw [e]; exact txG.rf _
        · rw [e]; exact flt_G _ _ _
      have h55 : I27 1 5 = nI (nmF t L (itP t L s_ k_) 0 11) := by
        rcases h27 with ⟨e0, -, e⟩ | ⟨-, -, e⟩
        · rw [e, h25, e0]
        · rw [e, flt_5]
      refine r_istore (lo' := [(6, _), (5, _), (0, _), (1, _), (2, _), (3, _), (4, _)]) C (dk oX3_readItem 15 rfl) (by decide) rfl ?_
      refine r_aload_n C 3 (dk oX3_readItem 16 rfl) rfl ?_
      refine r_ivi C Z (dk oX3_readItem 17 rfl) cl_X3_24 ci_X8_isSound rfl (kn hn rfl) (c_X8_isSound hn I27 J (nmF t L (itP t L s_ k_) 0 11) (by omega) h55) rfl rfl (Nat.le_of_ble_eq_true rfl) ⟨Nat.le_of_ble_eq_true rfl, Nat.le_of_ble_eq_true rfl⟩ ⟨Nat.zero_le _, Nat.zero_le _⟩ (fun r33 I33 J33 h33 => ?_)
      obtain ⟨h33, e1_, e2_⟩ := h33
      have e1_ := e1_.symm
      have e2_ := e2_.symm
      subst e1_
      subst e2_
      subst h33
      refine r_if_eq (tgt := 47) C (dk oX3_readItem 18 rfl) (by decide) (fun hb36 => ?_) (fun hb36 => ?_)
      · rw [b32_0, decide_eq_false_iff_not] at hb36
        refine hret (dk oX3_readItem 22 rfl) ?_
        refine ⟨rfl, (hG2.trans hG27).P, by rw [(hG2.trans hG27).1 6 (by decide)], Or.inl ⟨nmF t L (itP t L s_ k_) 0 11, itP t L s_ k_, ks, k_, a, by omega, by omega, h55, ?_, rchP.one ?_⟩⟩
        · rcases h27 with q | ⟨-, -, e⟩
          · exact absurd q.1 hb36
          · rw [e, flt_6]
        · unfold stpP; dsimp only; rw [if_neg (by decide), if_pos rfl, if_pos hb36]
      · rw [b32_n, decide_eq_true_eq] at hb36
        have hfg := nmF_fig hb36
        have hlt : isLt (t (itP t L s_ k_)) = false := by
          have := hfg.2.1
          simp only [isDg, decide_eq_true_eq] at this
          exact isLt_f (by omega)
        obtain ⟨-, er, eI⟩ : nmF t L (itP t L s_ k_) 0 11 = 0 ∧ r27 = nI (nmV t L (itP t L s_ k_)) ∧ I27 = I2 := by
          rcases h27 with q | q
          · exact q
          · exact absurd hb36 q.1
        subst er
        have eI := eI.symm
        subst eI
        have hM2 : FcM I2 38 Φ := hM.ofP hG2.P
        have hac2 : AcM I2 a := hac.ofG hG2
        refine r_iload C 0 (dk oX3_readItem 19 rfl) rfl ?_
        refine r_isi C Z (dk oX3_readItem 20 rfl) cl_X3_81 st_X9_isFact (c_X9_isFact I2 J (nI (nmV t L (itP t L s_ k_)))) rfl rfl (Nat.le_of_ble_eq_true rfl) ⟨Nat.le_of_ble_eq_true rfl, Nat.le_of_ble_eq_true rfl⟩ ⟨Nat.zero_le _, Nat.zero_le _⟩ (fun r41 I41 J41 h41 => ?_)
        obtain ⟨h41, e1_, e2_⟩ := h41
        have e1_ := e1_.symm
        have e2_ := e2_.symm
        subst e1_
        subst e2_
        subst h41
        refine r_if_ne (tgt := 48) C (dk oX3_readItem 21 rfl) (by decide) (fun hb44 => ?_) (fun hb44 => absurd hb44 (by rw [b32_n, decide_eq_true_eq]; exact ⟨nI_pos' (by omega), nI_lt (by omega) (by decide)⟩))
        refine r_aload_n C 2 (dk oX3_readItem 23 rfl) rfl ?_
        refine r_getR C (dk oX3_readItem 24 rfl) fl_X3_9 rfl (kn hn rfl) ?_
        refine r_iload C 0 (dk oX3_readItem 25 rfl) rfl ?_
        refine r_iald C _ (dk oX3_readItem 26 rfl) rfl (kn hn rfl) rfl (by omega) (by decide) ?_
        rw [hac2 _ (by omega)]
        have ha6 := ha (nmV t L (itP t L s_ k_))
        refine r_if_eq (tgt := 66) C (dk oX3_readItem 27 rfl) (by decide) (fun hb55 => ?_) (fun hb55 => ?_)
        · simp (disch := omega) only [nI_leI, nI_ltI, nI_eq, nI_eq0] at hb55
          refine r_aload_n C 4 (dk oX3_readItem 32 rfl) rfl ?_
          refine r_iload C 0 (dk oX3_readItem 33 rfl) rfl ?_
          refine r_iload C 1 (dk oX3_readItem 34 rfl) rfl ?_
          refine r_iload_n C 5 (dk oX3_readItem 35 rfl) rfl ?_
          refine r_ivi C Z (dk oX3_readItem 36 rfl) cl_X3_85 ci_X2_allow rfl (kn hn rfl) (c38_X2_allow hn I2 J (nmV t L (itP t L s_ k_)) (itA t L s_ k_) p_ (by omega) ⟨itA_pos hk0.1, itA_le hk0.2⟩) rfl rfl (Nat.le_of_ble_eq_true rfl) ⟨Nat.le_of_ble_eq_true rfl, Nat.le_of_ble_eq_true rfl⟩ ⟨Nat.zero_le _, Nat.zero_le _⟩ (fun r72 I72 J72 h72 => ?_)
          obtain ⟨h72, e1_, e2_⟩ := h72
          have e1_ := e1_.symm
          have e2_ := e2_.symm
          subst e1_
          subst e2_
          subst h72
          rw [show alw (itA t L s_ k_) p_ (fun i => I2 (38 + 1 + i) (nmV t L (itP t L s_ k_))) = alw (itA t L s_ k_) p_ (Φ (nmV t L (itP t L s_ k_))) from alw_cong (hM2 _ (by omega) 0 (by decide)) (hM2 _ (by omega) 2 (by decide))]
          refine r_if_ne (tgt := 86) C (dk oX3_readItem 37 rfl) (by decide) (fun hb75 => ?_) (fun hb75 => ?_)
          · rw [b32_n] at hb75
            refine r_aload_n C 2 (dk oX3_readItem 42 rfl) rfl ?_
            refine r_getR C (dk oX3_readItem 43 rfl) fl_X3_9 rfl (kn hn rfl) ?_
            refine r_iload C 0 (dk oX3_readItem 44 rfl) rfl ?_
            refine r_iload C 1 (dk oX3_readItem 45 rfl) rfl ?_
            refine r_iast C _ (dk oX3_readItem 46 rfl) rfl (kn hn rfl) rfl (by omega) (by decide) ?_
            refine r_aload_n C 3 (dk oX3_readItem 47 rfl) rfl ?_
            refine r_ivv C Z (dk oX3_readItem 48 rfl) cl_X3_47 ci_X8_next rfl (kn hn rfl) (c_X8_next hn _ J t L ⟨(hT.ofG hG2).1, by rw [up2_ne (by decide)]; exact (hT.ofG hG2).2.1, fun j hj => by rw [up2_ne (by decide)]; exact (hT.ofG hG2).2.2 j hj⟩ (nE t L (itP t L s_ k_)) (nE_le hk2.1) (by rw [up2_ne (by decide), hk2.2.2.2, (tkK_2 hfg.1 hlt hfg.2.1).2])) rfl rfl (Nat.le_of_ble_eq_true rfl) ⟨Nat.le_of_ble_eq_true rfl, Nat.le_of_ble_eq_true rfl⟩ ⟨Nat.zero_le _, Nat.zero_le _⟩ (fun I96 J96 h96 => ?_)
            obtain ⟨hF96, hk96, e2_⟩ := h96
            have e2_ := e2_.symm
            subst e2_
            refine hret (dk oX3_readItem 49 rfl) ?_
            have d10 : ¬ (1 : Nat) = 0 := by decide
            first
              | (refine ⟨rfl, (hG2.trans (flt_G _ _ _)).P, by rw [(hG2.trans (flt_G _ _ _)).1 6 (by decide)], Or.inl ⟨4, itP t L s_ k_, ks, k_, a, by decide, by decide, flt_5 _ _ _, flt_6 _ _ _, rchP.one ?_⟩⟩
                 unfold stpP; dsimp only; rw [if_neg d10, if_pos rfl, if_neg (by rw [hb36]; decide), if_pos hb55])
              | (refine ⟨rfl, (hG2.trans (flt_G _ _ _)).P, by rw [(hG2.trans (flt_G _ _ _)).1 6 (by decide)], Or.inl ⟨5, itP t L s_ k_, ks, k_, a, by decide, by decide, flt_5 _ _ _, flt_6 _ _ _, rchP.one ?_⟩⟩
                 unfold stpP; dsimp only; rw [if_neg d10, if_pos rfl, if_neg (by rw [hb36]; decide), if_neg (by rw [hb55]; decide), if_pos hb75])
              | (have hPF : paF I2 (up2 I2 7 (nmV t L (itP t L s_ k_)) (nI (itA t L s_ k_))) := ⟨fun k a b c => up2_ne c, by rw [up2_ne (by decide)]⟩
                 refine ⟨rfl, (hG2.P.trans hPF).trans hF96.G.P, by rw [hF96.1 6 (by decide), up2_ne (by decide), hG2.1 6 (by decide)], Or.inr ⟨sk t L (nE t L (itP t L s_ k_)), fun f => if f = nmV t L (itP t L s_ k_) then itA t L s_ k_ else a f, ⟨?_, ?_, hk96, fun f hf => ?_⟩, ?_, rchP.one ?_⟩⟩
                 · rw [hF96.2 5 (by decide) (by decide) (by decide), up2_ne (by decide)]; exact h25
                 · rw [hF96.2 6 (by decide) (by decide) (by decide), up2_ne (by decide)]; exact h26
                 · rw [hF96.1 7 (by decide)]
                   show _ = nI (if f = nmV t L (itP t L s_ k_) then itA t L s_ k_ else a f)
                   by_cases e : f = nmV t L (itP t L s_ k_)
                   · rw [e, up2_at, if_pos rfl]
                   · rw [up2_off e, if_neg e]; exact hac2 f hf
                 · have := @sk_ge t L (nE t L (itP t L s_ k_))
                   omega
                 · unfold stpP; dsimp only; rw [if_neg d10, if_pos rfl, if_neg (by rw [hb36]; decide), if_neg (by rw [hb55]; decide), if_neg (by rw [hb75]; decide)])
          · rw [b32_0] at hb75
            refine r_aload_n C 3 (dk oX3_readItem 38 rfl) rfl ?_
            refine r_iconst C (dk oX3_readItem 39 rfl) (v := nI 5) (by decide) ?_
            refine r_ivv C Z (dk oX3_readItem 40 rfl) cl_X3_39 ci_X8_fail rfl (kn hn rfl) (c_X8_fail hn I2 J 5 0 (itP t L s_ k_) (by decide) h25 hk2.2.2.1) rfl rfl (Nat.le_of_ble_eq_true rfl) ⟨Nat.le_of_ble_eq_true rfl, Nat.le_of_ble_eq_true rfl⟩ ⟨Nat.zero_le _, Nat.zero_le _⟩ (fun I80 J80 h80 => ?_)
            obtain ⟨e1_, e2_⟩ := h80
            rw [if_pos rfl] at e1_
            have e1_ := e1_.symm
            have e2_ := e2_.symm
            subst e1_
            subst e2_
            refine r_goto (tgt := 99) C (dk oX3_readItem 41 rfl) (by decide) ?_
            refine hret (dk oX3_readItem 49 rfl) ?_
            have d10 : ¬ (1 : Nat) = 0 := by decide
            first
              | (refine ⟨rfl, (hG2.trans (flt_G _ _ _)).P, by rw [(hG2.trans (flt_G _ _ _)).1 6 (by decide)], Or.inl ⟨4, itP t L s_ k_, ks, k_, a, by decide, by decide, flt_5 _ _ _, flt_6 _ _ _, rchP.one ?_⟩⟩
                 unfold stpP; dsimp only; rw [if_neg d10, if_pos rfl, if_neg (by rw [hb36]; decide), if_pos hb55])
              | (refine ⟨rfl, (hG2.trans (flt_G _ _ _)).P, by rw [(hG2.trans (flt_G _ _ _)).1 6 (by decide)], Or.inl ⟨5, itP t L s_ k_, ks, k_, a, by decide, by decide, flt_5 _ _ _, flt_6 _ _ _, rchP.one ?_⟩⟩
                 unfold stpP; dsimp only; rw [if_neg d10, if_pos rfl, if_neg (by rw [hb36]; decide), if_neg (by rw [hb55]; decide), if_pos hb75])
              | (have hPF : paF I2 (up2 I2 7 (nmV t L (itP t L s_ k_)) (nI (itA t L s_ k_))) := ⟨fun k a b c => up2_ne c, by rw [up2_ne (by decide)]⟩
                 refine ⟨rfl, (hG2.P.trans hPF).trans hF96.G.P, by rw [hF96.1 6 (by decide), up2_ne (by decide), hG2.1 6 (by decide)], Or.inr ⟨sk t L (nE t L (itP t L s_ k_)), fun f => if f = nmV t L (itP t L s_ k_) then itA t L s_ k_ else a f, ⟨?_, ?_, hk96, fun f hf => ?_⟩, ?_, rchP.one ?_⟩⟩
                 · rw [hF96.2 5 (by decide) (by decide) (by decide), up2_ne (by decide)]; exact h25
                 · rw [hF96.2 6 (by decide) (by decide) (by decide), up2_ne (by decide)]; exact h26
                 · rw [hF96.1 7 (by decide)]
                   show _ = nI (if f = nmV t L (itP t L s_ k_) then itA t L s_ k_ else a f)
                   by_cases e : f = nmV t L (itP t L s_ k_)
                   · rw [e, up2_at, if_pos rfl]
                   · rw [up2_off e, if_neg e]; exact hac2 f hf
                 · have := @sk_ge t L (nE t L (itP t L s_ k_))
                   omega
                 · unfold stpP; dsimp only; rw [if_neg d10, if_pos rfl, if_neg (by rw [hb36]; decide), if_neg (by rw [hb55]; decide), if_neg (by rw [hb75]; decide)])
        · simp (disch := omega) only [nI_leI, nI_ltI, nI_eq, nI_eq0] at hb55
          refine r_aload_n C 3 (dk oX3_readItem 28 rfl) rfl ?_
          refine r_iconst C (dk oX3_readItem 29 rfl) (v := nI 4) (by decide) ?_
          refine r_ivv C Z (dk oX3_readItem 30 rfl) cl_X3_39 ci_X8_fail rfl (kn hn rfl) (c_X8_fail hn I2 J 4 0 (itP t L s_ k_) (by decide) h25 hk2.2.2.1) rfl rfl (Nat.le_of_ble_eq_true rfl) ⟨Nat.le_of_ble_eq_true rfl, Nat.le_of_ble_eq_true rfl⟩ ⟨Nat.zero_le _, Nat.zero_le _⟩ (fun I60 J60 h60 => ?_)
          obtain ⟨e1_, e2_⟩ := h60
          rw [if_pos rfl] at e1_
          have e1_ := e1_.symm
          have e2_ := e2_.symm
          subst e1_
          subst e2_
          refine r_goto (tgt := 99) C (dk oX3_readItem 31 rfl) (by decide) ?_
          refine hret (dk oX3_readItem 49 rfl) ?_
          have d10 : ¬ (1 : Nat) = 0 := by decide
          first
            | (refine ⟨rfl, (hG2.trans (flt_G _ _ _)).P, by rw [(hG2.trans (flt_G _ _ _)).1 6 (by decide)], Or.inl ⟨4, itP t L s_ k_, ks, k_, a, by decide, by decide, flt_5 _ _ _, flt_6 _ _ _, rchP.one ?_⟩⟩
               unfold stpP; dsimp only; rw [if_neg d10, if_pos rfl, if_neg (by rw [hb36]; decide), if_pos hb55])
            | (refine ⟨rfl, (hG2.trans (flt_G _ _ _)).P, by rw [(hG2.trans (flt_G _ _ _)).1 6 (by decide)], Or.inl ⟨5, itP t L s_ k_, ks, k_, a, by decide, by decide, flt_5 _ _ _, flt_6 _ _ _, rchP.one ?_⟩⟩
               unfold stpP; dsimp only; rw [if_neg d10, if_pos rfl, if_neg (by rw [hb36]; decide), if_neg (by rw [hb55]; decide), if_pos hb75])
            | (have hPF : paF I2 (up2 I2 7 (nmV t L (itP t L s_ k_)) (nI (itA t L s_ k_))) := ⟨fun k a b c => up2_ne c, by rw [up2_ne (by decide)]⟩
               refine ⟨rfl, (hG2.P.trans hPF).trans hF96.G.P, by rw [hF96.1 6 (by decide), up2_ne (by decide), hG2.1 6 (by decide)], Or.inr ⟨sk t L (nE t L (itP t L s_ k_)), fun f => if f = nmV t L (itP t L s_ k_) then itA t L s_ k_ else a f, ⟨?_, ?_, hk96, fun f hf => ?_⟩, ?_, rchP.one ?_⟩⟩
               · rw [hF96.2 5 (by decide) (by decide) (by decide), up2_ne (by decide)]; exact h25
               · rw [hF96.2 6 (by decide) (by decide) (by decide), up2_ne (by decide)]; exact h26
               · rw [hF96.1 7 (by decide)]
                 show _ = nI (if f = nmV t L (itP t L s_ k_) then itA t L s_ k_ else a f)
                 by_cases e : f = nmV t L (itP t L s_ k_)
                 · rw [e, up2_at, if_pos rfl]
                 · rw [up2_off e, if_neg e]; exact hac2 f hf
               · have := @sk_ge t L (nE t L (itP t L s_ k_))
                 omega
               · unfold stpP; dsimp only; rw [if_neg d10, if_pos rfl, if_neg (by rw [hb36]; decide), if_neg (by rw [hb55]; decide), if_neg (by rw [hb75]; decide)])
    · obtain ⟨q2, q3, q4, e2_⟩ : isW t L s_ (sWd 11) = true ∧ txF I I9 ∧ Tk I9 t L (sk t L (s_ + (sWd 11).length)) ∧ J9 = J := by
        rcases h9 with ⟨q1, q2, q3, q4⟩ | ⟨q1, q2, q3⟩
        · exact ⟨q2, q4⟩
        · rw [q2] at hb12; exact absurd rfl hb12
      have e2_ := e2_.symm
      subst e2_
      obtain ⟨I2, hI2⟩ : ∃ X, X = I9 := ⟨_, rfl⟩
      have hA : itA t L s_ k_ = 2 := if_pos ⟨hb3, q2⟩
      have hPp : itP t L s_ k_ = sk t L (s_ + 3) := if_pos ⟨hb3, q2⟩
      have hG2 : txG I I2 := by rw [hI2]; exact q3.G
      have h25 : I2 1 5 = nI 0 := by rw [hI2, q3.2 5 (by decide) (by decide) (by decide)]; exact h5
      have h26 : I2 1 6 = -1 := by rw [hI2, q3.2 6 (by decide) (by decide) (by decide)]; exact h6
      have hk2 : Tk I2 t L (itP t L s_ k_) := by rw [hI2, hPp]; exact q4
      have hsP : s_ ≤ itP t L s_ k_ := by rw [hPp]; have := @sk_ge t L (s_ + 3); omega
      rw [← hI2]
      clear hI2
      refine r_iconst C (dk oX3_readItem 7 rfl) (v := nI 2) (by decide) ?_
      refine r_topI (show nI 2 = nI (itA t L s_ k_) from by rw [hA]) ?_
      refine r_goto (tgt := 21) C (dk oX3_readItem 8 rfl) (by decide) ?_
      refine r_istore (lo' := [(5, _), (0, _), (1, _), (2, _), (3, _), (4, _)]) C (dk oX3_readItem 10 rfl) (by decide) rfl ?_
      refine r_aload_n C 2 (dk oX3_readItem 11 rfl) rfl ?_
      refine r_iconst C (dk oX3_readItem 12 rfl) (v := nI 0) (by decide) ?_
      refine r_bipush C (dk oX3_readItem 13 rfl) (v := nI 11) (by decide) ?_
      refine r_ivi C Z (dk oX3_readItem 14 rfl) cl_X3_77 ci_X8_numberHere rfl (kn hn rfl) (c_X8_numberHere hn I2 J t L (hT.ofG hG2) (itP t L s_ k_) 0 11 h25 hk2 (by decide) (by decide)) rfl rfl (Nat.le_of_ble_eq_true rfl) ⟨Nat.le_of_ble_eq_true rfl, Nat.le_of_ble_eq_true rfl⟩ ⟨Nat.zero_le _, Nat.zero_le _⟩ (fun r27 I27 J27 h27 => ?_)
      obtain ⟨h27, e2_⟩ := h27
      have e2_ := e2_.symm
      subst e2_
      have hf3 := @nmF_lt t L (itP t L s_ k_) 0 11
      have hG27 : txG I2 I27 := by
        rcases h27 with ⟨-, -, e⟩ | ⟨-, -, e⟩
        · rw [e]; exact txG.rf _
        · rw [e]; exact flt_G _ _ _
      have h55 : I27 1 5 = nI (nmF t L (itP t L s_ k_) 0 11) := by
        rcases h27 with ⟨e0, -, e⟩ | ⟨-, -, e⟩
        · rw [e, h25, e0]
        · rw [e, flt_5]
      refine r_istore (lo' := [(6, _), (5, _), (0, _), (1, _), (2, _), (3, _), (4, _)]) C (dk oX3_readItem 15 rfl) (by decide) rfl ?_
      refine r_aload_n C 3 (dk oX3_readItem 16 rfl) rfl ?_
      refine r_ivi C Z (dk oX3_readItem 17 rfl) cl_X3_24 ci_X8_isSound rfl (kn hn rfl) (c_X8_isSound hn I27 J (nmF t L (itP t L s_ k_) 0 11) (by omega) h55) rfl rfl (Nat.le_of_ble_eq_true rfl) ⟨Nat.le_of_ble_eq_true rfl, Nat.le_of_ble_eq_true rfl⟩ ⟨Nat.zero_le _, Nat.zero_le _⟩ (fun r33 I33 J33 h33 => ?_)
      obtain ⟨h33, e1_, e2_⟩ := h33
      have e1_ := e1_.symm
      have e2_ := e2_.symm
      subst e1_
      subst e2_
      subst h33
      refine r_if_eq (tgt := 47) C (dk oX3_readItem 18 rfl) (by decide) (fun hb36 => ?_) (fun hb36 => ?_)
      · rw [b32_0, decide_eq_false_iff_not] at hb36
        refine hret (dk oX3_readItem 22 rfl) ?_
        refine ⟨rfl, (hG2.trans hG27).P, by rw [(hG2.trans hG27).1 6 (by decide)], Or.inl ⟨nmF t L (itP t L s_ k_) 0 11, itP t L s_ k_, ks, k_, a, by omega, by omega, h55, ?_, rchP.one ?_⟩⟩
        · rcases h27 with q | ⟨-, -, e⟩
          · exact absurd q.1 hb36
          · rw [e, flt_6]
        · unfold stpP; dsimp only; rw [if_neg (by decide), if_pos rfl, if_pos hb36]
      · rw [b32_n, decide_eq_true_eq] at hb36
        have hfg := nmF_fig hb36
        have hlt : isLt (t (itP t L s_ k_)) = false := by
          have := hfg.2.1
          simp only [isDg, decide_eq_true_eq] at this
          exact isLt_f (by omega)
        obtain ⟨-, er, eI⟩ : nmF t L (itP t L s_ k_) 0 11 = 0 ∧ r27 = nI (nmV t L (itP t L s_ k_)) ∧ I27 = I2 := by
          rcases h27 with q | q
          · exact q
          · exact absurd hb36 q.1
        subst er
        have eI := eI.symm
        subst eI
        have hM2 : FcM I2 38 Φ := hM.ofP hG2.P
        have hac2 : AcM I2 a := hac.ofG hG2
        refine r_iload C 0 (dk oX3_readItem 19 rfl) rfl ?_
        refine r_isi C Z (dk oX3_readItem 20 rfl) cl_X3_81 st_X9_isFact (c_X9_isFact I2 J (nI (nmV t L (itP t L s_ k_)))) rfl rfl (Nat.le_of_ble_eq_true rfl) ⟨Nat.le_of_ble_eq_true rfl, Nat.le_of_ble_eq_true rfl⟩ ⟨Nat.zero_le _, Nat.zero_le _⟩ (fun r41 I41 J41 h41 => ?_)
        obtain ⟨h41, e1_, e2_⟩ := h41
        have e1_ := e1_.symm
        have e2_ := e2_.symm
        subst e1_
        subst e2_
        subst h41
        refine r_if_ne (tgt := 48) C (dk oX3_readItem 21 rfl) (by decide) (fun hb44 => ?_) (fun hb44 => absurd hb44 (by rw [b32_n, decide_eq_true_eq]; exact ⟨nI_pos' (by omega), nI_lt (by omega) (by decide)⟩))
        refine r_aload_n C 2 (dk oX3_readItem 23 rfl) rfl ?_
        refine r_getR C (dk oX3_readItem 24 rfl) fl_X3_9 rfl (kn hn rfl) ?_
        refine r_iload C 0 (dk oX3_readItem 25 rfl) rfl ?_
        refine r_iald C _ (dk oX3_readItem 26 rfl) rfl (kn hn rfl) rfl (by omega) (by decide) ?_
        rw [hac2 _ (by omega)]
        have ha6 := ha (nmV t L (itP t L s_ k_))
        refine r_if_eq (tgt := 66) C (dk oX3_readItem 27 rfl) (by decide) (fun hb55 => ?_) (fun hb55 => ?_)
        · simp (disch := omega) only [nI_leI, nI_ltI, nI_eq, nI_eq0] at hb55
          refine r_aload_n C 4 (dk oX3_readItem 32 rfl) rfl ?_
          refine r_iload C 0 (dk oX3_readItem 33 rfl) rfl ?_
          refine r_iload C 1 (dk oX3_readItem 34 rfl) rfl ?_
          refine r_iload_n C 5 (dk oX3_readItem 35 rfl) rfl ?_
          refine r_ivi C Z (dk oX3_readItem 36 rfl) cl_X3_85 ci_X2_allow rfl (kn hn rfl) (c38_X2_allow hn I2 J (nmV t L (itP t L s_ k_)) (itA t L s_ k_) p_ (by omega) ⟨itA_pos hk0.1, itA_le hk0.2⟩) rfl rfl (Nat.le_of_ble_eq_true rfl) ⟨Nat.le_of_ble_eq_true rfl, Nat.le_of_ble_eq_true rfl⟩ ⟨Nat.zero_le _, Nat.zero_le _⟩ (fun r72 I72 J72 h72 => ?_)
          obtain ⟨h72, e1_, e2_⟩ := h72
          have e1_ := e1_.symm
          have e2_ := e2_.symm
          subst e1_
          subst e2_
          subst h72
          rw [show alw (itA t L s_ k_) p_ (fun i => I2 (38 + 1 + i) (nmV t L (itP t L s_ k_))) = alw (itA t L s_ k_) p_ (Φ (nmV t L (itP t L s_ k_))) from alw_cong (hM2 _ (by omega) 0 (by decide)) (hM2 _ (by omega) 2 (by decide))]
          refine r_if_ne (tgt := 86) C (dk oX3_readItem 37 rfl) (by decide) (fun hb75 => ?_) (fun hb75 => ?_)
          · rw [b32_n] at hb75
            refine r_aload_n C 2 (dk oX3_readItem 42 rfl) rfl ?_
            refine r_getR C (dk oX3_readItem 43 rfl) fl_X3_9 rfl (kn hn rfl) ?_
            refine r_iload C 0 (dk oX3_readItem 44 rfl) rfl ?_
            refine r_iload C 1 (dk oX3_readItem 45 rfl) rfl ?_
            refine r_iast C _ (dk oX3_readItem 46 rfl) rfl (kn hn rfl) rfl (by omega) (by decide) ?_
            refine r_aload_n C 3 (dk oX3_readItem 47 rfl) rfl ?_
            refine r_ivv C Z (dk oX3_readItem 48 rfl) cl_X3_47 ci_X8_next rfl (kn hn rfl) (c_X8_next hn _ J t L ⟨(hT.ofG hG2).1, by rw [up2_ne (by decide)]; exact (hT.ofG hG2).2.1, fun j hj => by rw [up2_ne (by decide)]; exact (hT.ofG hG2).2.2 j hj⟩ (nE t L (itP t L s_ k_)) (nE_le hk2.1) (by rw [up2_ne (by decide), hk2.2.2.2, (tkK_2 hfg.1 hlt hfg.2.1).2])) rfl rfl (Nat.le_of_ble_eq_true rfl) ⟨Nat.le_of_ble_eq_true rfl, Nat.le_of_ble_eq_true rfl⟩ ⟨Nat.zero_le _, Nat.zero_le _⟩ (fun I96 J96 h96 => ?_)
            obtain ⟨hF96, hk96, e2_⟩ := h96
            have e2_ := e2_.symm
            subst e2_
            refine hret (dk oX3_readItem 49 rfl) ?_
            have d10 : ¬ (1 : Nat) = 0 := by decide
            first
              | (refine ⟨rfl, (hG2.trans (flt_G _ _ _)).P, by rw [(hG2.trans (flt_G _ _ _)).1 6 (by decide)], Or.inl ⟨4, itP t L s_ k_, ks, k_, a, by decide, by decide, flt_5 _ _ _, flt_6 _ _ _, rchP.one ?_⟩⟩
                 unfold stpP; dsimp only; rw [if_neg d10, if_pos rfl, if_neg (by rw [hb36]; decide), if_pos hb55])
              | (refine ⟨rfl, (hG2.trans (flt_G _ _ _)).P, by rw [(hG2.trans (flt_G _ _ _)).1 6 (by decide)], Or.inl ⟨5, itP t L s_ k_, ks, k_, a, by decide, by decide, flt_5 _ _ _, flt_6 _ _ _, rchP.one ?_⟩⟩
                 unfold stpP; dsimp only; rw [if_neg d10, if_pos rfl, if_neg (by rw [hb36]; decide), if_neg (by rw [hb55]; decide), if_pos hb75])
              | (have hPF : paF I2 (up2 I2 7 (nmV t L (itP t L s_ k_)) (nI (itA t L s_ k_))) := ⟨fun k a b c => up2_ne c, by rw [up2_ne (by decide)]⟩
                 refine ⟨rfl, (hG2.P.trans hPF).trans hF96.G.P, by rw [hF96.1 6 (by decide), up2_ne (by decide), hG2.1 6 (by decide)], Or.inr ⟨sk t L (nE t L (itP t L s_ k_)), fun f => if f = nmV t L (itP t L s_ k_) then itA t L s_ k_ else a f, ⟨?_, ?_, hk96, fun f hf => ?_⟩, ?_, rchP.one ?_⟩⟩
                 · rw [hF96.2 5 (by decide) (by decide) (by decide), up2_ne (by decide)]; exact h25
                 · rw [hF96.2 6 (by decide) (by decide) (by decide), up2_ne (by decide)]; exact h26
                 · rw [hF96.1 7 (by decide)]
                   show _ = nI (if f = nmV t L (itP t L s_ k_) then itA t L s_ k_ else a f)
                   by_cases e : f = nmV t L (itP t L s_ k_)
                   · rw [e, up2_at, if_pos rfl]
                   · rw [up2_off e, if_neg e]; exact hac2 f hf
                 · have := @sk_ge t L (nE t L (itP t L s_ k_))
                   omega
                 · unfold stpP; dsimp only; rw [if_neg d10, if_pos rfl, if_neg (by rw [hb36]; decide), if_neg (by rw [hb55]; decide), if_neg (by rw [hb75]; decide)])
          · rw [b32_0] at hb75
            refine r_aload_n C 3 (dk oX3_readItem 38 rfl) rfl ?_
            refine r_iconst C (dk oX3_readItem 39 rfl) (v := nI 5) (by decide) ?_
            refine r_ivv C Z (dk oX3_readItem 40 rfl) cl_X3_39 ci_X8_fail rfl (kn hn rfl) (c_X8_fail hn I2 J 5 0 (itP t L s_ k_) (by decide) h25 hk2.2.2.1) rfl rfl (Nat.le_of_ble_eq_true rfl) ⟨Nat.le_of_ble_eq_true rfl, Nat.le_of_ble_eq_true rfl⟩ ⟨Nat.zero_le _, Nat.zero_le _⟩ (fun I80 J80 h80 => ?_)
            obtain ⟨e1_, e2_⟩ := h80
            rw [if_pos rfl] at e1_
            have e1_ := e1_.symm
            have e2_ := e2_.symm
            subst e1_
            subst e2_
            refine r_goto (tgt := 99) C (dk oX3_readItem 41 rfl) (by decide) ?_
            refine hret (dk oX3_readItem 49 rfl) ?_
            have d10 : ¬ (1 : Nat) = 0 := by decide
            first
              | (refine ⟨rfl, (hG2.trans (flt_G _ _ _)).P, by rw [(hG2.trans (flt_G _ _ _)).1 6 (by decide)], Or.inl ⟨4, itP t L s_ k_, ks, k_, a, by decide, by decide, flt_5 _ _ _, flt_6 _ _ _, rchP.one ?_⟩⟩
                 unfold stpP; dsimp only; rw [if_neg d10, if_pos rfl, if_neg (by rw [hb36]; decide), if_pos hb55])
              | (refine ⟨rfl, (hG2.trans (flt_G _ _ _)).P, by rw [(hG2.trans (flt_G _ _ _)).1 6 (by decide)], Or.inl ⟨5, itP t L s_ k_, ks, k_, a, by decide, by decide, flt_5 _ _ _, flt_6 _ _ _, rchP.one ?_⟩⟩
                 unfold stpP; dsimp only; rw [if_neg d10, if_pos rfl, if_neg (by rw [hb36]; decide), if_neg (by rw [hb55]; decide), if_pos hb75])
              | (have hPF : paF I2 (up2 I2 7 (nmV t L (itP t L s_ k_)) (nI (itA t L s_ k_))) := ⟨fun k a b c => up2_ne c, by rw [up2_ne (by decide)]⟩
                 refine ⟨rfl, (hG2.P.trans hPF).trans hF96.G.P, by rw [hF96.1 6 (by decide), up2_ne (by decide), hG2.1 6 (by decide)], Or.inr ⟨sk t L (nE t L (itP t L s_ k_)), fun f => if f = nmV t L (itP t L s_ k_) then itA t L s_ k_ else a f, ⟨?_, ?_, hk96, fun f hf => ?_⟩, ?_, rchP.one ?_⟩⟩
                 · rw [hF96.2 5 (by decide) (by decide) (by decide), up2_ne (by decide)]; exact h25
                 · rw [hF96.2 6 (by decide) (by decide) (by decide), up2_ne (by decide)]; exact h26
                 · rw [hF96.1 7 (by decide)]
                   show _ = nI (if f = nmV t L (itP t L s_ k_) then itA t L s_ k_ else a f)
                   by_cases e : f = nmV t L (itP t L s_ k_)
                   · rw [e, up2_at, if_pos rfl]
                   · rw [up2_off e, if_neg e]; exact hac2 f hf
                 · have := @sk_ge t L (nE t L (itP t L s_ k_))
                   omega
                 · unfold stpP; dsimp only; rw [if_neg d10, if_pos rfl, if_neg (by rw [hb36]; decide), if_neg (by rw [hb55]; decide), if_neg (by rw [hb75]; decide)])
        · simp (disch := omega) only [nI_leI, nI_ltI, nI_eq, nI_eq0] at hb55
          refine r_aload_n C 3 (dk oX3_readItem 28 rfl) rfl ?_
          refine r_iconst C (dk oX3_readItem 29 rfl) (v := nI 4) (by decide) ?_
          refine r_ivv C Z (dk oX3_readItem 30 rfl) cl_X3_39 ci_X8_fail rfl (kn hn rfl) (c_X8_fail hn I2 J 4 0 (itP t L s_ k_) (by decide) h25 hk2.2.2.1) rfl rfl (Nat.le_of_ble_eq_true rfl) ⟨Nat.le_of_ble_eq_true rfl, Nat.le_of_ble_eq_true rfl⟩ ⟨Nat.zero_le _, Nat.zero_le _⟩ (fun I60 J60 h60 => ?_)
          obtain ⟨e1_, e2_⟩ := h60
          rw [if_pos rfl] at e1_
          have e1_ := e1_.symm
          have e2_ := e2_.symm
          subst e1_
          subst e2_
          refine r_goto (tgt := 99) C (dk oX3_readItem 31 rfl) (by decide) ?_
          refine hret (dk oX3_readItem 49 rfl) ?_
          have d10 : ¬ (1 : Nat) = 0 := by decide
          first
            | (refine ⟨rfl, (hG2.trans (flt_G _ _ _)).P, by rw [(hG2.trans (flt_G _ _ _)).1 6 (by decide)], Or.inl ⟨4, itP t L s_ k_, ks, k_, a, by decide, by decide, flt_5 _ _ _, flt_6 _ _ _, rchP.one ?_⟩⟩
               unfold stpP; dsimp only; rw [if_neg d10, if_pos rfl, if_neg (by rw [hb36]; decide), if_pos hb55])
            | (refine ⟨rfl, (hG2.trans (flt_G _ _ _)).P, by rw [(hG2.trans (flt_G _ _ _)).1 6 (by decide)], Or.inl ⟨5, itP t L s_ k_, ks, k_, a, by decide, by decide, flt_5 _ _ _, flt_6 _ _ _, rchP.one ?_⟩⟩
               unfold stpP; dsimp only; rw [if_neg d10, if_pos rfl, if_neg (by rw [hb36]; decide), if_neg (by rw [hb55]; decide), if_pos hb75])
            | (have hPF : paF I2 (up2 I2 7 (nmV t L (itP t L s_ k_)) (nI (itA t L s_ k_))) := ⟨fun k a b c => up2_ne c, by rw [up2_ne (by decide)]⟩
               refine ⟨rfl, (hG2.P.trans hPF).trans hF96.G.P, by rw [hF96.1 6 (by decide), up2_ne (by decide), hG2.1 6 (by decide)], Or.inr ⟨sk t L (nE t L (itP t L s_ k_)), fun f => if f = nmV t L (itP t L s_ k_) then itA t L s_ k_ else a f, ⟨?_, ?_, hk96, fun f hf => ?_⟩, ?_, rchP.one ?_⟩⟩
               · rw [hF96.2 5 (by decide) (by decide) (by decide), up2_ne (by decide)]; exact h25
               · rw [hF96.2 6 (by decide) (by decide) (by decide), up2_ne (by decide)]; exact h26
               · rw [hF96.1 7 (by decide)]
                 show _ = nI (if f = nmV t L (itP t L s_ k_) then itA t L s_ k_ else a f)
                 by_cases e : f = nmV t L (itP t L s_ k_)
                 · rw [e, up2_at, if_pos rfl]
                 · rw [up2_off e, if_neg e]; exact hac2 f hf
               · have := @sk_ge t L (nE t L (itP t L s_ k_))
                 omega
               · unfold stpP; dsimp only; rw [if_neg d10, if_pos rfl, if_neg (by rw [hb36]; decide), if_neg (by rw [hb55]; decide), if_neg (by rw [hb75]; decide)])

set_option maxHeartbeats 1000000 in
set_option maxRecDepth 100000 in
theorem c_X3_readClause (hn : 117 ≤ n) (I : MI) (J : MJ) (t : Nat → Nat) (L : Nat) (hT : Tx I t L) (p_ s_ ks k0 : Nat) (hp : p_ < 10) (hks : ks < 128) (h61 : I 6 1 = nI ks) (a : Nat → Nat) (ha : ∀ f, a f ≤ 6) (Φ : Nat → FS) (hM : FcM I 38 Φ) (hS : paS t L s_ a I) (hsL : s_ < L) : Cv l n ad cA D z 7 yX3_readClause cX3_readClause 6 I J [.ref (ad 6), .ref (ad 1), .ref (ad 38), .int (nI (p_ % 2))] (fun I' J' => J' = J ∧ paF I I' ∧ (paBad (stpP t L p_ Φ) (0, s_, ks, k0, a) I' ∨ paClause t L p_ Φ s_ ks k0 a I')) := by
  refine Cv.of (by decide) (Nat.le_of_ble_eq_true rfl) ?_
  intro p e s m args below meth c A C hin Z Q hret
  obtain ⟨h5, h6, hk, hac⟩ := hS
  have hkl := @kdOf_lt t L s_
  have hL := hT.1
  obtain ⟨g, hg⟩ : ∃ g, g = stpP t L p_ Φ := ⟨_, rfl⟩
  refine r_aload_n C 1 (dk oX3_readClause 0 rfl) rfl ?_
  refine r_isi C Z (dk oX3_readClause 1 rfl) cl_X3_35 st_X3_kindHere (c_X3_kindHere hn I J t L hT s_ hk) rfl rfl (Nat.le_of_ble_eq_true rfl) ⟨Nat.le_of_ble_eq_true rfl, Nat.le_of_ble_eq_true rfl⟩ ⟨Nat.zero_le _, Nat.zero_le _⟩ (fun r1 I1 J1 h1 => ?_)
  obtain ⟨h1, e1_, e2_⟩ := h1
  have e1_ := e1_.symm
  have e2_ := e2_.symm
  subst e1_
  subst e2_
  subst h1
  refine r_istore (lo' := [(4, _), (0, _), (1, _), (2, _), (3, _)]) C (dk oX3_readClause 2 rfl) (by decide) rfl ?_
  refine r_iload C 0 (dk oX3_readClause 3 rfl) rfl ?_
  refine r_if_ne (tgt := 17) C (dk oX3_readClause 4 rfl) (by decide) (fun hb8 => ?_) (fun hb8 => ?_)
  · simp (disch := omega) only [nI_leI, nI_ltI, nI_eq, nI_eq0] at hb8
    have hw := kdOf_w hb8
    refine r_aload_n C 1 (dk oX3_readClause 9 rfl) rfl ?_
    refine r_getI C (dk oX3_readClause 10 rfl) fl_X3_15 rfl (kn hn rfl) ?_
    rw [h61]
    refine r_iload C 0 (dk oX3_readClause 11 rfl) rfl ?_
    refine r_isi C Z (dk oX3_readClause 12 rfl) cl_X3_43 st_X9_has (c_X9_has I J ks (kdOf t L s_) (by omega) (by omega)) rfl rfl (Nat.le_of_ble_eq_true rfl) ⟨Nat.le_of_ble_eq_true rfl, Nat.le_of_ble_eq_true rfl⟩ ⟨Nat.zero_le _, Nat.zero_le _⟩ (fun r23 I23 J23 h23 => ?_)
    obtain ⟨h23, e1_, e2_⟩ := h23
    have e1_ := e1_.symm
    have e2_ := e2_.symm
    subst e1_
    subst e2_
    subst h23
    refine r_if_eq (tgt := 35) C (dk oX3_readClause 13 rfl) (by decide) (fun hb26 => ?_) (fun hb26 => ?_)
    · rw [b32_0] at hb26
      refine r_aload_n C 1 (dk oX3_readClause 18 rfl) rfl ?_
      refine r_dup C (dk oX3_readClause 19 rfl) rfl ?_
      refine r_getI C (dk oX3_readClause 20 rfl) fl_X3_15 rfl (kn hn rfl) ?_
      rw [h61]
      refine r_iconst C (dk oX3_readClause 21 rfl) (v := nI 1) (by decide) ?_
      refine r_iload C 0 (dk oX3_readClause 22 rfl) rfl ?_
      refine r_ishl C (dk oX3_readClause 23 rfl) ?_
      refine r_ior C (dk oX3_readClause 24 rfl) ?_
      rw [or_bit (by omega)]
      refine r_putI C (dk oX3_readClause 25 rfl) fl_X3_15 ft_3_1 rfl (kn hn rfl) ?_
      generalize hI3 : up2 I 6 1 (nI (ks ||| 2 ^ kdOf t L s_)) = I3
      have hPF3 : paF I I3 := by rw [← hI3]; exact ⟨fun k a b c => up2_ne b, by rw [up2_ne (by decide)]⟩
      have e31 : I3 1 = I 1 := by rw [← hI3]; exact up2_ne (by decide)
      have e37 : I3 7 = I 7 := by rw [← hI3]; exact up2_ne (by decide)
      have e36 : I3 6 1 = nI (ks ||| 2 ^ kdOf t L s_) := by rw [← hI3]; exact up2_at
      refine r_aload_n C 2 (dk oX3_readClause 26 rfl) rfl ?_
      refine r_ivv C Z (dk oX3_readClause 27 rfl) cl_X3_47 ci_X8_next rfl (kn hn rfl) (c_X8_next hn I3 J t L (hT.ofP hPF3) (wE t L s_) (wE_le hk.1) (by rw [e31, hk.2.2.2, (tkK_1 hw.1 hw.2).2])) rfl rfl (Nat.le_of_ble_eq_true rfl) ⟨Nat.le_of_ble_eq_true rfl, Nat.le_of_ble_eq_true rfl⟩ ⟨Nat.zero_le _, Nat.zero_le _⟩ (fun I49 J49 h49 => ?_)
      obtain ⟨hF4, hk4, e2_⟩ := h49
      have e2_ := e2_.symm
      subst e2_
      generalize I49 = I4 at hF4 hk4
      have hP4 : paF I I4 := hPF3.trans hF4.G.P
      have h46 : I4 6 1 = nI (ks ||| 2 ^ kdOf t L s_) := by rw [hF4.1 6 (by decide)]; exact e36
      have hS4 : paS t L (sk t L (wE t L s_)) a I4 := ⟨by rw [hF4.2 5 (by decide) (by decide) (by decide), e31]; exact h5, by rw [hF4.2 6 (by decide) (by decide) (by decide), e31]; exact h6, hk4, fun f hf => by rw [hF4.1 7 (by decide), e37]; exact hac f hf⟩
      have hst0 : g (0, s_, ks, k0, a) = (1, sk t L (wE t L s_), ks ||| 2 ^ kdOf t L s_, kdOf t L s_, a) := by
        rw [hg]; unfold stpP; dsimp only; rw [if_pos rfl, if_neg (by omega), if_neg hb8, if_neg (by rw [hb26]; decide)]
      have hsk := @sk_ge t L (wE t L s_)
      have hwe := @wE_ge t L s_
      have hwi := wE_in hw.1 hw.2
      have hwg := @wE_ge t L (s_ + 1)
      refine r_aload_n C 1 (dk oX3_readClause 28 rfl) rfl ?_
      refine r_aload_n C 2 (dk oX3_readClause 29 rfl) rfl ?_
      refine r_aload_n C 3 (dk oX3_readClause 30 rfl) rfl ?_
      refine r_iload_n C 4 (dk oX3_readClause 31 rfl) rfl ?_
      refine r_iload C 0 (dk oX3_readClause 32 rfl) rfl ?_
      refine r_ivv C Z (dk oX3_readClause 33 rfl) cl_X3_50 ci_X3_readItem rfl (kn hn rfl) (c_X3_readItem hn I4 J t L (hT.ofP hP4) p_ (sk t L (wE t L s_)) (ks ||| 2 ^ kdOf t L s_) (kdOf t L s_) hp ⟨by omega, hkl⟩ a ha Φ (hM.ofP hP4) hS4) rfl rfl (Nat.le_of_ble_eq_true rfl) ⟨Nat.le_of_ble_eq_true rfl, Nat.le_of_ble_eq_true rfl⟩ ⟨Nat.zero_le _, Nat.zero_le _⟩ (fun I58 J58 h58 => ?_)
      obtain ⟨e2_, hP58, h586, h58⟩ := h58
      have e2_ := e2_.symm
      subst e2_
      rw [← hg] at h58
      have hI0 : paItemI t L p_ Φ (0, s_, ks, k0, a) (ks ||| 2 ^ kdOf t L s_) (kdOf t L s_) (s_ + 0) I58 := by
        rcases h58 with q | ⟨s2, a2, q1, q2, q3⟩
        · obtain ⟨f, s2, ks2, k2, a2, g1, g2, g3, g4, g5⟩ := id q
          exact ⟨f, g2, g3, fun _ => by rw [← hg]; exact q.to (rchP.one hst0), fun e => by omega⟩
        · exact ⟨0, by decide, q1.1, fun e => absurd rfl e, fun _ => ⟨s2, a2, q1, by omega, by rw [← hg] at q3 ⊢; exact (rchP.one hst0).trans q3⟩⟩
      refine r_iconst C (dk oX3_readClause 34 rfl) (v := nI 0) (by decide) ?_
      refine r_istore (lo' := [(5, _), (4, _), (0, _), (1, _), (2, _), (3, _)]) C (dk oX3_readClause 35 rfl) (by decide) rfl ?_
      have L64 : ∀ (d_ : Nat) (n_ : Nat) (I1 : MI), 160 - n_ < d_ → n_ ≤ 160 → paF I I1 → I1 6 1 = nI (ks ||| 2 ^ kdOf t L s_) → paItemI t L p_ Φ (0, s_, ks, k0, a) (ks ||| 2 ^ kdOf t L s_) (kdOf t L s_) (s_ + n_) I1 → V p l e (rmL 7) s m args below meth c Q D A 6 0 0 n ad (mE cA ad I1 J) 64 [(0, .ref (ad 6)), (1, .ref (ad 1)), (2, .ref (ad 38)), (3, .int (nI (p_ % 2))), (4, .int (nI (kdOf t L s_))), (5, .int (nI n_))] [] := by
        intro d_
        induction d_ with
        | zero => intros; exact absurd (by assumption) (Nat.not_lt_zero _)
        | succ d_ ih => 
          intro n_ I1 hd_ hnn hP1 h161 hI
          obtain ⟨fn, hfn, g1, gbad, gok⟩ := id hI
          obtain ⟨s2, hs2⟩ : ∃ s2, fn = 0 → Tk I1 t L s2 := by
            by_cases e : fn = 0
            · obtain ⟨s2, a2, q1, -⟩ := gok e
              exact ⟨s2, fun _ => q1.2.2.1⟩
            · exact ⟨0, fun q => absurd q e⟩
          refine r_iload C 5 (dk oX3_readClause 36 rfl) rfl ?_
          refine r_sipush C (dk oX3_readClause 37 rfl) (v := nI 160) (by decide) ?_
          refine r_icmp_ge (tgt := 96) C (dk oX3_readClause 38 rfl) (by decide) (fun hb69 => ?_) (fun hb69 => ?_)
          · simp (disch := omega) only [nI_leI, nI_ltI, nI_eq, nI_eq0] at hb69
            have hq1 : ¬ (fn = 0 ∧ isS t L s2 44 = true) := by
              rintro ⟨e0, -⟩
              obtain ⟨s4, a4, p1, p2, p3⟩ := gok e0
              have := p1.2.2.1.1
              omega
            refine r_aload_n C 1 (dk oX3_readClause 51 rfl) rfl ?_
            refine r_bipush C (dk oX3_readClause 52 rfl) (v := nI 59) (by decide) ?_
            refine r_ivi C Z (dk oX3_readClause 53 rfl) cl_X3_54 ci_X8_takesSign rfl (kn hn rfl) (c_X8_takesSign hn I1 J t L (hT.ofP hP1) s2 59 fn (by omega) g1 hs2 (by decide) (by decide) (by decide)) rfl rfl (Nat.le_of_ble_eq_true rfl) ⟨Nat.le_of_ble_eq_true rfl, Nat.le_of_ble_eq_true rfl⟩ ⟨Nat.zero_le _, Nat.zero_le _⟩ (fun r99 I99 J99 h99 => ?_)
            refine r_if_ne (tgt := 110) C (dk oX3_readClause 54 rfl) (by decide) (fun hb102 => ?_) (fun hb102 => ?_)
            · obtain ⟨e0, q2, q3, q4, e2_⟩ : fn = 0 ∧ isS t L s2 59 = true ∧ txF I1 I99 ∧ Tk I99 t L (sk t L (s2 + 1)) ∧ J99 = J := by
                rcases h99 with ⟨q1, q2, q3, q4⟩ | ⟨q1, q2, q3⟩
                · exact ⟨q1, q2, q4⟩
                · rw [q2] at hb102; exact absurd rfl hb102
              have hks2 := or_lt128 hks hkl
              have fin : J99 = J ∧ paF I I99 ∧ (paBad g (0, s_, ks, k0, a) I99 ∨ paClause t L p_ Φ s_ ks k0 a I99) := by
                obtain ⟨s4, a4, p1, p2, p3⟩ := gok e0
                have es : s4 = s2 := by
                  have e := p1.2.2.1.2.2.1.symm.trans (hs2 e0).2.2.1
                  have a1 := p1.2.2.1.1
                  have a2 := (hs2 e0).1
                  rwa [nI_eq (by omega) (by omega)] at e
                subst es
                refine ⟨e2_, hP1.trans q3.G.P, Or.inr ⟨sk t L (s4 + 1), ks ||| 2 ^ kdOf t L s_, kdOf t L s_, a4, ⟨by rw [q3.2 5 (by decide) (by decide) (by decide), g1, e0], by rw [q3.2 6 (by decide) (by decide) (by decide)]; exact p1.2.1, q4, p1.2.2.2.ofG q3.G⟩, hks2, by rw [q3.1 6 (by decide)]; exact h161, ?_, p3.then ?_⟩⟩
                · exact Nat.lt_of_lt_of_le (Nat.lt_of_le_of_lt (Nat.le_add_right s_ n_) p2) (Nat.le_trans (Nat.le_succ s4) sk_ge)
                · unfold stpP; dsimp only; rw [if_neg (by decide), if_neg (by decide), if_pos rfl, if_neg (by rw [isS_ne q2 (by decide)]; decide), if_pos q2]
              rw [hg] at fin
              refine hret (dk oX3_readClause 58 rfl) ?_
              first
                | exact fin
                | (by_cases e0 : fn = 0
                   · obtain ⟨s4, a4, p1, p2, p3⟩ := gok e0
                     have es : s4 = s2 := by
                       have e := p1.2.2.1.2.2.1.symm.trans (hs2 e0).2.2.1
                       have a1 := p1.2.2.1.1
                       have a2 := (hs2 e0).1
                       rwa [nI_eq (by omega) (by omega)] at e
                     subst es
                     rw [if_pos e0]
                     have e9 : flt I1 1 s9 = flt I1 1 s4 := by unfold flt; rw [← hs9, p1.2.2.1.2.2.1]
                     rw [e9]
                     refine ⟨rfl, hP1.trans (flt_G _ _ _).P, Or.inl ⟨1, s4, ks ||| 2 ^ kdOf t L s_, kdOf t L s_, a4, by decide, by decide, flt_5 _ _ _, flt_6 _ _ _, p3.then ?_⟩⟩
                     unfold stpP; dsimp only; rw [if_neg (by decide), if_neg (by decide), if_pos rfl, if_neg (fun z => hq1 ⟨e0, z⟩), if_neg (fun z => hq2 ⟨e0, z⟩)]
                   · rw [if_neg e0]
                     exact ⟨rfl, hP1, Or.inl (gbad e0)⟩)
            · obtain ⟨hq2, e1_, e2_⟩ : ¬ (fn = 0 ∧ isS t L s2 59 = true) ∧ I99 = I1 ∧ J99 = J := by
                rcases h99 with ⟨q1, q2, q3, q4⟩ | ⟨q1, q2, q3⟩
                · rw [q3] at hb102; exact absurd hb102 (by decide)
                · exact ⟨q1, q3⟩
              have e1_ := e1_.symm
              have e2_ := e2_.symm
              subst e1_
              subst e2_
              obtain ⟨s9, hs9⟩ := ex_nI (I1 1 3)
              refine r_aload_n C 1 (dk oX3_readClause 55 rfl) rfl ?_
              refine r_iconst C (dk oX3_readClause 56 rfl) (v := nI 1) (by decide) ?_
              refine r_ivv C Z (dk oX3_readClause 57 rfl) cl_X3_39 ci_X8_fail rfl (kn hn rfl) (c_X8_fail hn I1 J 1 fn s9 (by omega) g1 hs9) rfl rfl (Nat.le_of_ble_eq_true rfl) ⟨Nat.le_of_ble_eq_true rfl, Nat.le_of_ble_eq_true rfl⟩ ⟨Nat.zero_le _, Nat.zero_le _⟩ (fun I107 J107 h107 => ?_)
              obtain ⟨e1_, e2_⟩ := h107
              have e1_ := e1_.symm
              have e2_ := e2_.symm
              subst e1_
              subst e2_
              refine hret (dk oX3_readClause 58 rfl) ?_
              first
                | exact fin
                | (by_cases e0 : fn = 0
                   · obtain ⟨s4, a4, p1, p2, p3⟩ := gok e0
                     have es : s4 = s2 := by
                       have e := p1.2.2.1.2.2.1.symm.trans (hs2 e0).2.2.1
                       have a1 := p1.2.2.1.1
                       have a2 := (hs2 e0).1
                       rwa [nI_eq (by omega) (by omega)] at e
                     subst es
                     rw [if_pos e0]
                     have e9 : flt I1 1 s9 = flt I1 1 s4 := by unfold flt; rw [← hs9, p1.2.2.1.2.2.1]
                     rw [e9]
                     refine ⟨rfl, hP1.trans (flt_G _ _ _).P, Or.inl ⟨1, s4, ks ||| 2 ^ kdOf t L s_, kdOf t L s_, a4, by decide, by decide, flt_5 _ _ _, flt_6 _ _ _, p3.then ?_⟩⟩
                     unfold stpP; dsimp only; rw [if_neg (by decide), if_neg (by decide), if_pos rfl, if_neg (fun z => hq1 ⟨e0, z⟩), if_neg (fun z => hq2 ⟨e0, z⟩)]
                   · rw [if_neg e0]
                     exact ⟨rfl, hP1, Or.inl (gbad e0)⟩)
          · simp (disch := omega) only [nI_leI, nI_ltI, nI_eq, nI_eq0] at hb69
            have qm1 : 160 - (n_ + 1) < d_ := by clear gok gbad hI hs2 hI0 h58; omega
            have qm2 : n_ + 1 ≤ 160 := by clear gok gbad hI hs2 hI0 h58; omega
            refine r_aload_n C 1 (dk oX3_readClause 39 rfl) rfl ?_
            refine r_bipush C (dk oX3_readClause 40 rfl) (v := nI 44) (by decide) ?_
            refine r_ivi C Z (dk oX3_readClause 41 rfl) cl_X3_54 ci_X8_takesSign rfl (kn hn rfl) (c_X8_takesSign hn I1 J t L (hT.ofP hP1) s2 44 fn (by omega) g1 hs2 (by decide) (by decide) (by decide)) rfl rfl (Nat.le_of_ble_eq_true rfl) ⟨Nat.le_of_ble_eq_true rfl, Nat.le_of_ble_eq_true rfl⟩ ⟨Nat.zero_le _, Nat.zero_le _⟩ (fun r75 I75 J75 h75 => ?_)
            refine r_if_eq (tgt := 96) C (dk oX3_readClause 42 rfl) (by decide) (fun hb78 => ?_) (fun hb78 => ?_)
            · obtain ⟨hq1, e1_, e2_⟩ : ¬ (fn = 0 ∧ isS t L s2 44 = true) ∧ I75 = I1 ∧ J75 = J := by
                rcases h75 with ⟨q1, q2, q3, q4⟩ | ⟨q1, q2, q3⟩
                · rw [q3] at hb78; exact absurd hb78 (by decide)
                · exact ⟨q1, q3⟩
              have e1_ := e1_.symm
              have e2_ := e2_.symm
              subst e1_
              subst e2_
              refine r_aload_n C 1 (dk oX3_readClause 51 rfl) rfl ?_
              refine r_bipush C (dk oX3_readClause 52 rfl) (v := nI 59) (by decide) ?_
              refine r_ivi C Z (dk oX3_readClause 53 rfl) cl_X3_54 ci_X8_takesSign rfl (kn hn rfl) (c_X8_takesSign hn I1 J t L (hT.ofP hP1) s2 59 fn (by omega) g1 hs2 (by decide) (by decide) (by decide)) rfl rfl (Nat.le_of_ble_eq_true rfl) ⟨Nat.le_of_ble_eq_true rfl, Nat.le_of_ble_eq_true rfl⟩ ⟨Nat.zero_le _, Nat.zero_le _⟩ (fun r99 I99 J99 h99 => ?_)
              refine r_if_ne (tgt := 110) C (dk oX3_readClause 54 rfl) (by decide) (fun hb102 => ?_) (fun hb102 => ?_)
              · obtain ⟨e0, q2, q3, q4, e2_⟩ : fn = 0 ∧ isS t L s2 59 = true ∧ txF I1 I99 ∧ Tk I99 t L (sk t L (s2 + 1)) ∧ J99 = J := by
                  rcases h99 with ⟨q1, q2, q3, q4⟩ | ⟨q1, q2, q3⟩
                  · exact ⟨q1, q2, q4⟩
                  · rw [q2] at hb102; exact absurd rfl hb102
                have hks2 := or_lt128 hks hkl
                have fin : J99 = J ∧ paF I I99 ∧ (paBad g (0, s_, ks, k0, a) I99 ∨ paClause t L p_ Φ s_ ks k0 a I99) := by
                  obtain ⟨s4, a4, p1, p2, p3⟩ := gok e0
                  have es : s4 = s2 := by
                    have e := p1.2.2.1.2.2.1.symm.trans (hs2 e0).2.2.1
                    have a1 := p1.2.2.1.1
                    have a2 := (hs2 e0).1
                    rwa [nI_eq (by omega) (by omega)] at e
                  subst es
                  refine ⟨e2_, hP1.trans q3.G.P, Or.inr ⟨sk t L (s4 + 1), ks ||| 2 ^ kdOf t L s_, kdOf t L s_, a4, ⟨by rw [q3.2 5 (by decide) (by decide) (by decide), g1, e0], by rw [q3.2 6 (by decide) (by decide) (by decide)]; exact p1.2.1, q4, p1.2.2.2.ofG q3.G⟩, hks2, by rw [q3.1 6 (by decide)]; exact h161, ?_, p3.then ?_⟩⟩
                  · exact Nat.lt_of_lt_of_le (Nat.lt_of_le_of_lt (Nat.le_add_right s_ n_) p2) (Nat.le_trans (Nat.le_succ s4) sk_ge)
                  · unfold stpP; dsimp only; rw [if_neg (by decide), if_neg (by decide), if_pos rfl, if_neg (by rw [isS_ne q2 (by decide)]; decide), if_pos q2]
                rw [hg] at fin
                refine hret (dk oX3_readClause 58 rfl) ?_
                first
                  | exact fin
                  | (by_cases e0 : fn = 0
                     · obtain ⟨s4, a4, p1, p2, p3⟩ := gok e0
                       have es : s4 = s2 := by
                         have e := p1.2.2.1.2.2.1.symm.trans (hs2 e0).2.2.1
                         have a1 := p1.2.2.1.1
                         have a2 := (hs2 e0).1
                         rwa [nI_eq (by omega) (by omega)] at e
                       subst es
                       rw [if_pos e0]
                       have e9 : flt I1 1 s9 = flt I1 1 s4 := by unfold flt; rw [← hs9, p1.2.2.1.2.2.1]
                       rw [e9]
                       refine ⟨rfl, hP1.trans (flt_G _ _ _).P, Or.inl ⟨1, s4, ks ||| 2 ^ kdOf t L s_, kdOf t L s_, a4, by decide, by decide, flt_5 _ _ _, flt_6 _ _ _, p3.then ?_⟩⟩
                       unfold stpP; dsimp only; rw [if_neg (by decide), if_neg (by decide), if_pos rfl, if_neg (fun z => hq1 ⟨e0, z⟩), if_neg (fun z => hq2 ⟨e0, z⟩)]
                     · rw [if_neg e0]
                       exact ⟨rfl, hP1, Or.inl (gbad e0)⟩)
              · obtain ⟨hq2, e1_, e2_⟩ : ¬ (fn = 0 ∧ isS t L s2 59 = true) ∧ I99 = I1 ∧ J99 = J := by
                  rcases h99 with ⟨q1, q2, q3, q4⟩ | ⟨q1, q2, q3⟩
                  · rw [q3] at hb102; exact absurd hb102 (by decide)
                  · exact ⟨q1, q3⟩
                have e1_ := e1_.symm
                have e2_ := e2_.symm
                subst e1_
                subst e2_
                obtain ⟨s9, hs9⟩ := ex_nI (I1 1 3)
                refine r_aload_n C 1 (dk oX3_readClause 55 rfl) rfl ?_
                refine r_iconst C (dk oX3_readClause 56 rfl) (v := nI 1) (by decide) ?_
                refine r_ivv C Z (dk oX3_readClause 57 rfl) cl_X3_39 ci_X8_fail rfl (kn hn rfl) (c_X8_fail hn I1 J 1 fn s9 (by omega) g1 hs9) rfl rfl (Nat.le_of_ble_eq_true rfl) ⟨Nat.le_of_ble_eq_true rfl, Nat.le_of_ble_eq_true rfl⟩ ⟨Nat.zero_le _, Nat.zero_le _⟩ (fun I107 J107 h107 => ?_)
                obtain ⟨e1_, e2_⟩ := h107
                have e1_ := e1_.symm
                have e2_ := e2_.symm
                subst e1_
                subst e2_
                refine hret (dk oX3_readClause 58 rfl) ?_
                first
                  | exact fin
                  | (by_cases e0 : fn = 0
                     · obtain ⟨s4, a4, p1, p2, p3⟩ := gok e0
                       have es : s4 = s2 := by
                         have e := p1.2.2.1.2.2.1.symm.trans (hs2 e0).2.2.1
                         have a1 := p1.2.2.1.1
                         have a2 := (hs2 e0).1
                         rwa [nI_eq (by omega) (by omega)] at e
                       subst es
                       rw [if_pos e0]
                       have e9 : flt I1 1 s9 = flt I1 1 s4 := by unfold flt; rw [← hs9, p1.2.2.1.2.2.1]
                       rw [e9]
                       refine ⟨rfl, hP1.trans (flt_G _ _ _).P, Or.inl ⟨1, s4, ks ||| 2 ^ kdOf t L s_, kdOf t L s_, a4, by decide, by decide, flt_5 _ _ _, flt_6 _ _ _, p3.then ?_⟩⟩
                       unfold stpP; dsimp only; rw [if_neg (by decide), if_neg (by decide), if_pos rfl, if_neg (fun z => hq1 ⟨e0, z⟩), if_neg (fun z => hq2 ⟨e0, z⟩)]
                     · rw [if_neg e0]
                       exact ⟨rfl, hP1, Or.inl (gbad e0)⟩)
            · obtain ⟨e0, q2, q3, q4, e2_⟩ : fn = 0 ∧ isS t L s2 44 = true ∧ txF I1 I75 ∧ Tk I75 t L (sk t L (s2 + 1)) ∧ J75 = J := by
                rcases h75 with ⟨q1, q2, q3, q4⟩ | ⟨q1, q2, q3⟩
                · exact ⟨q1, q2, q4⟩
                · rw [q2] at hb78; exact absurd rfl hb78
              have e2_ := e2_.symm
              subst e2_
              obtain ⟨s4, a4, p1, p2, p3⟩ := gok e0
              have es : s4 = s2 := by
                have e := p1.2.2.1.2.2.1.symm.trans (hs2 e0).2.2.1
                have a1 := p1.2.2.1.1
                have a2 := (hs2 e0).1
                rwa [nI_eq (by omega) (by omega)] at e
              subst es
              have ha4 : ∀ f, a4 f ≤ 6 := by
                have hsm : pSm (0, s_, ks, min k0 6, a) := ⟨Nat.min_le_right _ _, ha⟩
                have hst1 : g (0, s_, ks, min k0 6, a) = (1, sk t L (wE t L s_), ks ||| 2 ^ kdOf t L s_, kdOf t L s_, a) := by
                  rw [hg]; unfold stpP; dsimp only; rw [if_pos rfl, if_neg (by omega), if_neg hb8, if_neg (by rw [hb26]; decide)]
                intro f
                obtain ⟨kk, hkk⟩ := p3
                cases kk with
                | zero => cases hkk
                | succ kk =>
                  have hkk' : itG (stpP t L p_ Φ) kk (stpP t L p_ Φ (0, s_, ks, k0, a)) = _ := hkk
                  rw [← hg, hst0] at hkk'
                  rw [hg] at hkk'
                  exact (rchP_sm (σ := (1, sk t L (wE t L s_), ks ||| 2 ^ kdOf t L s_, kdOf t L s_, a)) ⟨hkl, ha⟩ ⟨kk, hkk'⟩).2 f
              refine r_aload_n C 0 (dk oX3_readClause 43 rfl) rfl ?_
              refine r_aload_n C 1 (dk oX3_readClause 44 rfl) rfl ?_
              refine r_aload_n C 2 (dk oX3_readClause 45 rfl) rfl ?_
              refine r_iload_n C 3 (dk oX3_readClause 46 rfl) rfl ?_
              refine r_iload C 4 (dk oX3_readClause 47 rfl) rfl ?_
              refine r_ivv C Z (dk oX3_readClause 48 rfl) cl_X3_50 ci_X3_readItem rfl (kn hn rfl) (c_X3_readItem hn I75 J t L ((hT.ofP hP1).ofG q3.G) p_ (sk t L (s4 + 1)) (ks ||| 2 ^ kdOf t L s_) (kdOf t L s_) hp ⟨Nat.pos_of_ne_zero hb8, hkl⟩ a4 ha4 Φ (hM.ofP (hP1.trans q3.G.P)) ⟨by rw [q3.2 5 (by decide) (by decide) (by decide), g1, e0], by rw [q3.2 6 (by decide) (by decide) (by decide)]; exact p1.2.1, q4, p1.2.2.2.ofG q3.G⟩) rfl rfl (Nat.le_of_ble_eq_true rfl) ⟨Nat.le_of_ble_eq_true rfl, Nat.le_of_ble_eq_true rfl⟩ ⟨Nat.zero_le _, Nat.zero_le _⟩ (fun I87 J87 h87 => ?_)
              obtain ⟨e2_, hP87, h876, h87⟩ := h87
              have e2_ := e2_.symm
              subst e2_
              refine r_iinc (lo' := [(5, _), (0, _), (1, _), (2, _), (3, _), (4, _)]) C 5 (dk oX3_readClause 49 rfl) rfl (by first | exact nI_inc _ | rfl) (by decide) rfl ?_
              refine r_goto (tgt := 64) C (dk oX3_readClause 50 rfl) (by decide) ?_
              refine V.sub [1, 2, 3, 4, 5, 0] rfl ?_
              refine ih (n_ + 1) _ qm1 qm2 ((hP1.trans q3.G.P).trans hP87) (by rw [h876, q3.1 6 (by decide)]; exact h161) ?_
              have hst2 : stpP t L p_ Φ (2, s4, ks ||| 2 ^ kdOf t L s_, kdOf t L s_, a4) = (1, sk t L (s4 + 1), ks ||| 2 ^ kdOf t L s_, kdOf t L s_, a4) := by
                unfold stpP; dsimp only; rw [if_neg (by decide), if_neg (by decide), if_pos rfl, if_pos q2]
              rcases h87 with q | ⟨s5, a5, b1, b2, b3⟩
              · have q6 := q.to (p3.then hst2)
                obtain ⟨f, s6, ks6, k6, a6, d1, d2, d3, d4, d5⟩ := id q6
                exact ⟨f, d2, d3, fun _ => q6, fun e => by omega⟩
              · refine ⟨0, by decide, b1.1, fun e => absurd rfl e, fun _ => ⟨s5, a5, b1, ?_, (p3.then hst2).trans b3⟩⟩
                have := @sk_ge t L (s4 + 1)
                omega
      refine V.sub [2, 3, 4, 5, 1, 0] rfl ?_
      exact L64 161 0 I58 (by omega) (by omega) (hP4.trans hP58) (by rw [h586]; exact h46) hI0
    · rw [b32_n] at hb26
      refine r_aload_n C 2 (dk oX3_readClause 14 rfl) rfl ?_
      refine r_iconst C (dk oX3_readClause 15 rfl) (v := nI 3) (by decide) ?_
      refine r_ivv C Z (dk oX3_readClause 16 rfl) cl_X3_39 ci_X8_fail rfl (kn hn rfl) (c_X8_fail hn I J 3 0 s_ (by decide) h5 hk.2.2.1) rfl rfl (Nat.le_of_ble_eq_true rfl) ⟨Nat.le_of_ble_eq_true rfl, Nat.le_of_ble_eq_true rfl⟩ ⟨Nat.zero_le _, Nat.zero_le _⟩ (fun I31 J31 h31 => ?_)
      obtain ⟨e1_, e2_⟩ := h31
      rw [if_pos rfl] at e1_
      have e1_ := e1_.symm
      have e2_ := e2_.symm
      subst e1_
      subst e2_
      refine hret (dk oX3_readClause 17 rfl) ?_
      refine ⟨rfl, (flt_G _ _ _).P, Or.inl ⟨3, s_, ks, k0, a, by decide, by decide, flt_5 _ _ _, flt_6 _ _ _, rchP.one ?_⟩⟩
      unfold stpP; dsimp only; rw [if_pos rfl, if_neg (by omega), if_neg hb8, if_pos hb26]
  · simp (disch := omega) only [nI_leI, nI_ltI, nI_eq, nI_eq0] at hb8
    refine r_aload_n C 2 (dk oX3_readClause 5 rfl) rfl ?_
    refine r_iconst C (dk oX3_readClause 6 rfl) (v := nI 1) (by decide) ?_
    refine r_ivv C Z (dk oX3_readClause 7 rfl) cl_X3_39 ci_X8_fail rfl (kn hn rfl) (c_X8_fail hn I J 1 0 s_ (by decide) h5 hk.2.2.1) rfl rfl (Nat.le_of_ble_eq_true rfl) ⟨Nat.le_of_ble_eq_true rfl, Nat.le_of_ble_eq_true rfl⟩ ⟨Nat.zero_le _, Nat.zero_le _⟩ (fun I13 J13 h13 => ?_)
    obtain ⟨e1_, e2_⟩ := h13
    rw [if_pos rfl] at e1_
    have e1_ := e1_.symm
    have e2_ := e2_.symm
    subst e1_
    subst e2_
    refine hret (dk oX3_readClause 8 rfl) ?_
    refine ⟨rfl, (flt_G _ _ _).P, Or.inl ⟨1, s_, ks, k0, a, by decide, by decide, flt_5 _ _ _, flt_6 _ _ _, rchP.one ?_⟩⟩
    unfold stpP; dsimp only; rw [if_pos rfl, if_neg (by omega), if_pos hb8]

set_option maxHeartbeats 1000000 in
set_option maxRecDepth 100000 in
theorem c_X3_read (hn : 117 ≤ n) (I : MI) (J : MJ) (t : Nat → Nat) (L : Nat) (hT : Tx I t L) (p_ : Nat) (hp : p_ < 10) (Φ : Nat → FS) (hM : FcM I 38 Φ) : Cv l n ad cA D z 8 yX3_read cX3_read 5 I J [.ref (ad 6), .ref (ad 1), .ref (ad 38), .int (nI (p_ % 2))] (fun I' J' => J' = J ∧ paF I I' ∧ ∃ f pl a, PP t L p_ Φ f pl a ∧ I' 1 5 = nI f ∧ I' 1 6 = (if f = 0 then -1 else nI pl) ∧ (f = 0 → AcM I' a)) := by
  refine Cv.of (by decide) (Nat.le_of_ble_eq_true rfl) ?_
  intro p e s m args below meth c A C hin Z Q hret
  have hL := hT.1
  refine r_aload_n C 0 (dk oX3_read 0 rfl) rfl ?_
  refine r_iconst C (dk oX3_read 1 rfl) (v := nI 0) (by decide) ?_
  refine r_putI C (dk oX3_read 2 rfl) fl_X3_15 ft_3_1 rfl (kn hn rfl) ?_
  refine r_iconst C (dk oX3_read 3 rfl) (v := nI 0) (by decide) ?_
  refine r_istore (lo' := [(4, _), (0, _), (1, _), (2, _), (3, _)]) C (dk oX3_read 4 rfl) (by decide) rfl ?_
  have L8 : ∀ (d_ : Nat) (f : Nat) (I0 : MI), 12 - f < d_ → f ≤ 12 → (∀ g, g < f → I0 7 g = nI 0) → I0 6 1 = nI 0 → paF I I0 → V p l e (rmL 8) s m args below meth c Q D A 5 0 0 n ad (mE cA ad I0 J) 8 [(0, .ref (ad 6)), (1, .ref (ad 1)), (2, .ref (ad 38)), (3, .int (nI (p_ % 2))), (4, .int (nI f))] [] := by
    intro d_
    induction d_ with
    | zero => intros; exact absurd (by assumption) (Nat.not_lt_zero _)
    | succ d_ ih => 
      intro f I0 hd_ hf h0 h61 hP0
      refine r_iload C 4 (dk oX3_read 5 rfl) rfl ?_
      refine r_bipush C (dk oX3_read 6 rfl) (v := nI 12) (by decide) ?_
      refine r_icmp_ge (tgt := 29) C (dk oX3_read 7 rfl) (by decide) (fun hb12 => ?_) (fun hb12 => ?_)
      · simp (disch := omega) only [nI_leI, nI_ltI, nI_eq, nI_eq0] at hb12
        refine r_aload_n C 1 (dk oX3_read 15 rfl) rfl ?_
        refine r_ivv C Z (dk oX3_read 16 rfl) cl_X3_19 ci_X8_begin rfl (kn hn rfl) (c_X8_begin hn I0 J t L (hT.ofP hP0)) rfl rfl (Nat.le_of_ble_eq_true rfl) ⟨Nat.le_of_ble_eq_true rfl, Nat.le_of_ble_eq_true rfl⟩ ⟨Nat.zero_le _, Nat.zero_le _⟩ (fun I30 J30 h30 => ?_)
        obtain ⟨hF1, hk1, h15, h16, e2_⟩ := h30
        have e2_ := e2_.symm
        subst e2_
        refine r_iconst C (dk oX3_read 17 rfl) (v := nI 0) (by decide) ?_
        refine r_istore (lo' := [(4, _), (0, _), (1, _), (2, _), (3, _)]) C (dk oX3_read 18 rfl) (by decide) rfl ?_
        have L36 : ∀ (d_ : Nat) (n_ : Nat) (I2 : MI), 160 - n_ < d_ → n_ ≤ 160 → paF I I2 → (∃ fn, fn < 6 ∧ I2 1 5 = nI fn ∧ (fn ≠ 0 → paBad (stpP t L p_ Φ) (0, sk t L 0, 0, 0, ac0) I2) ∧ (fn = 0 → ∃ s' ks' k' a', paS t L s' a' I2 ∧ ks' < 128 ∧ I2 6 1 = nI ks' ∧ n_ ≤ s' ∧ rchP (stpP t L p_ Φ) (0, sk t L 0, 0, 0, ac0) (0, s', ks', k', a'))) → V p l e (rmL 8) s m args below meth c Q D A 5 0 0 n ad (mE cA ad I2 J) 36 [(0, .ref (ad 6)), (1, .ref (ad 1)), (2, .ref (ad 38)), (3, .int (nI (p_ % 2))), (4, .int (nI n_))] [] := by
          intro d_
          induction d_ with
          | zero => intros; exact absurd (by assumption) (Nat.not_lt_zero _)
          | succ d_ ih => 
            intro n_ I2 hd2 hnn hP2 hI
            obtain ⟨fn, hfn, g1, gbad, gok⟩ := id hI
            refine r_iload C 4 (dk oX3_read 19 rfl) rfl ?_
            refine r_sipush C (dk oX3_read 20 rfl) (v := nI 160) (by decide) ?_
            refine r_icmp_ge (tgt := 71) C (dk oX3_read 21 rfl) (by decide) (fun hb41 => ?_) (fun hb41 => ?_)
            · simp (disch := omega) only [nI_leI, nI_ltI, nI_eq, nI_eq0] at hb41
              refine hret (dk oX3_read 35 rfl) ?_
              refine ⟨rfl, hP2, ?_⟩
              by_cases e0 : fn = 0
              · obtain ⟨s4, ks4, k4, a4, p1, p2, p3, p4, p5⟩ := gok e0
                have h1 := p1.2.2.1.1
                have hsL : s4 = L := by
                  first
                    | (exfalso; exact hb48 e0)
                    | omega
                    | (have h2 := hb55
                       rw [p1.2.2.1.2.1, nI_eq0 (by have := @tkK_lt t L s4; omega)] at h2
                       exact (tkE_0 h1).mp h2)
                refine ⟨0, 0, a4, ⟨by decide, ?_⟩, by rw [g1, e0], p1.2.1, fun _ => p1.2.2.2⟩
                rw [if_pos rfl]
                refine ⟨s4, ks4, k4, p5.then ?_⟩
                unfold stpP; dsimp only; rw [if_pos rfl, if_pos (by omega)]
              · obtain ⟨f, s4, ks4, k4, a4, p1, p2, p3, p4, p5⟩ := gbad e0
                have ef : f = fn := by
                  have e := p3.symm.trans g1
                  rwa [nI_eq (by omega) (by omega)] at e
                subst ef
                exact ⟨f, s4, ac0, ⟨p2, by rw [if_neg e0]; exact ⟨ks4, k4, a4, p5⟩⟩, g1, by rw [if_neg e0]; exact p4, fun e => absurd e e0⟩
            · simp (disch := omega) only [nI_leI, nI_ltI, nI_eq, nI_eq0] at hb41
              have qm1 : 160 - (n_ + 1) < d_ := by clear gok gbad hI hF1; omega
              have qm2 : n_ + 1 ≤ 160 := by clear gok gbad hI hF1; omega
              refine r_aload_n C 1 (dk oX3_read 22 rfl) rfl ?_
              refine r_ivi C Z (dk oX3_read 23 rfl) cl_X3_24 ci_X8_isSound rfl (kn hn rfl) (c_X8_isSound hn I2 J fn (by omega) g1) rfl rfl (Nat.le_of_ble_eq_true rfl) ⟨Nat.le_of_ble_eq_true rfl, Nat.le_of_ble_eq_true rfl⟩ ⟨Nat.zero_le _, Nat.zero_le _⟩ (fun r45 I45 J45 h45 => ?_)
              obtain ⟨h45, e1_, e2_⟩ := h45
              have e1_ := e1_.symm
              have e2_ := e2_.symm
              subst e1_
              subst e2_
              subst h45
              refine r_if_eq (tgt := 71) C (dk oX3_read 24 rfl) (by decide) (fun hb48 => ?_) (fun hb48 => ?_)
              · rw [b32_0, decide_eq_false_iff_not] at hb48
                refine hret (dk oX3_read 35 rfl) ?_
                refine ⟨rfl, hP2, ?_⟩
                by_cases e0 : fn = 0
                · obtain ⟨s4, ks4, k4, a4, p1, p2, p3, p4, p5⟩ := gok e0
                  have h1 := p1.2.2.1.1
                  have hsL : s4 = L := by
                    first
                      | (exfalso; exact hb48 e0)
                      | omega
                      | (have h2 := hb55
                         rw [p1.2.2.1.2.1, nI_eq0 (by have := @tkK_lt t L s4; omega)] at h2
                         exact (tkE_0 h1).mp h2)
                  refine ⟨0, 0, a4, ⟨by decide, ?_⟩, by rw [g1, e0], p1.2.1, fun _ => p1.2.2.2⟩
                  rw [if_pos rfl]
                  refine ⟨s4, ks4, k4, p5.then ?_⟩
                  unfold stpP; dsimp only; rw [if_pos rfl, if_pos (by omega)]
                · obtain ⟨f, s4, ks4, k4, a4, p1, p2, p3, p4, p5⟩ := gbad e0
                  have ef : f = fn := by
                    have e := p3.symm.trans g1
                    rwa [nI_eq (by omega) (by omega)] at e
                  subst ef
                  exact ⟨f, s4, ac0, ⟨p2, by rw [if_neg e0]; exact ⟨ks4, k4, a4, p5⟩⟩, g1, by rw [if_neg e0]; exact p4, fun e => absurd e e0⟩
              · rw [b32_n, decide_eq_true_eq] at hb48
                refine r_aload_n C 1 (dk oX3_read 25 rfl) rfl ?_
                refine r_ivi C Z (dk oX3_read 26 rfl) cl_X3_28 ci_X8_isAtEnd rfl (kn hn rfl) (c_X8_isAtEnd hn I2 J) rfl rfl (Nat.le_of_ble_eq_true rfl) ⟨Nat.le_of_ble_eq_true rfl, Nat.le_of_ble_eq_true rfl⟩ ⟨Nat.zero_le _, Nat.zero_le _⟩ (fun r52 I52 J52 h52 => ?_)
                obtain ⟨h52, e1_, e2_⟩ := h52
                have e1_ := e1_.symm
                have e2_ := e2_.symm
                subst e1_
                subst e2_
                subst h52
                refine r_if_ne (tgt := 71) C (dk oX3_read 27 rfl) (by decide) (fun hb55 => ?_) (fun hb55 => ?_)
                · rw [b32_n, decide_eq_true_eq] at hb55
                  refine hret (dk oX3_read 35 rfl) ?_
                  refine ⟨rfl, hP2, ?_⟩
                  by_cases e0 : fn = 0
                  · obtain ⟨s4, ks4, k4, a4, p1, p2, p3, p4, p5⟩ := gok e0
                    have h1 := p1.2.2.1.1
                    have hsL : s4 = L := by
                      first
                        | (exfalso; exact hb48 e0)
                        | omega
                        | (have h2 := hb55
                           rw [p1.2.2.1.2.1, nI_eq0 (by have := @tkK_lt t L s4; omega)] at h2
                           exact (tkE_0 h1).mp h2)
                    refine ⟨0, 0, a4, ⟨by decide, ?_⟩, by rw [g1, e0], p1.2.1, fun _ => p1.2.2.2⟩
                    rw [if_pos rfl]
                    refine ⟨s4, ks4, k4, p5.then ?_⟩
                    unfold stpP; dsimp only; rw [if_pos rfl, if_pos (by omega)]
                  · obtain ⟨f, s4, ks4, k4, a4, p1, p2, p3, p4, p5⟩ := gbad e0
                    have ef : f = fn := by
                      have e := p3.symm.trans g1
                      rwa [nI_eq (by omega) (by omega)] at e
                    subst ef
                    exact ⟨f, s4, ac0, ⟨p2, by rw [if_neg e0]; exact ⟨ks4, k4, a4, p5⟩⟩, g1, by rw [if_neg e0]; exact p4, fun e => absurd e e0⟩
                · rw [b32_0, decide_eq_false_iff_not] at hb55
                  obtain ⟨s4, ks4, k4, a4, p1, p2, p3, p4, p5⟩ := gok hb48
                  have hs4 : s4 < L := by
                    have h1 := p1.2.2.1.1
                    rcases Nat.lt_or_ge s4 L with q | q
                    · exact q
                    · exact absurd (by rw [p1.2.2.1.2.1, (tkE_0 h1).mpr (by omega)]; rfl) hb55
                  have ha4 : ∀ f, a4 f ≤ 6 := (rchP_sm (σ := (0, sk t L 0, 0, 0, ac0)) ⟨Nat.zero_le _, fun _ => Nat.zero_le _⟩ p5).2
                  refine r_aload_n C 0 (dk oX3_read 28 rfl) rfl ?_
                  refine r_aload_n C 1 (dk oX3_read 29 rfl) rfl ?_
                  refine r_aload_n C 2 (dk oX3_read 30 rfl) rfl ?_
                  refine r_iload_n C 3 (dk oX3_read 31 rfl) rfl ?_
                  refine r_ivv C Z (dk oX3_read 32 rfl) cl_X3_31 ci_X3_readClause rfl (kn hn rfl) (c_X3_readClause hn I2 J t L (hT.ofP hP2) p_ s4 ks4 k4 hp p2 p3 a4 ha4 Φ (hM.ofP hP2) p1 hs4) rfl rfl (Nat.le_of_ble_eq_true rfl) ⟨Nat.le_of_ble_eq_true rfl, Nat.le_of_ble_eq_true rfl⟩ ⟨Nat.zero_le _, Nat.zero_le _⟩ (fun I62 J62 h62 => ?_)
                  obtain ⟨e2_, hP62, h62⟩ := h62
                  have e2_ := e2_.symm
                  subst e2_
                  refine r_iinc (lo' := [(4, _), (0, _), (1, _), (2, _), (3, _)]) C 4 (dk oX3_read 33 rfl) rfl (by first | exact nI_inc _ | rfl) (by decide) rfl ?_
                  refine r_goto (tgt := 36) C (dk oX3_read 34 rfl) (by decide) ?_
                  refine V.sub [1, 2, 3, 4, 0] rfl ?_
                  refine ih (n_ + 1) _ qm1 qm2 (hP2.trans hP62) ?_
                  rcases h62 with q | ⟨s5, ks5, k5, a5, b1, b2, b3, b4, b5⟩
                  · have q6 := q.to p5
                    obtain ⟨f, s6, ks6, k6, a6, d1, d2, d3, d4, d5⟩ := id q6
                    exact ⟨f, d2, d3, fun _ => q6, fun e => by omega⟩
                  · exact ⟨0, by decide, b1.1, fun e => absurd rfl e, fun _ => ⟨s5, ks5, k5, a5, b1, b2, b3, by omega, p5.trans b5⟩⟩
        refine V.sub [1, 2, 3, 4, 0] rfl ?_
        exact L36 161 0 I30 (by omega) (by omega) (hP0.trans hF1.P) ⟨0, by decide, h15, fun e => absurd rfl e, fun _ => ⟨sk t L 0, 0, 0, ac0, ⟨h15, h16, hk1, fun f2 hf2 => by rw [hF1.1 7 (by decide)]; exact h0 f2 (by omega)⟩, by decide, by rw [hF1.1 6 (by decide)]; exact h61, Nat.zero_le _, rchP.rf⟩⟩
      · simp (disch := omega) only [nI_leI, nI_ltI, nI_eq, nI_eq0] at hb12
        refine r_aload_n C 0 (dk oX3_read 8 rfl) rfl ?_
        refine r_getR C (dk oX3_read 9 rfl) fl_X3_9 rfl (kn hn rfl) ?_
        refine r_iload C 4 (dk oX3_read 10 rfl) rfl ?_
        refine r_iconst C (dk oX3_read 11 rfl) (v := nI 0) (by decide) ?_
        refine r_iast C _ (dk oX3_read 12 rfl) rfl (kn hn rfl) rfl (by omega) (by decide) ?_
        refine r_iinc (lo' := [(4, _), (0, _), (1, _), (2, _), (3, _)]) C 4 (dk oX3_read 13 rfl) rfl (by first | exact nI_inc _ | rfl) (by decide) rfl ?_
        refine r_goto (tgt := 8) C (dk oX3_read 14 rfl) (by decide) ?_
        refine V.sub [1, 2, 3, 4, 0] rfl ?_
        exact ih (f + 1) _ (by omega) (by omega) (fun g hg => by
          by_cases e : g = f
          · rw [e, up2_at]
          · rw [up2_off e]; exact h0 g (by omega)) (by rw [up2_ne (by decide)]; exact h61) (hP0.trans ⟨fun k a b c => up2_ne c, by rw [up2_ne (by decide)]⟩)
  refine V.sub [1, 2, 3, 4, 0] rfl ?_
  exact L8 13 0 _ (by omega) (by omega) (fun g hg => absurd hg (Nat.not_lt_zero _)) up2_at ⟨fun k a b c => up2_ne b, by rw [up2_ne (by decide)]⟩

end PAP
