section TOP
variable {l : Launch} {n : Nat} {ad : Nat → Nat} {cA : Nat → ClassId} {D : va_G} {z : Zw}
theorem p2pc {a : Nat} (h : a < 4096) : 2 ^ pc a ≤ 4096 := (show 2 ^ pc a ≤ 2 ^ 12 from Nat.pow_le_pow_right (by decide) (pc12 h))
theorem p2pc16 (a : Nat) : 2 ^ pc a ≤ 65536 := (show 2 ^ pc a ≤ 2 ^ 16 from Nat.pow_le_pow_right (by decide) (pc_le a))
theorem p2pos (a : Nat) : 0 < 2 ^ pc a := Nat.two_pow_pos _
theorem pd12 {i w : Nat} (h : w < 4096) : pd i w < 4096 := Nat.lt_of_le_of_lt pd_le h
theorem or_lt16 {a b : Nat} (ha : a < 65536) (hb : b < 65536) : a ||| b < 65536 := Nat.or_lt_two_pow (n := 16) ha hb
theorem surF_1 {C : List Nat} {Φ : Nat → FS} {k : Nat} (hk : k = fb_ct (fun i => evC C (soN Φ (pd i (opN Φ)))) (2 ^ pc (opN Φ))) (h : k = 2 ^ pc (opN Φ)) : surF C Φ = nI 1 := by
  unfold surF
  rw [if_pos]
  rw [h] at hk
  rw [anyB_f]
  intro i hi
  rw [(ct_all _).mp hk.symm i hi]; rfl
theorem surF_0 {C : List Nat} {Φ : Nat → FS} {k : Nat} (hk : k = fb_ct (fun i => evC C (soN Φ (pd i (opN Φ)))) (2 ^ pc (opN Φ))) (h : k = 0) : surF C Φ = nI 0 := by
  unfold surF
  rw [h] at hk
  have h0 := (ct_none _).mp hk.symm
  rw [if_neg, if_pos]
  · rw [anyB_f]; exact h0
  · rw [anyB_f]
    intro h1
    have a := h1 0 (Nat.two_pow_pos _)
    have b := h0 0 (Nat.two_pow_pos _)
    rw [b] at a; cases a
theorem surF_n {C : List Nat} {Φ : Nat → FS} {k : Nat} (hk : k = fb_ct (fun i => evC C (soN Φ (pd i (opN Φ)))) (2 ^ pc (opN Φ))) (h1 : ¬ k = 2 ^ pc (opN Φ)) (h0 : ¬ k = 0) : surF C Φ = -1 := by
  unfold surF
  rw [if_neg, if_neg]
  · rw [anyB_f]
    intro h
    exact h0 (hk.trans ((ct_none _).mpr h))
  · rw [anyB_f]
    intro h
    refine h1 (hk.trans ((ct_all _).mpr (fun i hi => ?_)))
    have := h i hi
    revert this
    cases evC C (soN Φ (pd i (opN Φ))) <;> decide
set_option maxHeartbeats 1000000 in
set_option maxRecDepth 100000 in
theorem c_X9_isClaim (hn : 117 ≤ n) (I : MI) (J : MJ) (k_ : Nat) (hk : k_ < 2 ^ 31) (hI : I 9 0 = nI k_) (x : Int32) : Ci l n ad cA D z 0 yX9_isClaim cX9_isClaim 2 .boolean I J [.ref (ad 0), .int x] (fun r I' J' => r = b32 (decide (vdN x k_)) ∧ I' = I ∧ J' = J) := by
  refine Ci.of (by decide) (Nat.le_of_ble_eq_true rfl) ?_
  intro p e s m args below meth c A C hin Z Q hret
  refine r_iload_n C 1 (dk oX9_isClaim 0 rfl) rfl ?_
  refine r_if_lt (tgt := 22) C (dk oX9_isClaim 1 rfl) (by decide) (fun hb1 => ?_) (fun hb1 => ?_)
  · refine r_iconst C (dk oX9_isClaim 10 rfl) (v := nI 0) (by decide) ?_
    refine hret (dk oX9_isClaim 11 rfl) (by first | rfl | decide) ?_
    first
      | exact ⟨b32_dt ⟨Int32.not_lt.mp hb1, Int32.not_le.mp hb15⟩, rfl, rfl⟩
      | exact ⟨b32_df (fun h => absurd hb1 (Int32.not_lt.mpr h.1)), rfl, rfl⟩
      | exact ⟨b32_df (fun h => absurd hb15 (Int32.not_le.mpr h.2)), rfl, rfl⟩
  · refine r_iload_n C 1 (dk oX9_isClaim 2 rfl) rfl ?_
    refine r_aload_n C 0 (dk oX9_isClaim 3 rfl) rfl ?_
    refine r_getR C (dk oX9_isClaim 4 rfl) fl_X9_33 rfl (kn hn rfl) ?_
    refine r_getR C (dk oX9_isClaim 5 rfl) fl_X9_81 rfl (kn hn rfl) ?_
    refine r_getI C (dk oX9_isClaim 6 rfl) fl_X9_85 rfl (kn hn rfl) ?_
    rw [hI]
    refine r_icmp_ge (tgt := 22) C (dk oX9_isClaim 7 rfl) (by decide) (fun hb15 => ?_) (fun hb15 => ?_)
    · refine r_iconst C (dk oX9_isClaim 10 rfl) (v := nI 0) (by decide) ?_
      refine hret (dk oX9_isClaim 11 rfl) (by first | rfl | decide) ?_
      first
        | exact ⟨b32_dt ⟨Int32.not_lt.mp hb1, Int32.not_le.mp hb15⟩, rfl, rfl⟩
        | exact ⟨b32_df (fun h => absurd hb1 (Int32.not_lt.mpr h.1)), rfl, rfl⟩
        | exact ⟨b32_df (fun h => absurd hb15 (Int32.not_le.mpr h.2)), rfl, rfl⟩
    · refine r_iconst C (dk oX9_isClaim 8 rfl) (v := nI 1) (by decide) ?_
      refine r_goto (tgt := 23) C (dk oX9_isClaim 9 rfl) (by decide) ?_
      refine hret (dk oX9_isClaim 11 rfl) (by first | rfl | decide) ?_
      first
        | exact ⟨b32_dt ⟨Int32.not_lt.mp hb1, Int32.not_le.mp hb15⟩, rfl, rfl⟩
        | exact ⟨b32_df (fun h => absurd hb1 (Int32.not_lt.mpr h.1)), rfl, rfl⟩
        | exact ⟨b32_df (fun h => absurd hb15 (Int32.not_le.mpr h.2)), rfl, rfl⟩

set_option maxHeartbeats 1000000 in
set_option maxRecDepth 100000 in
theorem c_X9_isPaper (hn : 117 ≤ n) (I : MI) (J : MJ) (k_ : Nat) (hk : k_ < 2 ^ 31) (hI : I 19 0 = nI k_) (x : Int32) : Ci l n ad cA D z 0 yX9_isPaper cX9_isPaper 2 .boolean I J [.ref (ad 0), .int x] (fun r I' J' => r = b32 (decide (vdN x k_)) ∧ I' = I ∧ J' = J) := by
  refine Ci.of (by decide) (Nat.le_of_ble_eq_true rfl) ?_
  intro p e s m args below meth c A C hin Z Q hret
  refine r_iload_n C 1 (dk oX9_isPaper 0 rfl) rfl ?_
  refine r_if_lt (tgt := 22) C (dk oX9_isPaper 1 rfl) (by decide) (fun hb1 => ?_) (fun hb1 => ?_)
  · refine r_iconst C (dk oX9_isPaper 10 rfl) (v := nI 0) (by decide) ?_
    refine hret (dk oX9_isPaper 11 rfl) (by first | rfl | decide) ?_
    first
      | exact ⟨b32_dt ⟨Int32.not_lt.mp hb1, Int32.not_le.mp hb15⟩, rfl, rfl⟩
      | exact ⟨b32_df (fun h => absurd hb1 (Int32.not_lt.mpr h.1)), rfl, rfl⟩
      | exact ⟨b32_df (fun h => absurd hb15 (Int32.not_le.mpr h.2)), rfl, rfl⟩
  · refine r_iload_n C 1 (dk oX9_isPaper 2 rfl) rfl ?_
    refine r_aload_n C 0 (dk oX9_isPaper 3 rfl) rfl ?_
    refine r_getR C (dk oX9_isPaper 4 rfl) fl_X9_33 rfl (kn hn rfl) ?_
    refine r_getR C (dk oX9_isPaper 5 rfl) fl_X9_62 rfl (kn hn rfl) ?_
    refine r_getI C (dk oX9_isPaper 6 rfl) fl_X9_111 rfl (kn hn rfl) ?_
    rw [hI]
    refine r_icmp_ge (tgt := 22) C (dk oX9_isPaper 7 rfl) (by decide) (fun hb15 => ?_) (fun hb15 => ?_)
    · refine r_iconst C (dk oX9_isPaper 10 rfl) (v := nI 0) (by decide) ?_
      refine hret (dk oX9_isPaper 11 rfl) (by first | rfl | decide) ?_
      first
        | exact ⟨b32_dt ⟨Int32.not_lt.mp hb1, Int32.not_le.mp hb15⟩, rfl, rfl⟩
        | exact ⟨b32_df (fun h => absurd hb1 (Int32.not_lt.mpr h.1)), rfl, rfl⟩
        | exact ⟨b32_df (fun h => absurd hb15 (Int32.not_le.mpr h.2)), rfl, rfl⟩
    · refine r_iconst C (dk oX9_isPaper 8 rfl) (v := nI 1) (by decide) ?_
      refine r_goto (tgt := 23) C (dk oX9_isPaper 9 rfl) (by decide) ?_
      refine hret (dk oX9_isPaper 11 rfl) (by first | rfl | decide) ?_
      first
        | exact ⟨b32_dt ⟨Int32.not_lt.mp hb1, Int32.not_le.mp hb15⟩, rfl, rfl⟩
        | exact ⟨b32_df (fun h => absurd hb1 (Int32.not_lt.mpr h.1)), rfl, rfl⟩
        | exact ⟨b32_df (fun h => absurd hb15 (Int32.not_le.mpr h.2)), rfl, rfl⟩

set_option maxHeartbeats 1000000 in
set_option maxRecDepth 100000 in
theorem c_X9_isProof (hn : 117 ≤ n) (I : MI) (J : MJ) (k_ : Nat) (hk : k_ < 2 ^ 31) (hI : I 33 0 = nI k_) (x : Int32) : Ci l n ad cA D z 0 yX9_isProof cX9_isProof 2 .boolean I J [.ref (ad 0), .int x] (fun r I' J' => r = b32 (decide (vdN x k_)) ∧ I' = I ∧ J' = J) := by
  refine Ci.of (by decide) (Nat.le_of_ble_eq_true rfl) ?_
  intro p e s m args below meth c A C hin Z Q hret
  refine r_iload_n C 1 (dk oX9_isProof 0 rfl) rfl ?_
  refine r_if_lt (tgt := 22) C (dk oX9_isProof 1 rfl) (by decide) (fun hb1 => ?_) (fun hb1 => ?_)
  · refine r_iconst C (dk oX9_isProof 10 rfl) (v := nI 0) (by decide) ?_
    refine hret (dk oX9_isProof 11 rfl) (by first | rfl | decide) ?_
    first
      | exact ⟨b32_dt ⟨Int32.not_lt.mp hb1, Int32.not_le.mp hb15⟩, rfl, rfl⟩
      | exact ⟨b32_df (fun h => absurd hb1 (Int32.not_lt.mpr h.1)), rfl, rfl⟩
      | exact ⟨b32_df (fun h => absurd hb15 (Int32.not_le.mpr h.2)), rfl, rfl⟩
  · refine r_iload_n C 1 (dk oX9_isProof 2 rfl) rfl ?_
    refine r_aload_n C 0 (dk oX9_isProof 3 rfl) rfl ?_
    refine r_getR C (dk oX9_isProof 4 rfl) fl_X9_33 rfl (kn hn rfl) ?_
    refine r_getR C (dk oX9_isProof 5 rfl) fl_X9_128 rfl (kn hn rfl) ?_
    refine r_getI C (dk oX9_isProof 6 rfl) fl_X9_132 rfl (kn hn rfl) ?_
    rw [hI]
    refine r_icmp_ge (tgt := 22) C (dk oX9_isProof 7 rfl) (by decide) (fun hb15 => ?_) (fun hb15 => ?_)
    · refine r_iconst C (dk oX9_isProof 10 rfl) (v := nI 0) (by decide) ?_
      refine hret (dk oX9_isProof 11 rfl) (by first | rfl | decide) ?_
      first
        | exact ⟨b32_dt ⟨Int32.not_lt.mp hb1, Int32.not_le.mp hb15⟩, rfl, rfl⟩
        | exact ⟨b32_df (fun h => absurd hb1 (Int32.not_lt.mpr h.1)), rfl, rfl⟩
        | exact ⟨b32_df (fun h => absurd hb15 (Int32.not_le.mpr h.2)), rfl, rfl⟩
    · refine r_iconst C (dk oX9_isProof 8 rfl) (v := nI 1) (by decide) ?_
      refine r_goto (tgt := 23) C (dk oX9_isProof 9 rfl) (by decide) ?_
      refine hret (dk oX9_isProof 11 rfl) (by first | rfl | decide) ?_
      first
        | exact ⟨b32_dt ⟨Int32.not_lt.mp hb1, Int32.not_le.mp hb15⟩, rfl, rfl⟩
        | exact ⟨b32_df (fun h => absurd hb1 (Int32.not_lt.mpr h.1)), rfl, rfl⟩
        | exact ⟨b32_df (fun h => absurd hb15 (Int32.not_le.mpr h.2)), rfl, rfl⟩

set_option maxHeartbeats 1000000 in
set_option maxRecDepth 100000 in
theorem c_X9_sureness (hn : 117 ≤ n) (I : MI) (J : MJ) (nc : Nat) (co : Nat → Int32) (cd : Nat → List Nat) (hc : CClm I J 8 nc co cd) (Φ : Nat → FS) (hM : Fc I 38 Φ) (c_ : Nat) (hcc : c_ < nc) : Ci l n ad cA D z 2 yX9_sureness cX9_sureness 7 .int I J [.ref (ad 0), .int (nI c_)] (fun r I' J' => r = surF (cd c_) Φ ∧ I' = I ∧ J' = J) := by
  refine Ci.of (by decide) (Nat.le_of_ble_eq_true rfl) ?_
  intro p e s m args below meth c A C hin Z Q hret
  have hnc := hc.1
  have hop := @opN_lt Φ
  have hways := p2pc hop
  have hpos := p2pos (opN Φ)
  refine r_aload_n C 0 (dk oX9_sureness 0 rfl) rfl ?_
  refine r_getR C (dk oX9_sureness 1 rfl) fl_X9_40 rfl (kn hn rfl) ?_
  refine r_getI C (dk oX9_sureness 2 rfl) fl_X9_190 rfl (kn hn rfl) ?_
  have h6 : I 38 6 = nI (opN Φ) := hM.2.1
  rw [h6]
  refine r_istore_n (lo' := [(2, _), (0, _), (1, _)]) C (dk oX9_sureness 3 rfl) rfl (by decide) rfl ?_
  refine r_iload_n C 0 (dk oX9_sureness 4 rfl) rfl ?_
  refine r_isi C Z (dk oX9_sureness 5 rfl) cl_X9_207 st_X9_setsWithin (c_X9_setsWithin I J (opN Φ) (by omega)) rfl rfl (Nat.le_of_ble_eq_true rfl) ⟨Nat.le_of_ble_eq_true rfl, Nat.le_of_ble_eq_true rfl⟩ ⟨Nat.zero_le _, Nat.zero_le _⟩ (fun r9 I9 J9 h9 => ?_)
  obtain ⟨h9, e1_, e2_⟩ := h9
  have e1_ := e1_.symm
  have e2_ := e2_.symm
  subst e1_
  subst e2_
  subst h9
  refine r_istore_n (lo' := [(3, _), (2, _), (0, _), (1, _)]) C (dk oX9_sureness 6 rfl) rfl (by decide) rfl ?_
  refine r_iconst C (dk oX9_sureness 7 rfl) (v := nI 0) (by decide) ?_
  refine r_istore (lo' := [(4, _), (3, _), (2, _), (0, _), (1, _)]) C (dk oX9_sureness 8 rfl) (by decide) rfl ?_
  refine r_iconst C (dk oX9_sureness 9 rfl) (v := nI 0) (by decide) ?_
  refine r_istore (lo' := [(5, _), (4, _), (3, _), (2, _), (0, _), (1, _)]) C (dk oX9_sureness 10 rfl) (by decide) rfl ?_
  refine r_iconst C (dk oX9_sureness 11 rfl) (v := nI 0) (by decide) ?_
  refine r_istore (lo' := [(6, _), (5, _), (4, _), (3, _), (2, _), (0, _), (1, _)]) C (dk oX9_sureness 12 rfl) (by decide) rfl ?_
  have L22 : ∀ (d_ : Nat) (i : Nat), 2 ^ pc (opN Φ) - i < d_ → i ≤ 2 ^ pc (opN Φ) → V p l e (rmL 2) s m args below meth c Q D A 7 0 0 n ad (mE cA ad I J) 22 [(0, .ref (ad 0)), (1, .int (nI c_)), (2, .int (nI (opN Φ))), (3, .int (nI (2 ^ pc (opN Φ)))), (4, .int (nI (fb_ct (fun i => evC (cd c_) (soN Φ (pd i (opN Φ)))) i))), (5, .int (nI i)), (6, .int (nI (pd i (opN Φ))))] [] := by
    intro d_
    induction d_ with
    | zero => intros; exact absurd (by assumption) (Nat.not_lt_zero _)
    | succ d_ ih => 
      intro i hd_ hi
      refine r_iload C 5 (dk oX9_sureness 13 rfl) rfl ?_
      refine r_iload_n C 3 (dk oX9_sureness 14 rfl) rfl ?_
      refine r_icmp_ge (tgt := 68) C (dk oX9_sureness 15 rfl) (by decide) (fun hb25 => ?_) (fun hb25 => ?_)
      · simp (disch := omega) only [nI_leI, nI_ltI, nI_eq, nI_eq0] at hb25
        refine r_iload C 4 (dk oX9_sureness 33 rfl) rfl ?_
        refine r_iload_n C 3 (dk oX9_sureness 34 rfl) rfl ?_
        refine r_icmp_ne (tgt := 76) C (dk oX9_sureness 35 rfl) (by decide) (fun hb71 => ?_) (fun hb71 => ?_)
        · have hk2 := fb_ct_le (fun i => evC (cd c_) (soN Φ (pd i (opN Φ)))) i
          simp (disch := omega) only [nI_leI, nI_ltI, nI_eq, nI_eq0] at hb71
          refine r_iload C 4 (dk oX9_sureness 38 rfl) rfl ?_
          refine r_if_ne (tgt := 85) C (dk oX9_sureness 39 rfl) (by decide) (fun hb78 => ?_) (fun hb78 => ?_)
          · have hk2 := fb_ct_le (fun i => evC (cd c_) (soN Φ (pd i (opN Φ)))) i
            simp (disch := omega) only [nI_leI, nI_ltI, nI_eq, nI_eq0] at hb78
            refine r_iconst C (dk oX9_sureness 42 rfl) (v := -1) (by decide) ?_
            refine hret (dk oX9_sureness 43 rfl) rfl ?_
            have hi2 : i = 2 ^ pc (opN Φ) := by omega
            subst hi2
            first
              | exact ⟨(surF_0 rfl hb78).symm, rfl, rfl⟩
              | exact ⟨(surF_n rfl hb71 hb78).symm, rfl, rfl⟩
          · have hk2 := fb_ct_le (fun i => evC (cd c_) (soN Φ (pd i (opN Φ)))) i
            simp (disch := omega) only [nI_leI, nI_ltI, nI_eq, nI_eq0] at hb78
            refine r_iconst C (dk oX9_sureness 40 rfl) (v := nI 0) (by decide) ?_
            refine r_goto (tgt := 86) C (dk oX9_sureness 41 rfl) (by decide) ?_
            refine hret (dk oX9_sureness 43 rfl) rfl ?_
            have hi2 : i = 2 ^ pc (opN Φ) := by omega
            subst hi2
            first
              | exact ⟨(surF_0 rfl hb78).symm, rfl, rfl⟩
              | exact ⟨(surF_n rfl hb71 hb78).symm, rfl, rfl⟩
        · have hk2 := fb_ct_le (fun i => evC (cd c_) (soN Φ (pd i (opN Φ)))) i
          simp (disch := omega) only [nI_leI, nI_ltI, nI_eq, nI_eq0] at hb71
          refine r_iconst C (dk oX9_sureness 36 rfl) (v := nI 1) (by decide) ?_
          refine hret (dk oX9_sureness 37 rfl) rfl ?_
          have hi2 : i = 2 ^ pc (opN Φ) := by omega
          subst hi2
          exact ⟨(surF_1 rfl hb71).symm, rfl, rfl⟩
      · simp (disch := omega) only [nI_leI, nI_ltI, nI_eq, nI_eq0] at hb25
        refine r_aload_n C 0 (dk oX9_sureness 16 rfl) rfl ?_
        refine r_getR C (dk oX9_sureness 17 rfl) fl_X9_33 rfl (kn hn rfl) ?_
        refine r_getR C (dk oX9_sureness 18 rfl) fl_X9_81 rfl (kn hn rfl) ?_
        refine r_iload_n C 1 (dk oX9_sureness 19 rfl) rfl ?_
        refine r_aload_n C 0 (dk oX9_sureness 20 rfl) rfl ?_
        refine r_getR C (dk oX9_sureness 21 rfl) fl_X9_40 rfl (kn hn rfl) ?_
        refine r_iload C 6 (dk oX9_sureness 22 rfl) rfl ?_
        refine r_ivi C Z (dk oX9_sureness 23 rfl) cl_X9_193 ci_X2_soBy rfl (kn hn rfl) (c38_X2_soBy hn I J (pd i (opN Φ)) (bS (fun f => asB (Φ f)) 12) (bS (fun f => onB (Φ f)) 12) hM.2.2.2 hM.2.2.1) rfl rfl (Nat.le_of_ble_eq_true rfl) ⟨Nat.le_of_ble_eq_true rfl, Nat.le_of_ble_eq_true rfl⟩ ⟨Nat.zero_le _, Nat.zero_le _⟩ (fun r42 I42 J42 h42 => ?_)
        obtain ⟨h42, e1_, e2_⟩ := h42
        have e1_ := e1_.symm
        have e2_ := e2_.symm
        subst e1_
        subst e2_
        subst h42
        refine r_ivi C Z (dk oX9_sureness 24 rfl) cl_X9_196 ci_X1_isOwed rfl (kn hn rfl) (c_X1_isOwed hn I J c_ (soN Φ (pd i (opN Φ))) (cd c_) (by omega) (soN_lt (pd12 hop)) (hc.2.2 c_ hcc).2.2.2) rfl rfl (Nat.le_of_ble_eq_true rfl) ⟨Nat.le_of_ble_eq_true rfl, Nat.le_of_ble_eq_true rfl⟩ ⟨Nat.zero_le _, Nat.zero_le _⟩ (fun r45 I45 J45 h45 => ?_)
        obtain ⟨h45, e1_, e2_⟩ := h45
        have e1_ := e1_.symm
        have e2_ := e2_.symm
        subst e1_
        subst e2_
        subst h45
        refine r_if_eq (tgt := 54) C (dk oX9_sureness 25 rfl) (by decide) (fun hb48 => ?_) (fun hb48 => ?_)
        · rw [b32_0] at hb48
          refine r_iinc (lo' := [(5, _), (0, _), (1, _), (2, _), (3, _), (4, _), (6, _)]) C 5 (dk oX9_sureness 27 rfl) rfl (by first | exact nI_inc _ | rfl) (by decide) rfl ?_
          refine r_iload C 6 (dk oX9_sureness 28 rfl) rfl ?_
          refine r_iload_n C 3 (dk oX9_sureness 29 rfl) rfl ?_
          refine r_isi C Z (dk oX9_sureness 30 rfl) cl_X9_216 st_X9_nextSet (c_X9_nextSet I J (i) (opN Φ) (by omega)) rfl rfl (Nat.le_of_ble_eq_true rfl) ⟨Nat.le_of_ble_eq_true rfl, Nat.le_of_ble_eq_true rfl⟩ ⟨Nat.zero_le _, Nat.zero_le _⟩ (fun r60 I60 J60 h60 => ?_)
          obtain ⟨h60, e1_, e2_⟩ := h60
          have e1_ := e1_.symm
          have e2_ := e2_.symm
          subst e1_
          subst e2_
          subst h60
          refine r_istore (lo' := [(6, _), (5, _), (0, _), (1, _), (2, _), (3, _), (4, _)]) C (dk oX9_sureness 31 rfl) (by decide) rfl ?_
          refine r_goto (tgt := 22) C (dk oX9_sureness 32 rfl) (by decide) ?_
          refine V.sub [2, 3, 4, 5, 6, 1, 0] rfl ?_
          have hih := ih (i + 1) (by omega) (by omega)
          rw [fb_ct_succ] at hih
          rw [hb48] at hih
          exact hih
        · rw [b32_n] at hb48
          refine r_iinc (lo' := [(4, _), (0, _), (1, _), (2, _), (3, _), (5, _), (6, _)]) C 4 (dk oX9_sureness 26 rfl) rfl (by first | exact nI_inc _ | rfl) (by decide) rfl ?_
          refine r_iinc (lo' := [(5, _), (4, _), (0, _), (1, _), (2, _), (3, _), (6, _)]) C 5 (dk oX9_sureness 27 rfl) rfl (by first | exact nI_inc _ | rfl) (by decide) rfl ?_
          refine r_iload C 6 (dk oX9_sureness 28 rfl) rfl ?_
          refine r_iload_n C 4 (dk oX9_sureness 29 rfl) rfl ?_
          refine r_isi C Z (dk oX9_sureness 30 rfl) cl_X9_216 st_X9_nextSet (c_X9_nextSet I J (i) (opN Φ) (by omega)) rfl rfl (Nat.le_of_ble_eq_true rfl) ⟨Nat.le_of_ble_eq_true rfl, Nat.le_of_ble_eq_true rfl⟩ ⟨Nat.zero_le _, Nat.zero_le _⟩ (fun r60 I60 J60 h60 => ?_)
          obtain ⟨h60, e1_, e2_⟩ := h60
          have e1_ := e1_.symm
          have e2_ := e2_.symm
          subst e1_
          subst e2_
          subst h60
          refine r_istore (lo' := [(6, _), (5, _), (4, _), (0, _), (1, _), (2, _), (3, _)]) C (dk oX9_sureness 31 rfl) (by decide) rfl ?_
          refine r_goto (tgt := 22) C (dk oX9_sureness 32 rfl) (by decide) ?_
          refine V.sub [3, 4, 5, 6, 2, 1, 0] rfl ?_
          have hih := ih (i + 1) (by omega) (by omega)
          rw [fb_ct_succ] at hih
          rw [hb48] at hih
          exact hih
  refine V.sub [5, 6, 4, 3, 2, 1, 0] rfl ?_
  have h0 := L22 (2 ^ pc (opN Φ) + 1) 0 (by omega) (Nat.zero_le _)
  rw [pd_0] at h0
  exact h0

set_option maxHeartbeats 1000000 in
set_option maxRecDepth 100000 in
theorem c_X9_turnsOn (hn : 117 ≤ n) (I : MI) (J : MJ) (nc : Nat) (co : Nat → Int32) (cd : Nat → List Nat) (hc : CClm I J 8 nc co cd) (Φ : Nat → FS) (hM : Fc I 38 Φ) (c_ : Nat) (hcc : c_ < nc) (f_ : Nat) (hf : f_ < 12) : Ci l n ad cA D z 2 yX9_turnsOn cX9_turnsOn 8 .boolean I J [.ref (ad 0), .int (nI c_), .int (nI f_)] (fun r I' J' => r = b32 (tnB (cd c_) Φ f_) ∧ I' = I ∧ J' = J) := by
  refine Ci.of (by decide) (Nat.le_of_ble_eq_true rfl) ?_
  intro p e s m args below meth c A C hin Z Q hret
  have hnc := hc.1
  have hop := @opN_lt Φ
  have hways := p2pc hop
  have hpos := p2pos (opN Φ)
  have hO := @anN_lt (opN Φ) (2 ^ f_) 12 hop
  have hways := p2pc hO
  have hpos := p2pos (anN (opN Φ) (2 ^ f_))
  have h2f : 2 ^ f_ < 4096 := (show 2 ^ f_ < 2 ^ 12 from Nat.pow_lt_pow_right (by decide) hf)
  refine r_aload_n C 0 (dk oX9_turnsOn 0 rfl) rfl ?_
  refine r_getR C (dk oX9_turnsOn 1 rfl) fl_X9_40 rfl (kn hn rfl) ?_
  refine r_getI C (dk oX9_turnsOn 2 rfl) fl_X9_190 rfl (kn hn rfl) ?_
  have h6 : I 38 6 = nI (opN Φ) := hM.2.1
  rw [h6]
  refine r_iconst C (dk oX9_turnsOn 3 rfl) (v := nI 1) (by decide) ?_
  refine r_iload_n C 2 (dk oX9_turnsOn 4 rfl) rfl ?_
  refine r_ishl C (dk oX9_turnsOn 5 rfl) ?_
  refine r_iconst C (dk oX9_turnsOn 6 rfl) (v := -1) (by decide) ?_
  refine r_ixor C (dk oX9_turnsOn 7 rfl) ?_
  refine r_iand C (dk oX9_turnsOn 8 rfl) ?_
  rw [shl1 (by omega), nI_not (by omega)]
  refine r_istore_n (lo' := [(3, _), (0, _), (1, _), (2, _)]) C (dk oX9_turnsOn 9 rfl) rfl (by decide) rfl ?_
  refine r_iload_n C 0 (dk oX9_turnsOn 10 rfl) rfl ?_
  refine r_isi C Z (dk oX9_turnsOn 11 rfl) cl_X9_207 st_X9_setsWithin (c_X9_setsWithin I J ((anN (opN Φ) (2 ^ f_))) (by omega)) rfl rfl (Nat.le_of_ble_eq_true rfl) ⟨Nat.le_of_ble_eq_true rfl, Nat.le_of_ble_eq_true rfl⟩ ⟨Nat.zero_le _, Nat.zero_le _⟩ (fun r15 I15 J15 h15 => ?_)
  obtain ⟨h15, e1_, e2_⟩ := h15
  have e1_ := e1_.symm
  have e2_ := e2_.symm
  subst e1_
  subst e2_
  subst h15
  refine r_istore (lo' := [(4, _), (3, _), (0, _), (1, _), (2, _)]) C (dk oX9_turnsOn 12 rfl) (by decide) rfl ?_
  refine r_iconst C (dk oX9_turnsOn 13 rfl) (v := nI 0) (by decide) ?_
  refine r_istore (lo' := [(5, _), (4, _), (3, _), (0, _), (1, _), (2, _)]) C (dk oX9_turnsOn 14 rfl) (by decide) rfl ?_
  refine r_iconst C (dk oX9_turnsOn 15 rfl) (v := nI 0) (by decide) ?_
  refine r_istore (lo' := [(6, _), (5, _), (4, _), (3, _), (0, _), (1, _), (2, _)]) C (dk oX9_turnsOn 16 rfl) (by decide) rfl ?_
  have L26 : ∀ (d_ : Nat) (i : Nat), 2 ^ pc ((anN (opN Φ) (2 ^ f_))) - i < d_ → i ≤ 2 ^ pc ((anN (opN Φ) (2 ^ f_))) → (∀ j, j < i → (evC (cd c_) (soN Φ (pd j (anN (opN Φ) (2 ^ f_)) ||| 2 ^ f_)) != evC (cd c_) (soN Φ (pd j (anN (opN Φ) (2 ^ f_))))) = false) → V p l e (rmL 2) s m args below meth c Q D A 8 0 0 n ad (mE cA ad I J) 26 [(0, .ref (ad 0)), (1, .int (nI c_)), (2, .int (nI f_)), (3, .int (nI (anN (opN Φ) (2 ^ f_)))), (4, .int (nI (2 ^ pc (anN (opN Φ) (2 ^ f_))))), (5, .int (nI i)), (6, .int (nI (pd i (anN (opN Φ) (2 ^ f_)))))] [] := by
    intro d_
    induction d_ with
    | zero => intros; exact absurd (by assumption) (Nat.not_lt_zero _)
    | succ d_ ih => 
      intro i hd_ hi hv
      refine r_iload C 5 (dk oX9_turnsOn 17 rfl) rfl ?_
      refine r_iload C 4 (dk oX9_turnsOn 18 rfl) rfl ?_
      refine r_icmp_ge (tgt := 100) C (dk oX9_turnsOn 19 rfl) (by decide) (fun hb30 => ?_) (fun hb30 => ?_)
      · simp (disch := omega) only [nI_leI, nI_ltI, nI_eq, nI_eq0] at hb30
        refine r_iconst C (dk oX9_turnsOn 53 rfl) (v := nI 0) (by decide) ?_
        refine hret (dk oX9_turnsOn 54 rfl) rfl ?_
        exact ⟨by rw [show tnB (cd c_) Φ f_ = false from anyB_f.mpr (fun j hj => hv j (by omega))]; rfl, rfl, rfl⟩
      · simp (disch := omega) only [nI_leI, nI_ltI, nI_eq, nI_eq0] at hb30
        refine r_aload_n C 0 (dk oX9_turnsOn 20 rfl) rfl ?_
        refine r_getR C (dk oX9_turnsOn 21 rfl) fl_X9_33 rfl (kn hn rfl) ?_
        refine r_getR C (dk oX9_turnsOn 22 rfl) fl_X9_81 rfl (kn hn rfl) ?_
        refine r_iload_n C 1 (dk oX9_turnsOn 23 rfl) rfl ?_
        refine r_aload_n C 0 (dk oX9_turnsOn 24 rfl) rfl ?_
        refine r_getR C (dk oX9_turnsOn 25 rfl) fl_X9_40 rfl (kn hn rfl) ?_
        refine r_iload C 6 (dk oX9_turnsOn 26 rfl) rfl ?_
        refine r_iconst C (dk oX9_turnsOn 27 rfl) (v := nI 1) (by decide) ?_
        refine r_iload_n C 2 (dk oX9_turnsOn 28 rfl) rfl ?_
        refine r_ishl C (dk oX9_turnsOn 29 rfl) ?_
        refine r_ior C (dk oX9_turnsOn 30 rfl) ?_
        rw [or_bit (by omega)]
        refine r_ivi C Z (dk oX9_turnsOn 31 rfl) cl_X9_193 ci_X2_soBy rfl (kn hn rfl) (c38_X2_soBy hn I J (pd i (anN (opN Φ) (2 ^ f_)) ||| 2 ^ f_) (bS (fun f => asB (Φ f)) 12) (bS (fun f => onB (Φ f)) 12) hM.2.2.2 hM.2.2.1) rfl rfl (Nat.le_of_ble_eq_true rfl) ⟨Nat.le_of_ble_eq_true rfl, Nat.le_of_ble_eq_true rfl⟩ ⟨Nat.zero_le _, Nat.zero_le _⟩ (fun r51 I51 J51 h51 => ?_)
        obtain ⟨h51, e1_, e2_⟩ := h51
        have e1_ := e1_.symm
        have e2_ := e2_.symm
        subst e1_
        subst e2_
        subst h51
        refine r_ivi C Z (dk oX9_turnsOn 32 rfl) cl_X9_196 ci_X1_isOwed rfl (kn hn rfl) (c_X1_isOwed hn I J c_ (soN Φ (pd i (anN (opN Φ) (2 ^ f_)) ||| 2 ^ f_)) (cd c_) (by omega) (soN_lt (or_lt12 (pd12 hO) h2f)) (hc.2.2 c_ hcc).2.2.2) rfl rfl (Nat.le_of_ble_eq_true rfl) ⟨Nat.le_of_ble_eq_true rfl, Nat.le_of_ble_eq_true rfl⟩ ⟨Nat.zero_le _, Nat.zero_le _⟩ (fun r54 I54 J54 h54 => ?_)
        obtain ⟨h54, e1_, e2_⟩ := h54
        have e1_ := e1_.symm
        have e2_ := e2_.symm
        subst e1_
        subst e2_
        subst h54
        refine r_istore (lo' := [(7, _), (0, _), (1, _), (2, _), (3, _), (4, _), (5, _), (6, _)]) C (dk oX9_turnsOn 33 rfl) (by decide) rfl ?_
        refine r_iload C 0 (dk oX9_turnsOn 34 rfl) rfl ?_
        refine r_aload_n C 1 (dk oX9_turnsOn 35 rfl) rfl ?_
        refine r_getR C (dk oX9_turnsOn 36 rfl) fl_X9_33 rfl (kn hn rfl) ?_
        refine r_getR C (dk oX9_turnsOn 37 rfl) fl_X9_81 rfl (kn hn rfl) ?_
        refine r_iload_n C 2 (dk oX9_turnsOn 38 rfl) rfl ?_
        refine r_aload_n C 1 (dk oX9_turnsOn 39 rfl) rfl ?_
        refine r_getR C (dk oX9_turnsOn 40 rfl) fl_X9_40 rfl (kn hn rfl) ?_
        refine r_iload C 7 (dk oX9_turnsOn 41 rfl) rfl ?_
        refine r_ivi C Z (dk oX9_turnsOn 42 rfl) cl_X9_193 ci_X2_soBy rfl (kn hn rfl) (c38_X2_soBy hn I J (pd i (anN (opN Φ) (2 ^ f_))) (bS (fun f => asB (Φ f)) 12) (bS (fun f => onB (Φ f)) 12) hM.2.2.2 hM.2.2.1) rfl rfl (Nat.le_of_ble_eq_true rfl) ⟨Nat.le_of_ble_eq_true rfl, Nat.le_of_ble_eq_true rfl⟩ ⟨Nat.zero_le _, Nat.zero_le _⟩ (fun r75 I75 J75 h75 => ?_)
        obtain ⟨h75, e1_, e2_⟩ := h75
        have e1_ := e1_.symm
        have e2_ := e2_.symm
        subst e1_
        subst e2_
        subst h75
        refine r_ivi C Z (dk oX9_turnsOn 43 rfl) cl_X9_196 ci_X1_isOwed rfl (kn hn rfl) (c_X1_isOwed hn I J c_ (soN Φ (pd i (anN (opN Φ) (2 ^ f_)))) (cd c_) (by omega) (soN_lt (pd12 hO)) (hc.2.2 c_ hcc).2.2.2) rfl rfl (Nat.le_of_ble_eq_true rfl) ⟨Nat.le_of_ble_eq_true rfl, Nat.le_of_ble_eq_true rfl⟩ ⟨Nat.zero_le _, Nat.zero_le _⟩ (fun r78 I78 J78 h78 => ?_)
        obtain ⟨h78, e1_, e2_⟩ := h78
        have e1_ := e1_.symm
        have e2_ := e2_.symm
        subst e1_
        subst e2_
        subst h78
        refine r_icmp_eq (tgt := 86) C (dk oX9_turnsOn 44 rfl) (by decide) (fun hb81 => ?_) (fun hb81 => ?_)
        · rw [b32_inj] at hb81
          refine r_iinc (lo' := [(5, _), (7, _), (0, _), (1, _), (2, _), (3, _), (4, _), (6, _)]) C 6 (dk oX9_turnsOn 47 rfl) rfl (by first | exact nI_inc _ | rfl) (by decide) rfl ?_
          refine r_iload C 7 (dk oX9_turnsOn 48 rfl) rfl ?_
          refine r_iload_n C 5 (dk oX9_turnsOn 49 rfl) rfl ?_
          refine r_isi C Z (dk oX9_turnsOn 50 rfl) cl_X9_216 st_X9_nextSet (c_X9_nextSet I J (i) ((anN (opN Φ) (2 ^ f_))) (by omega)) rfl rfl (Nat.le_of_ble_eq_true rfl) ⟨Nat.le_of_ble_eq_true rfl, Nat.le_of_ble_eq_true rfl⟩ ⟨Nat.zero_le _, Nat.zero_le _⟩ (fun r92 I92 J92 h92 => ?_)
          obtain ⟨h92, e1_, e2_⟩ := h92
          have e1_ := e1_.symm
          have e2_ := e2_.symm
          subst e1_
          subst e2_
          subst h92
          refine r_istore (lo' := [(6, _), (5, _), (7, _), (0, _), (1, _), (2, _), (3, _), (4, _)]) C (dk oX9_turnsOn 51 rfl) (by decide) rfl ?_
          refine r_goto (tgt := 26) C (dk oX9_turnsOn 52 rfl) (by decide) ?_
          refine V.sub [3, 4, 5, 6, 7, 1, 0] rfl ?_
          refine ih (i + 1) (by omega) (by omega) (fun j hj => ?_)
          by_cases e : j = i
          · subst e
            rw [hb81]; exact bne_self_eq_false _
          · exact hv j (by omega)
        · rw [b32_inj] at hb81
          refine r_iconst C (dk oX9_turnsOn 45 rfl) (v := nI 1) (by decide) ?_
          refine hret (dk oX9_turnsOn 46 rfl) rfl ?_
          exact ⟨by rw [show tnB (cd c_) Φ f_ = true from (anyB_t _).mpr ⟨i, Nat.not_le.mp hb30, bne_iff_ne.mpr hb81⟩]; rfl, rfl, rfl⟩
  refine V.sub [4, 5, 6, 3, 2, 1, 0] rfl ?_
  have h0 := L26 (2 ^ pc ((anN (opN Φ) (2 ^ f_))) + 1) 0 (by omega) (Nat.zero_le _) (fun j hj => absurd hj (Nat.not_lt_zero _))
  rw [pd_0] at h0
  exact h0

set_option maxHeartbeats 1000000 in
set_option maxRecDepth 100000 in
theorem c_X9_isEnough (hn : 117 ≤ n) (I : MI) (J : MJ) (nc : Nat) (co : Nat → Int32) (cd : Nat → List Nat) (hc : CClm I J 8 nc co cd) (Φ : Nat → FS) (hM : Fc I 38 Φ) (c_ : Nat) (hcc : c_ < nc) (S_ : Nat) (hS : S_ < 4096) : Ci l n ad cA D z 2 yX9_isEnough cX9_isEnough 7 .boolean I J [.ref (ad 0), .int (nI c_), .int (nI S_)] (fun r I' J' => r = b32 (enB (cd c_) Φ S_) ∧ I' = I ∧ J' = J) := by
  refine Ci.of (by decide) (Nat.le_of_ble_eq_true rfl) ?_
  intro p e s m args below meth c A C hin Z Q hret
  have hnc := hc.1
  have hop := @opN_lt Φ
  have hways := p2pc hop
  have hpos := p2pos (opN Φ)
  have hO := @anN_lt (opN Φ) (S_) 12 hop
  have hways := p2pc hO
  have hpos := p2pos (anN (opN Φ) (S_))
  refine r_aload_n C 0 (dk oX9_isEnough 0 rfl) rfl ?_
  refine r_getR C (dk oX9_isEnough 1 rfl) fl_X9_40 rfl (kn hn rfl) ?_
  refine r_getI C (dk oX9_isEnough 2 rfl) fl_X9_190 rfl (kn hn rfl) ?_
  have h6 : I 38 6 = nI (opN Φ) := hM.2.1
  rw [h6]
  refine r_iload_n C 2 (dk oX9_isEnough 3 rfl) rfl ?_
  refine r_iconst C (dk oX9_isEnough 4 rfl) (v := -1) (by decide) ?_
  refine r_ixor C (dk oX9_isEnough 5 rfl) ?_
  refine r_iand C (dk oX9_isEnough 6 rfl) ?_
  rw [nI_not (by omega)]
  refine r_istore_n (lo' := [(3, _), (0, _), (1, _), (2, _)]) C (dk oX9_isEnough 7 rfl) rfl (by decide) rfl ?_
  refine r_iload_n C 0 (dk oX9_isEnough 8 rfl) rfl ?_
  refine r_isi C Z (dk oX9_isEnough 9 rfl) cl_X9_207 st_X9_setsWithin (c_X9_setsWithin I J ((anN (opN Φ) S_)) (by omega)) rfl rfl (Nat.le_of_ble_eq_true rfl) ⟨Nat.le_of_ble_eq_true rfl, Nat.le_of_ble_eq_true rfl⟩ ⟨Nat.zero_le _, Nat.zero_le _⟩ (fun r13 I13 J13 h13 => ?_)
  obtain ⟨h13, e1_, e2_⟩ := h13
  have e1_ := e1_.symm
  have e2_ := e2_.symm
  subst e1_
  subst e2_
  subst h13
  refine r_istore (lo' := [(4, _), (3, _), (0, _), (1, _), (2, _)]) C (dk oX9_isEnough 10 rfl) (by decide) rfl ?_
  refine r_iconst C (dk oX9_isEnough 11 rfl) (v := nI 0) (by decide) ?_
  refine r_istore (lo' := [(5, _), (4, _), (3, _), (0, _), (1, _), (2, _)]) C (dk oX9_isEnough 12 rfl) (by decide) rfl ?_
  refine r_iconst C (dk oX9_isEnough 13 rfl) (v := nI 0) (by decide) ?_
  refine r_istore (lo' := [(6, _), (5, _), (4, _), (3, _), (0, _), (1, _), (2, _)]) C (dk oX9_isEnough 14 rfl) (by decide) rfl ?_
  have L24 : ∀ (d_ : Nat) (i : Nat), 2 ^ pc ((anN (opN Φ) S_)) - i < d_ → i ≤ 2 ^ pc ((anN (opN Φ) S_)) → (∀ j, j < i → (!(evC (cd c_) (soN Φ (pd j (anN (opN Φ) S_) ||| S_)))) = false) → V p l e (rmL 2) s m args below meth c Q D A 7 0 0 n ad (mE cA ad I J) 24 [(0, .ref (ad 0)), (1, .int (nI c_)), (2, .int (nI S_)), (3, .int (nI (anN (opN Φ) S_))), (4, .int (nI (2 ^ pc (anN (opN Φ) S_)))), (5, .int (nI i)), (6, .int (nI (pd i (anN (opN Φ) S_))))] [] := by
    intro d_
    induction d_ with
    | zero => intros; exact absurd (by assumption) (Nat.not_lt_zero _)
    | succ d_ ih => 
      intro i hd_ hi hv
      refine r_iload C 5 (dk oX9_isEnough 15 rfl) rfl ?_
      refine r_iload C 4 (dk oX9_isEnough 16 rfl) rfl ?_
      refine r_icmp_ge (tgt := 72) C (dk oX9_isEnough 17 rfl) (by decide) (fun hb28 => ?_) (fun hb28 => ?_)
      · simp (disch := omega) only [nI_leI, nI_ltI, nI_eq, nI_eq0] at hb28
        refine r_iconst C (dk oX9_isEnough 38 rfl) (v := nI 1) (by decide) ?_
        refine hret (dk oX9_isEnough 39 rfl) rfl ?_
        exact ⟨by rw [show enB (cd c_) Φ S_ = true from by unfold enB; rw [anyB_f.mpr (fun j hj => hv j (by omega))]; rfl]; rfl, rfl, rfl⟩
      · simp (disch := omega) only [nI_leI, nI_ltI, nI_eq, nI_eq0] at hb28
        refine r_aload_n C 0 (dk oX9_isEnough 18 rfl) rfl ?_
        refine r_getR C (dk oX9_isEnough 19 rfl) fl_X9_33 rfl (kn hn rfl) ?_
        refine r_getR C (dk oX9_isEnough 20 rfl) fl_X9_81 rfl (kn hn rfl) ?_
        refine r_iload_n C 1 (dk oX9_isEnough 21 rfl) rfl ?_
        refine r_aload_n C 0 (dk oX9_isEnough 22 rfl) rfl ?_
        refine r_getR C (dk oX9_isEnough 23 rfl) fl_X9_40 rfl (kn hn rfl) ?_
        refine r_iload C 6 (dk oX9_isEnough 24 rfl) rfl ?_
        refine r_iload_n C 2 (dk oX9_isEnough 25 rfl) rfl ?_
        refine r_ior C (dk oX9_isEnough 26 rfl) ?_
        rw [fa_or]
        refine r_ivi C Z (dk oX9_isEnough 27 rfl) cl_X9_193 ci_X2_soBy rfl (kn hn rfl) (c38_X2_soBy hn I J (pd i (anN (opN Φ) S_) ||| S_) (bS (fun f => asB (Φ f)) 12) (bS (fun f => onB (Φ f)) 12) hM.2.2.2 hM.2.2.1) rfl rfl (Nat.le_of_ble_eq_true rfl) ⟨Nat.le_of_ble_eq_true rfl, Nat.le_of_ble_eq_true rfl⟩ ⟨Nat.zero_le _, Nat.zero_le _⟩ (fun r47 I47 J47 h47 => ?_)
        obtain ⟨h47, e1_, e2_⟩ := h47
        have e1_ := e1_.symm
        have e2_ := e2_.symm
        subst e1_
        subst e2_
        subst h47
        refine r_ivi C Z (dk oX9_isEnough 28 rfl) cl_X9_196 ci_X1_isOwed rfl (kn hn rfl) (c_X1_isOwed hn I J c_ (soN Φ (pd i (anN (opN Φ) S_) ||| S_)) (cd c_) (by omega) (soN_lt (or_lt12 (pd12 hO) hS)) (hc.2.2 c_ hcc).2.2.2) rfl rfl (Nat.le_of_ble_eq_true rfl) ⟨Nat.le_of_ble_eq_true rfl, Nat.le_of_ble_eq_true rfl⟩ ⟨Nat.zero_le _, Nat.zero_le _⟩ (fun r50 I50 J50 h50 => ?_)
        obtain ⟨h50, e1_, e2_⟩ := h50
        have e1_ := e1_.symm
        have e2_ := e2_.symm
        subst e1_
        subst e2_
        subst h50
        refine r_if_ne (tgt := 58) C (dk oX9_isEnough 29 rfl) (by decide) (fun hb53 => ?_) (fun hb53 => ?_)
        · rw [b32_n] at hb53
          refine r_iinc (lo' := [(5, _), (0, _), (1, _), (2, _), (3, _), (4, _), (6, _)]) C 5 (dk oX9_isEnough 32 rfl) rfl (by first | exact nI_inc _ | rfl) (by decide) rfl ?_
          refine r_iload C 6 (dk oX9_isEnough 33 rfl) rfl ?_
          refine r_iload_n C 4 (dk oX9_isEnough 34 rfl) rfl ?_
          refine r_isi C Z (dk oX9_isEnough 35 rfl) cl_X9_216 st_X9_nextSet (c_X9_nextSet I J (i) ((anN (opN Φ) S_)) (by omega)) rfl rfl (Nat.le_of_ble_eq_true rfl) ⟨Nat.le_of_ble_eq_true rfl, Nat.le_of_ble_eq_true rfl⟩ ⟨Nat.zero_le _, Nat.zero_le _⟩ (fun r64 I64 J64 h64 => ?_)
          obtain ⟨h64, e1_, e2_⟩ := h64
          have e1_ := e1_.symm
          have e2_ := e2_.symm
          subst e1_
          subst e2_
          subst h64
          refine r_istore (lo' := [(6, _), (5, _), (0, _), (1, _), (2, _), (3, _), (4, _)]) C (dk oX9_isEnough 36 rfl) (by decide) rfl ?_
          refine r_goto (tgt := 24) C (dk oX9_isEnough 37 rfl) (by decide) ?_
          refine V.sub [2, 3, 4, 5, 6, 1, 0] rfl ?_
          refine ih (i + 1) (by omega) (by omega) (fun j hj => ?_)
          by_cases e : j = i
          · subst e
            rw [hb53]; rfl
          · exact hv j (by omega)
        · rw [b32_0] at hb53
          refine r_iconst C (dk oX9_isEnough 30 rfl) (v := nI 0) (by decide) ?_
          refine hret (dk oX9_isEnough 31 rfl) rfl ?_
          exact ⟨by rw [show enB (cd c_) Φ S_ = false from by unfold enB; rw [(anyB_t _).mpr ⟨i, Nat.not_le.mp hb28, by rw [hb53]; rfl⟩]; rfl]; rfl, rfl, rfl⟩
  refine V.sub [4, 5, 6, 3, 2, 1, 0] rfl ?_
  have h0 := L24 (2 ^ pc ((anN (opN Φ) S_)) + 1) 0 (by omega) (Nat.zero_le _) (fun j hj => absurd hj (Nat.not_lt_zero _))
  rw [pd_0] at h0
  exact h0

set_option maxHeartbeats 1000000 in
set_option maxRecDepth 100000 in
theorem c_X9_changesIfTurned (hn : 117 ≤ n) (I : MI) (J : MJ) (nc : Nat) (co : Nat → Int32) (cd : Nat → List Nat) (hc : CClm I J 8 nc co cd) (Φ : Nat → FS) (hM : Fc I 38 Φ) (c_ : Nat) (hcc : c_ < nc) (S_ : Nat) (hS : S_ < 4096) (hd_b : Bool) : Ci l n ad cA D z 2 yX9_changesIfTurned cX9_changesIfTurned 8 .boolean I J [.ref (ad 0), .int (nI c_), .int (nI S_), .int (b32 hd_b)] (fun r I' J' => r = b32 (cgB (cd c_) Φ S_ hd_b) ∧ I' = I ∧ J' = J) := by
  refine Ci.of (by decide) (Nat.le_of_ble_eq_true rfl) ?_
  intro p e s m args below meth c A C hin Z Q hret
  have hnc := hc.1
  have hop := @opN_lt Φ
  have hways := p2pc hop
  have hpos := p2pos (opN Φ)
  refine r_aload_n C 0 (dk oX9_changesIfTurned 0 rfl) rfl ?_
  refine r_getR C (dk oX9_changesIfTurned 1 rfl) fl_X9_40 rfl (kn hn rfl) ?_
  refine r_getI C (dk oX9_changesIfTurned 2 rfl) fl_X9_190 rfl (kn hn rfl) ?_
  have h6 : I 38 6 = nI (opN Φ) := hM.2.1
  rw [h6]
  refine r_istore (lo' := [(4, _), (0, _), (1, _), (2, _), (3, _)]) C (dk oX9_changesIfTurned 3 rfl) (by decide) rfl ?_
  refine r_iload C 0 (dk oX9_changesIfTurned 4 rfl) rfl ?_
  refine r_isi C Z (dk oX9_changesIfTurned 5 rfl) cl_X9_207 st_X9_setsWithin (c_X9_setsWithin I J (opN Φ) (by omega)) rfl rfl (Nat.le_of_ble_eq_true rfl) ⟨Nat.le_of_ble_eq_true rfl, Nat.le_of_ble_eq_true rfl⟩ ⟨Nat.zero_le _, Nat.zero_le _⟩ (fun r11 I11 J11 h11 => ?_)
  obtain ⟨h11, e1_, e2_⟩ := h11
  have e1_ := e1_.symm
  have e2_ := e2_.symm
  subst e1_
  subst e2_
  subst h11
  refine r_istore (lo' := [(5, _), (4, _), (0, _), (1, _), (2, _), (3, _)]) C (dk oX9_changesIfTurned 6 rfl) (by decide) rfl ?_
  refine r_iconst C (dk oX9_changesIfTurned 7 rfl) (v := nI 0) (by decide) ?_
  refine r_istore (lo' := [(6, _), (5, _), (4, _), (0, _), (1, _), (2, _), (3, _)]) C (dk oX9_changesIfTurned 8 rfl) (by decide) rfl ?_
  refine r_iconst C (dk oX9_changesIfTurned 9 rfl) (v := nI 0) (by decide) ?_
  refine r_istore (lo' := [(7, _), (6, _), (5, _), (4, _), (0, _), (1, _), (2, _), (3, _)]) C (dk oX9_changesIfTurned 10 rfl) (by decide) rfl ?_
  have L22 : ∀ (d_ : Nat) (i : Nat), 2 ^ pc (opN Φ) - i < d_ → i ≤ 2 ^ pc (opN Φ) → (∀ j, j < i → (evC (cd c_) (soN Φ (pd j (opN Φ)) ^^^ S_) != hd_b) = false) → V p l e (rmL 2) s m args below meth c Q D A 8 0 0 n ad (mE cA ad I J) 22 [(0, .ref (ad 0)), (1, .int (nI c_)), (2, .int (nI S_)), (3, .int (b32 hd_b)), (4, .int (nI (opN Φ))), (5, .int (nI (2 ^ pc (opN Φ)))), (6, .int (nI i)), (7, .int (nI (pd i (opN Φ))))] [] := by
    intro d_
    induction d_ with
    | zero => intros; exact absurd (by assumption) (Nat.not_lt_zero _)
    | succ d_ ih => 
      intro i hd_ hi hv
      refine r_iload C 6 (dk oX9_changesIfTurned 11 rfl) rfl ?_
      refine r_iload C 5 (dk oX9_changesIfTurned 12 rfl) rfl ?_
      refine r_icmp_ge (tgt := 72) C (dk oX9_changesIfTurned 13 rfl) (by decide) (fun hb26 => ?_) (fun hb26 => ?_)
      · simp (disch := omega) only [nI_leI, nI_ltI, nI_eq, nI_eq0] at hb26
        refine r_iconst C (dk oX9_changesIfTurned 35 rfl) (v := nI 0) (by decide) ?_
        refine hret (dk oX9_changesIfTurned 36 rfl) rfl ?_
        exact ⟨by rw [show cgB (cd c_) Φ S_ hd_b = false from anyB_f.mpr (fun j hj => hv j (by omega))]; rfl, rfl, rfl⟩
      · simp (disch := omega) only [nI_leI, nI_ltI, nI_eq, nI_eq0] at hb26
        refine r_aload_n C 0 (dk oX9_changesIfTurned 14 rfl) rfl ?_
        refine r_getR C (dk oX9_changesIfTurned 15 rfl) fl_X9_33 rfl (kn hn rfl) ?_
        refine r_getR C (dk oX9_changesIfTurned 16 rfl) fl_X9_81 rfl (kn hn rfl) ?_
        refine r_iload_n C 1 (dk oX9_changesIfTurned 17 rfl) rfl ?_
        refine r_aload_n C 0 (dk oX9_changesIfTurned 18 rfl) rfl ?_
        refine r_getR C (dk oX9_changesIfTurned 19 rfl) fl_X9_40 rfl (kn hn rfl) ?_
        refine r_iload C 7 (dk oX9_changesIfTurned 20 rfl) rfl ?_
        refine r_ivi C Z (dk oX9_changesIfTurned 21 rfl) cl_X9_193 ci_X2_soBy rfl (kn hn rfl) (c38_X2_soBy hn I J (pd i (opN Φ)) (bS (fun f => asB (Φ f)) 12) (bS (fun f => onB (Φ f)) 12) hM.2.2.2 hM.2.2.1) rfl rfl (Nat.le_of_ble_eq_true rfl) ⟨Nat.le_of_ble_eq_true rfl, Nat.le_of_ble_eq_true rfl⟩ ⟨Nat.zero_le _, Nat.zero_le _⟩ (fun r43 I43 J43 h43 => ?_)
        obtain ⟨h43, e1_, e2_⟩ := h43
        have e1_ := e1_.symm
        have e2_ := e2_.symm
        subst e1_
        subst e2_
        subst h43
        refine r_iload_n C 2 (dk oX9_changesIfTurned 22 rfl) rfl ?_
        refine r_ixor C (dk oX9_changesIfTurned 23 rfl) ?_
        rw [nx_xor]
        refine r_ivi C Z (dk oX9_changesIfTurned 24 rfl) cl_X9_196 ci_X1_isOwed rfl (kn hn rfl) (c_X1_isOwed hn I J c_ (soN Φ (pd i (opN Φ)) ^^^ S_) (cd c_) (by omega) (xor_lt12 (soN_lt (pd12 hop)) hS) (hc.2.2 c_ hcc).2.2.2) rfl rfl (Nat.le_of_ble_eq_true rfl) ⟨Nat.le_of_ble_eq_true rfl, Nat.le_of_ble_eq_true rfl⟩ ⟨Nat.zero_le _, Nat.zero_le _⟩ (fun r48 I48 J48 h48 => ?_)
        obtain ⟨h48, e1_, e2_⟩ := h48
        have e1_ := e1_.symm
        have e2_ := e2_.symm
        subst e1_
        subst e2_
        subst h48
        refine r_iload_n C 3 (dk oX9_changesIfTurned 25 rfl) rfl ?_
        refine r_icmp_eq (tgt := 57) C (dk oX9_changesIfTurned 26 rfl) (by decide) (fun hb52 => ?_) (fun hb52 => ?_)
        · rw [b32_inj] at hb52
          refine r_iinc (lo' := [(6, _), (0, _), (1, _), (2, _), (3, _), (4, _), (5, _), (7, _)]) C 6 (dk oX9_changesIfTurned 29 rfl) rfl (by first | exact nI_inc _ | rfl) (by decide) rfl ?_
          refine r_iload C 7 (dk oX9_changesIfTurned 30 rfl) rfl ?_
          refine r_iload C 5 (dk oX9_changesIfTurned 31 rfl) rfl ?_
          refine r_isi C Z (dk oX9_changesIfTurned 32 rfl) cl_X9_216 st_X9_nextSet (c_X9_nextSet I J (i) (opN Φ) (by omega)) rfl rfl (Nat.le_of_ble_eq_true rfl) ⟨Nat.le_of_ble_eq_true rfl, Nat.le_of_ble_eq_true rfl⟩ ⟨Nat.zero_le _, Nat.zero_le _⟩ (fun r64 I64 J64 h64 => ?_)
          obtain ⟨h64, e1_, e2_⟩ := h64
          have e1_ := e1_.symm
          have e2_ := e2_.symm
          subst e1_
          subst e2_
          subst h64
          refine r_istore (lo' := [(7, _), (6, _), (0, _), (1, _), (2, _), (3, _), (4, _), (5, _)]) C (dk oX9_changesIfTurned 33 rfl) (by decide) rfl ?_
          refine r_goto (tgt := 22) C (dk oX9_changesIfTurned 34 rfl) (by decide) ?_
          refine V.sub [2, 3, 4, 5, 6, 7, 1, 0] rfl ?_
          refine ih (i + 1) (by omega) (by omega) (fun j hj => ?_)
          by_cases e : j = i
          · subst e
            rw [hb52]; exact bne_self_eq_false _
          · exact hv j (by omega)
        · rw [b32_inj] at hb52
          refine r_iconst C (dk oX9_changesIfTurned 27 rfl) (v := nI 1) (by decide) ?_
          refine hret (dk oX9_changesIfTurned 28 rfl) rfl ?_
          exact ⟨by rw [show cgB (cd c_) Φ S_ hd_b = true from (anyB_t _).mpr ⟨i, Nat.not_le.mp hb26, bne_iff_ne.mpr hb52⟩]; rfl, rfl, rfl⟩
  refine V.sub [4, 5, 6, 7, 3, 2, 1, 0] rfl ?_
  have h0 := L22 (2 ^ pc (opN Φ) + 1) 0 (by omega) (Nat.zero_le _) (fun j hj => absurd hj (Nat.not_lt_zero _))
  rw [pd_0] at h0
  exact h0

theorem Fc.q {I I' : MI} {b : Nat} {Φ : Nat → FS} (h : Fc I b Φ) (hb : b < 46) (hF : ∀ k, k ≠ 53 → k ≠ 54 → I' k = I k) : Fc I' b Φ := by
  refine ⟨fun f hf i hi => ?_, ?_, ?_, ?_⟩
  · rw [hF _ (by omega) (by omega)]; exact h.1 f hf i hi
  · rw [hF _ (by omega) (by omega)]; exact h.2.1
  · rw [hF _ (by omega) (by omega)]; exact h.2.2.1
  · rw [hF _ (by omega) (by omega)]; exact h.2.2.2
theorem CClm.q {I I' : MI} {J : MJ} {nc : Nat} {co : Nat → Int32} {cd : Nat → List Nat} (h : CClm I J 8 nc co cd) (hF : ∀ k, k ≠ 53 → k ≠ 54 → I' k = I k) : CClm I' J 8 nc co cd := h.cp (smC.rf (fun k a c => hF k (by omega) (by omega)) (fun k _ _ => rfl))
theorem CPrf.q {I I' : MI} {nk : Nat} {sd fo od ct : Nat → Nat} {br : Nat → Bool} (h : CPrf I 8 nk sd fo od ct br) (hF : ∀ k, k ≠ 53 → k ≠ 54 → I' k = I k) : CPrf I' 8 nk sd fo od ct br := h.cp (smK.rf (fun k a c => hF k (by omega) (by omega)))
theorem brN_16 {br : Nat → Bool} {k : Nat} (h : k ≤ 16) : bS br k < 65536 := Nat.lt_of_lt_of_le (bS_lt k) (show 2 ^ k ≤ 2 ^ 16 from Nat.pow_le_pow_right (by decide) h)
theorem chQ_eq (k : Prf) (s : Nat) : (fun j => decide (k.2.1 j = s) && !(k.2.2.2.2.2 j)) = chQ k s := rfl
theorem bsN_s (G : Nat → Int32) (K : Nat → Nat) (m w i : Nat) : bsN G K m w (i + 1) = if K (pd (i + 1) w) ≤ m ∧ ((bsN G K m w i).2.2 < G (pd (i + 1) w) ∨ G (pd (i + 1) w) = (bsN G K m w i).2.2 ∧ K (pd (i + 1) w) < (bsN G K m w i).2.1) then (pd (i + 1) w, K (pd (i + 1) w), G (pd (i + 1) w)) else bsN G K m w i := rfl
theorem bsN_t {G : Nat → Int32} {K : Nat → Nat} {m w i : Nat} (h1 : K (pd (i + 1) w) ≤ m) (h2 : (bsN G K m w i).2.2 < G (pd (i + 1) w) ∨ G (pd (i + 1) w) = (bsN G K m w i).2.2 ∧ K (pd (i + 1) w) < (bsN G K m w i).2.1) : bsN G K m w (i + 1) = (pd (i + 1) w, K (pd (i + 1) w), G (pd (i + 1) w)) := by
  rw [bsN_s]
  exact if_pos (And.intro h1 h2)
theorem bsN_f1 {G : Nat → Int32} {K : Nat → Nat} {m w i : Nat} (h1 : ¬ K (pd (i + 1) w) ≤ m) : bsN G K m w (i + 1) = bsN G K m w i := by
  rw [bsN_s]
  exact if_neg (fun q => h1 q.1)
theorem bsN_f2 {G : Nat → Int32} {K : Nat → Nat} {m w i : Nat} (h1 : ¬ (bsN G K m w i).2.2 < G (pd (i + 1) w)) (h2 : G (pd (i + 1) w) = (bsN G K m w i).2.2 → ¬ K (pd (i + 1) w) < (bsN G K m w i).2.1) : bsN G K m w (i + 1) = bsN G K m w i := by
  rw [bsN_s]
  exact if_neg (fun q => q.2.elim h1 (fun z => h2 z.1 z.2))
theorem rpN_s (G : Nat → Int32) (w i : Nat) : rpN G w (i + 1) = if (rpN G w i).2 < G (pd (i + 1) w) then (pd (i + 1) w, G (pd (i + 1) w)) else rpN G w i := rfl
theorem bsN_K {G : Nat → Int32} {K : Nat → Nat} {m w b : Nat} (hK : ∀ S, K S ≤ b) : ∀ i, (bsN G K m w i).2.1 ≤ b
  | 0 => Nat.zero_le _
  | i + 1 => by
    rw [bsN_s]
    split
    · exact hK _
    · exact bsN_K hK i
set_option maxHeartbeats 1000000 in
set_option maxRecDepth 100000 in
theorem c_X9_gain (hn : 117 ≤ n) (I : MI) (J : MJ) (cl : Clm) (hc : CClm I J 8 cl.1 cl.2.1 cl.2.2) (k_ : Prf) (hK : CPrf I 8 k_.1 k_.2.1 k_.2.2.1 k_.2.2.2.1 k_.2.2.2.2.1 k_.2.2.2.2.2) (Φ : Nat → FS) (hM : Fc I 38 Φ) (s_ : Nat) (hs : s_ < 2) (S_ O_ : Nat) (hS : S_ < 65536) (hO : O_ < 65536) : Ci l n ad cA D z 16 yX9_gain cX9_gain 5 .int I J [.ref (ad 0), .int (nI s_), .int (nI S_), .int (nI O_)] (fun r I' J' => r = gnF cl k_ Φ s_ S_ O_ ∧ J' = J ∧ ∀ k, k ≠ 53 → k ≠ 54 → I' k = I k) := by
  refine Ci.of (by decide) (Nat.le_of_ble_eq_true rfl) ?_
  intro p e s m args below meth c A C hin Z Q hret
  refine r_aload_n C 0 (dk oX9_gain 0 rfl) rfl ?_
  refine r_getR C (dk oX9_gain 1 rfl) fl_X9_50 rfl (kn hn rfl) ?_
  refine r_aload_n C 0 (dk oX9_gain 2 rfl) rfl ?_
  refine r_getR C (dk oX9_gain 3 rfl) fl_X9_33 rfl (kn hn rfl) ?_
  refine r_aload_n C 0 (dk oX9_gain 4 rfl) rfl ?_
  refine r_getR C (dk oX9_gain 5 rfl) fl_X9_40 rfl (kn hn rfl) ?_
  refine r_aload_n C 0 (dk oX9_gain 6 rfl) rfl ?_
  refine r_getR C (dk oX9_gain 7 rfl) fl_X9_33 rfl (kn hn rfl) ?_
  refine r_getR C (dk oX9_gain 8 rfl) fl_X9_128 rfl (kn hn rfl) ?_
  refine r_getI C (dk oX9_gain 9 rfl) fl_X9_236 rfl (kn hn rfl) ?_
  rw [show I 33 1 = nI (bS k_.2.2.2.2.2 k_.1) from hK.2.2.1]
  have hB := @brN_16 k_.2.2.2.2.2 _ hK.1
  refine r_iload_n C 2 (dk oX9_gain 10 rfl) rfl ?_
  refine r_ior C (dk oX9_gain 11 rfl) ?_
  rw [fa_or]
  refine r_iload_n C 3 (dk oX9_gain 12 rfl) rfl ?_
  refine r_ior C (dk oX9_gain 13 rfl) ?_
  rw [fa_or]
  refine r_ivi C Z (dk oX9_gain 14 rfl) cl_X9_261 ci_X6_weighClaims rfl (kn hn rfl) (c38_X6_weighClaims hn I J cl hc k_ hK Φ hM (bS k_.2.2.2.2.2 k_.1 ||| S_ ||| O_) (or_lt16 (or_lt16 hB hS) hO)) rfl rfl (Nat.le_of_ble_eq_true rfl) ⟨Nat.le_of_ble_eq_true rfl, Nat.le_of_ble_eq_true rfl⟩ ⟨Nat.zero_le _, Nat.zero_le _⟩ (fun r26 I26 J26 h26 => ?_)
  obtain ⟨e1_, e2_, hF, _, _⟩ := h26
  have e1_ := e1_.symm
  have e2_ := e2_.symm
  subst e1_
  subst e2_
  refine r_istore (lo' := [(4, _), (0, _), (1, _), (2, _), (3, _)]) C (dk oX9_gain 15 rfl) (by decide) rfl ?_
  refine r_iload_n C 2 (dk oX9_gain 16 rfl) rfl ?_
  refine r_if_ne (tgt := 40) C (dk oX9_gain 17 rfl) (by decide) (fun hb32 => ?_) (fun hb32 => ?_)
  · have hs0 : ¬ s_ = 0 := fun q => hb32 (by rw [q]; rfl)
    refine r_iload C 0 (dk oX9_gain 20 rfl) rfl ?_
    refine r_ineg C (dk oX9_gain 21 rfl) ?_
    refine r_sipush C (dk oX9_gain 22 rfl) (v := nI 1000) (by decide) ?_
    refine r_aload_n C 1 (dk oX9_gain 23 rfl) rfl ?_
    refine r_getR C (dk oX9_gain 24 rfl) fl_X9_33 rfl (kn hn rfl) ?_
    refine r_getR C (dk oX9_gain 25 rfl) fl_X9_128 rfl (kn hn rfl) ?_
    refine r_iload_n C 3 (dk oX9_gain 26 rfl) rfl ?_
    refine r_ivi C Z (dk oX9_gain 27 rfl) cl_X9_275 ci_X5_costOf rfl (kn hn rfl) (c_X5_costOf hn I26 J k_.1 k_.2.1 k_.2.2.1 k_.2.2.2.1 k_.2.2.2.2.1 k_.2.2.2.2.2 (hK.q hF) S_ (by omega)) rfl rfl (Nat.le_of_ble_eq_true rfl) ⟨Nat.le_of_ble_eq_true rfl, Nat.le_of_ble_eq_true rfl⟩ ⟨Nat.zero_le _, Nat.zero_le _⟩ (fun r54 I54 J54 h54 => ?_)
    obtain ⟨h54, e1_, e2_⟩ := h54
    have e1_ := e1_.symm
    have e2_ := e2_.symm
    subst e1_
    subst e2_
    subst h54
    refine r_imul C (dk oX9_gain 28 rfl) ?_
    refine r_isub C (dk oX9_gain 29 rfl) ?_
    refine hret (dk oX9_gain 30 rfl) rfl ?_
    refine ⟨?_, rfl, hF⟩
    unfold gnF
    first
      | rw [if_pos hs0]
      | rw [if_neg hs0]
  · have hs0 : s_ = 0 := by
      simp (disch := omega) only [nI_leI, nI_ltI, nI_eq, nI_eq0] at hb32
      exact hb32
    refine r_iload C 0 (dk oX9_gain 18 rfl) rfl ?_
    refine r_goto (tgt := 43) C (dk oX9_gain 19 rfl) (by decide) ?_
    refine r_sipush C (dk oX9_gain 22 rfl) (v := nI 1000) (by decide) ?_
    refine r_aload_n C 1 (dk oX9_gain 23 rfl) rfl ?_
    refine r_getR C (dk oX9_gain 24 rfl) fl_X9_33 rfl (kn hn rfl) ?_
    refine r_getR C (dk oX9_gain 25 rfl) fl_X9_128 rfl (kn hn rfl) ?_
    refine r_iload_n C 3 (dk oX9_gain 26 rfl) rfl ?_
    refine r_ivi C Z (dk oX9_gain 27 rfl) cl_X9_275 ci_X5_costOf rfl (kn hn rfl) (c_X5_costOf hn I26 J k_.1 k_.2.1 k_.2.2.1 k_.2.2.2.1 k_.2.2.2.2.1 k_.2.2.2.2.2 (hK.q hF) S_ (by omega)) rfl rfl (Nat.le_of_ble_eq_true rfl) ⟨Nat.le_of_ble_eq_true rfl, Nat.le_of_ble_eq_true rfl⟩ ⟨Nat.zero_le _, Nat.zero_le _⟩ (fun r54 I54 J54 h54 => ?_)
    obtain ⟨h54, e1_, e2_⟩ := h54
    have e1_ := e1_.symm
    have e2_ := e2_.symm
    subst e1_
    subst e2_
    subst h54
    refine r_imul C (dk oX9_gain 28 rfl) ?_
    refine r_isub C (dk oX9_gain 29 rfl) ?_
    refine hret (dk oX9_gain 30 rfl) rfl ?_
    refine ⟨?_, rfl, hF⟩
    unfold gnF
    first
      | rw [if_pos hs0]
      | rw [if_neg hs0]

set_option maxHeartbeats 1000000 in
set_option maxRecDepth 100000 in
theorem c_X9_replySet (hn : 117 ≤ n) (I : MI) (J : MJ) (cl : Clm) (hc : CClm I J 8 cl.1 cl.2.1 cl.2.2) (k_ : Prf) (hK : CPrf I 8 k_.1 k_.2.1 k_.2.2.1 k_.2.2.2.1 k_.2.2.2.2.1 k_.2.2.2.2.2) (Φ : Nat → FS) (hM : Fc I 38 Φ) (s_ : Nat) (hs : s_ < 2) (O_ : Nat) (hO : O_ < 65536) : Ci l n ad cA D z 17 yX9_replySet cX9_replySet 10 .int I J [.ref (ad 0), .int (nI s_), .int (nI O_)] (fun r I' J' => r = nI (rpF cl k_ Φ s_ O_) ∧ J' = J ∧ ∀ k, k ≠ 53 → k ≠ 54 → I' k = I k) := by
  refine Ci.of (by decide) (Nat.le_of_ble_eq_true rfl) ?_
  intro p e s m args below meth c A C hin Z Q hret
  have hF : ∀ k, k ≠ 53 → k ≠ 54 → I k = I k := fun _ _ _ => rfl
  refine r_aload_n C 0 (dk oX9_replySet 0 rfl) rfl ?_
  refine r_getR C (dk oX9_replySet 1 rfl) fl_X9_33 rfl (kn hn rfl) ?_
  refine r_getR C (dk oX9_replySet 2 rfl) fl_X9_128 rfl (kn hn rfl) ?_
  refine r_iload_n C 1 (dk oX9_replySet 3 rfl) rfl ?_
  refine r_iconst C (dk oX9_replySet 4 rfl) (v := nI 4) (by decide) ?_
  refine r_ivi C Z (dk oX9_replySet 5 rfl) cl_X9_300 ci_X5_notBrought rfl (kn hn rfl) (c_X5_notBrought hn I J k_.1 k_.2.1 k_.2.2.1 k_.2.2.2.1 k_.2.2.2.2.1 k_.2.2.2.2.2 hK s_ 4 hs (by decide)) rfl rfl (Nat.le_of_ble_eq_true rfl) ⟨Nat.le_of_ble_eq_true rfl, Nat.le_of_ble_eq_true rfl⟩ ⟨Nat.zero_le _, Nat.zero_le _⟩ (fun r9 I9 J9 h9 => ?_)
  obtain ⟨h9, e1_, e2_⟩ := h9
  have e1_ := e1_.symm
  have e2_ := e2_.symm
  subst e1_
  subst e2_
  subst h9
  have hw : chS (chQ k_ s_) 4 k_.1 < 65536 := chS_16 hK.1
  have hways := p2pc16 (chS (chQ k_ s_) 4 k_.1)
  have hpos := p2pos (chS (chQ k_ s_) 4 k_.1)
  rw [chQ_eq]
  refine r_istore_n (lo' := [(3, _), (0, _), (1, _), (2, _)]) C (dk oX9_replySet 6 rfl) rfl (by decide) rfl ?_
  refine r_iload_n C 0 (dk oX9_replySet 7 rfl) rfl ?_
  refine r_isi C Z (dk oX9_replySet 8 rfl) cl_X9_207 st_X9_setsWithin (c_X9_setsWithin I J ((chS (chQ k_ s_) 4 k_.1)) (hw)) rfl rfl (Nat.le_of_ble_eq_true rfl) ⟨Nat.le_of_ble_eq_true rfl, Nat.le_of_ble_eq_true rfl⟩ ⟨Nat.zero_le _, Nat.zero_le _⟩ (fun r14 I14 J14 h14 => ?_)
  obtain ⟨h14, e1_, e2_⟩ := h14
  have e1_ := e1_.symm
  have e2_ := e2_.symm
  subst e1_
  subst e2_
  subst h14
  refine r_istore (lo' := [(4, _), (3, _), (0, _), (1, _), (2, _)]) C (dk oX9_replySet 9 rfl) (by decide) rfl ?_
  refine r_iconst C (dk oX9_replySet 10 rfl) (v := nI 0) (by decide) ?_
  refine r_istore (lo' := [(5, _), (4, _), (3, _), (0, _), (1, _), (2, _)]) C (dk oX9_replySet 11 rfl) (by decide) rfl ?_
  refine r_aload_n C 3 (dk oX9_replySet 12 rfl) rfl ?_
  refine r_iload_n C 4 (dk oX9_replySet 13 rfl) rfl ?_
  refine r_iconst C (dk oX9_replySet 14 rfl) (v := nI 0) (by decide) ?_
  refine r_iload_n C 5 (dk oX9_replySet 15 rfl) rfl ?_
  refine r_ivi C Z (dk oX9_replySet 16 rfl) cl_X9_268 ci_X9_gain rfl (kn hn rfl) (c_X9_gain hn I J cl (hc.q hF) k_ (hK.q hF) Φ (hM.q (by decide) hF) s_ hs (0) (O_) (by decide) (hO)) rfl rfl (Nat.le_of_ble_eq_true rfl) ⟨Nat.le_of_ble_eq_true rfl, Nat.le_of_ble_eq_true rfl⟩ ⟨Nat.zero_le _, Nat.zero_le _⟩ (fun r26 I26 J26 h26 => ?_)
  obtain ⟨e1_, e2_, hF26⟩ := h26
  have e1_ := e1_.symm
  have e2_ := e2_.symm
  subst e1_
  subst e2_
  have hF26 : ∀ k, k ≠ 53 → k ≠ 54 → I26 k = I k := fun k a b => (hF26 k a b).trans (hF k a b)
  refine r_istore (lo' := [(6, _), (5, _), (4, _), (3, _), (0, _), (1, _), (2, _)]) C (dk oX9_replySet 17 rfl) (by decide) rfl ?_
  refine r_iconst C (dk oX9_replySet 18 rfl) (v := nI 1) (by decide) ?_
  refine r_istore (lo' := [(7, _), (6, _), (5, _), (4, _), (3, _), (0, _), (1, _), (2, _)]) C (dk oX9_replySet 19 rfl) (by decide) rfl ?_
  refine r_iconst C (dk oX9_replySet 20 rfl) (v := nI 0) (by decide) ?_
  refine r_topI (show nI 0 = nI (pd 0 (chS (chQ k_ s_) 4 k_.1)) from by rw [pd_0]) ?_
  refine r_iload_n C 4 (dk oX9_replySet 21 rfl) rfl ?_
  refine r_isi C Z (dk oX9_replySet 22 rfl) cl_X9_216 st_X9_nextSet (c_X9_nextSet I26 J 0 (chS (chQ k_ s_) 4 k_.1) hw) rfl rfl (Nat.le_of_ble_eq_true rfl) ⟨Nat.le_of_ble_eq_true rfl, Nat.le_of_ble_eq_true rfl⟩ ⟨Nat.zero_le _, Nat.zero_le _⟩ (fun r36 I36 J36 h36 => ?_)
  obtain ⟨h36, e1_, e2_⟩ := h36
  have e1_ := e1_.symm
  have e2_ := e2_.symm
  subst e1_
  subst e2_
  subst h36
  refine r_istore (lo' := [(8, _), (7, _), (6, _), (5, _), (4, _), (3, _), (0, _), (1, _), (2, _)]) C (dk oX9_replySet 23 rfl) (by decide) rfl ?_
  have L41 : ∀ (d_ : Nat) (j : Nat) (I1 : MI), 2 ^ pc (chS (chQ k_ s_) 4 k_.1) - j < d_ → j ≤ 2 ^ pc (chS (chQ k_ s_) 4 k_.1) - 1 → (∀ k, k ≠ 53 → k ≠ 54 → I1 k = I k) → V p l e (rmL 17) s m args below meth c Q D A 10 0 0 n ad (mE cA ad I1 J) 41 [(0, .ref (ad 0)), (1, .int (nI s_)), (2, .int (nI O_)), (3, .int (nI (chS (chQ k_ s_) 4 k_.1))), (4, .int (nI (2 ^ pc (chS (chQ k_ s_) 4 k_.1)))), (5, .int (nI (rpN (fun S => gnF cl k_ Φ s_ S O_) (chS (chQ k_ s_) 4 k_.1) j).1)), (6, .int (rpN (fun S => gnF cl k_ Φ s_ S O_) (chS (chQ k_ s_) 4 k_.1) j).2), (7, .int (nI (j + 1))), (8, .int (nI (pd (j + 1) (chS (chQ k_ s_) 4 k_.1))))] [] := by
    intro d_
    induction d_ with
    | zero => intros; exact absurd (by assumption) (Nat.not_lt_zero _)
    | succ d_ ih => 
      intro j I1 hd_ hj hF
      refine r_iload C 7 (dk oX9_replySet 24 rfl) rfl ?_
      refine r_iload C 4 (dk oX9_replySet 25 rfl) rfl ?_
      refine r_icmp_ge (tgt := 87) C (dk oX9_replySet 26 rfl) (by decide) (fun hb45 => ?_) (fun hb45 => ?_)
      · simp (disch := omega) only [nI_leI, nI_ltI, nI_eq, nI_eq0] at hb45
        refine r_iload C 5 (dk oX9_replySet 46 rfl) rfl ?_
        refine hret (dk oX9_replySet 47 rfl) rfl ?_
        exact ⟨by unfold rpF; rw [show 2 ^ pc (chS (chQ k_ s_) 4 k_.1) - 1 = j by omega], rfl, hF⟩
      · simp (disch := omega) only [nI_leI, nI_ltI, nI_eq, nI_eq0] at hb45
        refine r_aload_n C 0 (dk oX9_replySet 27 rfl) rfl ?_
        refine r_iload_n C 1 (dk oX9_replySet 28 rfl) rfl ?_
        refine r_iload C 8 (dk oX9_replySet 29 rfl) rfl ?_
        refine r_iload_n C 2 (dk oX9_replySet 30 rfl) rfl ?_
        refine r_ivi C Z (dk oX9_replySet 31 rfl) cl_X9_268 ci_X9_gain rfl (kn hn rfl) (c_X9_gain hn I1 J cl (hc.q hF) k_ (hK.q hF) Φ (hM.q (by decide) hF) s_ hs (pd (j + 1) (chS (chQ k_ s_) 4 k_.1)) (O_) (pd_lt hw) (hO)) rfl rfl (Nat.le_of_ble_eq_true rfl) ⟨Nat.le_of_ble_eq_true rfl, Nat.le_of_ble_eq_true rfl⟩ ⟨Nat.zero_le _, Nat.zero_le _⟩ (fun r53 I53 J53 h53 => ?_)
        obtain ⟨e1_, e2_, hF53⟩ := h53
        have e1_ := e1_.symm
        have e2_ := e2_.symm
        subst e1_
        subst e2_
        have hF53 : ∀ k, k ≠ 53 → k ≠ 54 → I53 k = I k := fun k a b => (hF53 k a b).trans (hF k a b)
        refine r_istore (lo' := [(9, _), (0, _), (1, _), (2, _), (3, _), (4, _), (5, _), (6, _), (7, _), (8, _)]) C (dk oX9_replySet 32 rfl) (by decide) rfl ?_
        refine r_iload C 0 (dk oX9_replySet 33 rfl) rfl ?_
        refine r_iload C 7 (dk oX9_replySet 34 rfl) rfl ?_
        refine r_icmp_le (tgt := 73) C (dk oX9_replySet 35 rfl) (by decide) (fun hb62 => ?_) (fun hb62 => ?_)
        · refine r_iinc (lo' := [(7, _), (9, _), (0, _), (1, _), (2, _), (3, _), (4, _), (5, _), (6, _), (8, _)]) C 8 (dk oX9_replySet 40 rfl) rfl (by first | exact nI_inc _ | rfl) (by decide) rfl ?_
          refine r_iload C 9 (dk oX9_replySet 41 rfl) rfl ?_
          refine r_iload_n C 5 (dk oX9_replySet 42 rfl) rfl ?_
          refine r_isi C Z (dk oX9_replySet 43 rfl) cl_X9_216 st_X9_nextSet (c_X9_nextSet I53 J (j + 1) (chS (chQ k_ s_) 4 k_.1) hw) rfl rfl (Nat.le_of_ble_eq_true rfl) ⟨Nat.le_of_ble_eq_true rfl, Nat.le_of_ble_eq_true rfl⟩ ⟨Nat.zero_le _, Nat.zero_le _⟩ (fun r79 I79 J79 h79 => ?_)
          obtain ⟨h79, e1_, e2_⟩ := h79
          have e1_ := e1_.symm
          have e2_ := e2_.symm
          subst e1_
          subst e2_
          subst h79
          refine r_istore (lo' := [(8, _), (7, _), (9, _), (0, _), (1, _), (2, _), (3, _), (4, _), (5, _), (6, _)]) C (dk oX9_replySet 44 rfl) (by decide) rfl ?_
          refine r_goto (tgt := 41) C (dk oX9_replySet 45 rfl) (by decide) ?_
          refine V.sub [3, 4, 5, 6, 7, 8, 9, 1, 0] rfl ?_
          have hih := ih (j + 1) I53 (by omega) (by omega) hF53
          rw [rpN_s] at hih
          first
            | rw [if_pos (Int32.not_le.mp hb62)] at hih
            | rw [if_neg (Int32.not_lt.mpr hb62)] at hih
          exact hih
        · refine r_iload C 9 (dk oX9_replySet 36 rfl) rfl ?_
          refine r_istore (lo' := [(5, _), (9, _), (0, _), (1, _), (2, _), (3, _), (4, _), (6, _), (7, _), (8, _)]) C (dk oX9_replySet 37 rfl) (by decide) rfl ?_
          refine r_iload C 1 (dk oX9_replySet 38 rfl) rfl ?_
          refine r_istore (lo' := [(6, _), (5, _), (9, _), (0, _), (1, _), (2, _), (3, _), (4, _), (7, _), (8, _)]) C (dk oX9_replySet 39 rfl) (by decide) rfl ?_
          refine r_iinc (lo' := [(7, _), (6, _), (5, _), (9, _), (0, _), (1, _), (2, _), (3, _), (4, _), (8, _)]) C 8 (dk oX9_replySet 40 rfl) rfl (by first | exact nI_inc _ | rfl) (by decide) rfl ?_
          refine r_iload C 9 (dk oX9_replySet 41 rfl) rfl ?_
          refine r_iload_n C 7 (dk oX9_replySet 42 rfl) rfl ?_
          refine r_isi C Z (dk oX9_replySet 43 rfl) cl_X9_216 st_X9_nextSet (c_X9_nextSet I53 J (j + 1) (chS (chQ k_ s_) 4 k_.1) hw) rfl rfl (Nat.le_of_ble_eq_true rfl) ⟨Nat.le_of_ble_eq_true rfl, Nat.le_of_ble_eq_true rfl⟩ ⟨Nat.zero_le _, Nat.zero_le _⟩ (fun r79 I79 J79 h79 => ?_)
          obtain ⟨h79, e1_, e2_⟩ := h79
          have e1_ := e1_.symm
          have e2_ := e2_.symm
          subst e1_
          subst e2_
          subst h79
          refine r_istore (lo' := [(8, _), (7, _), (6, _), (5, _), (9, _), (0, _), (1, _), (2, _), (3, _), (4, _)]) C (dk oX9_replySet 44 rfl) (by decide) rfl ?_
          refine r_goto (tgt := 41) C (dk oX9_replySet 45 rfl) (by decide) ?_
          refine V.sub [5, 6, 7, 8, 9, 3, 2, 1, 0] rfl ?_
          have hih := ih (j + 1) I53 (by omega) (by omega) hF53
          rw [rpN_s] at hih
          first
            | rw [if_pos (Int32.not_le.mp hb62)] at hih
            | rw [if_neg (Int32.not_lt.mpr hb62)] at hih
          exact hih
  refine V.sub [6, 7, 8, 5, 4, 3, 2, 1, 0] rfl ?_
  exact L41 (2 ^ pc (chS (chQ k_ s_) 4 k_.1) + 1) 0 I26 (by omega) (Nat.zero_le _) hF26

set_option maxHeartbeats 1000000 in
set_option maxRecDepth 100000 in
theorem c_X9_leadSet (hn : 117 ≤ n) (I : MI) (J : MJ) (cl : Clm) (hc : CClm I J 8 cl.1 cl.2.1 cl.2.2) (k_ : Prf) (hK : CPrf I 8 k_.1 k_.2.1 k_.2.2.1 k_.2.2.2.1 k_.2.2.2.2.1 k_.2.2.2.2.2) (Φ : Nat → FS) (hM : Fc I 38 Φ) (s_ : Nat) (hs : s_ < 2) : Ci l n ad cA D z 18 yX9_leadSet cX9_leadSet 9 .int I J [.ref (ad 0), .int (nI s_)] (fun r I' J' => r = nI (ldF cl k_ Φ s_) ∧ J' = J ∧ ∀ k, k ≠ 53 → k ≠ 54 → I' k = I k) := by
  refine Ci.of (by decide) (Nat.le_of_ble_eq_true rfl) ?_
  intro p e s m args below meth c A C hin Z Q hret
  have hF : ∀ k, k ≠ 53 → k ≠ 54 → I k = I k := fun _ _ _ => rfl
  refine r_aload_n C 0 (dk oX9_leadSet 0 rfl) rfl ?_
  refine r_getR C (dk oX9_leadSet 1 rfl) fl_X9_33 rfl (kn hn rfl) ?_
  refine r_getR C (dk oX9_leadSet 2 rfl) fl_X9_128 rfl (kn hn rfl) ?_
  refine r_iload_n C 1 (dk oX9_leadSet 3 rfl) rfl ?_
  refine r_iconst C (dk oX9_leadSet 4 rfl) (v := nI 4) (by decide) ?_
  refine r_ivi C Z (dk oX9_leadSet 5 rfl) cl_X9_300 ci_X5_notBrought rfl (kn hn rfl) (c_X5_notBrought hn I J k_.1 k_.2.1 k_.2.2.1 k_.2.2.2.1 k_.2.2.2.2.1 k_.2.2.2.2.2 hK s_ 4 hs (by decide)) rfl rfl (Nat.le_of_ble_eq_true rfl) ⟨Nat.le_of_ble_eq_true rfl, Nat.le_of_ble_eq_true rfl⟩ ⟨Nat.zero_le _, Nat.zero_le _⟩ (fun r9 I9 J9 h9 => ?_)
  obtain ⟨h9, e1_, e2_⟩ := h9
  have e1_ := e1_.symm
  have e2_ := e2_.symm
  subst e1_
  subst e2_
  subst h9
  have hw : chS (chQ k_ s_) 4 k_.1 < 65536 := chS_16 hK.1
  have hways := p2pc16 (chS (chQ k_ s_) 4 k_.1)
  have hpos := p2pos (chS (chQ k_ s_) 4 k_.1)
  rw [chQ_eq]
  refine r_istore_n (lo' := [(2, _), (0, _), (1, _)]) C (dk oX9_leadSet 6 rfl) rfl (by decide) rfl ?_
  refine r_iload_n C 0 (dk oX9_leadSet 7 rfl) rfl ?_
  refine r_isi C Z (dk oX9_leadSet 8 rfl) cl_X9_207 st_X9_setsWithin (c_X9_setsWithin I J ((chS (chQ k_ s_) 4 k_.1)) (hw)) rfl rfl (Nat.le_of_ble_eq_true rfl) ⟨Nat.le_of_ble_eq_true rfl, Nat.le_of_ble_eq_true rfl⟩ ⟨Nat.zero_le _, Nat.zero_le _⟩ (fun r14 I14 J14 h14 => ?_)
  obtain ⟨h14, e1_, e2_⟩ := h14
  have e1_ := e1_.symm
  have e2_ := e2_.symm
  subst e1_
  subst e2_
  subst h14
  refine r_istore_n (lo' := [(3, _), (2, _), (0, _), (1, _)]) C (dk oX9_leadSet 9 rfl) rfl (by decide) rfl ?_
  refine r_iconst C (dk oX9_leadSet 10 rfl) (v := nI 0) (by decide) ?_
  refine r_istore (lo' := [(4, _), (3, _), (2, _), (0, _), (1, _)]) C (dk oX9_leadSet 11 rfl) (by decide) rfl ?_
  refine r_aload_n C 3 (dk oX9_leadSet 12 rfl) rfl ?_
  refine r_iload_n C 4 (dk oX9_leadSet 13 rfl) rfl ?_
  refine r_iconst C (dk oX9_leadSet 14 rfl) (v := nI 0) (by decide) ?_
  refine r_aload_n C 3 (dk oX9_leadSet 15 rfl) rfl ?_
  refine r_iconst C (dk oX9_leadSet 16 rfl) (v := nI 1) (by decide) ?_
  refine r_iload_n C 4 (dk oX9_leadSet 17 rfl) rfl ?_
  refine r_isub C (dk oX9_leadSet 18 rfl) ?_
  rw [pk_sub (by omega)]
  refine r_iconst C (dk oX9_leadSet 19 rfl) (v := nI 0) (by decide) ?_
  refine r_ivi C Z (dk oX9_leadSet 20 rfl) cl_X9_281 ci_X9_replySet rfl (kn hn rfl) (c_X9_replySet hn I J cl (hc.q hF) k_ (hK.q hF) Φ (hM.q (by decide) hF) (1 - s_) (by omega) (0) (by decide)) rfl rfl (Nat.le_of_ble_eq_true rfl) ⟨Nat.le_of_ble_eq_true rfl, Nat.le_of_ble_eq_true rfl⟩ ⟨Nat.zero_le _, Nat.zero_le _⟩ (fun r29 I29 J29 h29 => ?_)
  obtain ⟨e1_, e2_, hF29⟩ := h29
  have e1_ := e1_.symm
  have e2_ := e2_.symm
  subst e1_
  subst e2_
  have hF0 := hF
  clear hF
  have hF : ∀ k, k ≠ 53 → k ≠ 54 → I29 k = I k := fun k a b => (hF29 k a b).trans (hF0 k a b)
  refine r_ivi C Z (dk oX9_leadSet 21 rfl) cl_X9_268 ci_X9_gain rfl (kn hn rfl) (c_X9_gain hn I29 J cl (hc.q hF) k_ (hK.q hF) Φ (hM.q (by decide) hF) s_ hs (0) (rpF cl k_ Φ (1 - s_) 0) (by decide) (rpF_lt hK.1)) rfl rfl (Nat.le_of_ble_eq_true rfl) ⟨Nat.le_of_ble_eq_true rfl, Nat.le_of_ble_eq_true rfl⟩ ⟨Nat.zero_le _, Nat.zero_le _⟩ (fun r32 I32 J32 h32 => ?_)
  obtain ⟨e1_, e2_, hF32⟩ := h32
  have e1_ := e1_.symm
  have e2_ := e2_.symm
  subst e1_
  subst e2_
  have hF32 : ∀ k, k ≠ 53 → k ≠ 54 → I32 k = I k := fun k a b => (hF32 k a b).trans (hF k a b)
  refine r_istore (lo' := [(5, _), (4, _), (3, _), (2, _), (0, _), (1, _)]) C (dk oX9_leadSet 22 rfl) (by decide) rfl ?_
  refine r_iconst C (dk oX9_leadSet 23 rfl) (v := nI 1) (by decide) ?_
  refine r_istore (lo' := [(6, _), (5, _), (4, _), (3, _), (2, _), (0, _), (1, _)]) C (dk oX9_leadSet 24 rfl) (by decide) rfl ?_
  refine r_iconst C (dk oX9_leadSet 25 rfl) (v := nI 0) (by decide) ?_
  refine r_topI (show nI 0 = nI (pd 0 (chS (chQ k_ s_) 4 k_.1)) from by rw [pd_0]) ?_
  refine r_iload_n C 4 (dk oX9_leadSet 26 rfl) rfl ?_
  refine r_isi C Z (dk oX9_leadSet 27 rfl) cl_X9_216 st_X9_nextSet (c_X9_nextSet I32 J 0 (chS (chQ k_ s_) 4 k_.1) hw) rfl rfl (Nat.le_of_ble_eq_true rfl) ⟨Nat.le_of_ble_eq_true rfl, Nat.le_of_ble_eq_true rfl⟩ ⟨Nat.zero_le _, Nat.zero_le _⟩ (fun r42 I42 J42 h42 => ?_)
  obtain ⟨h42, e1_, e2_⟩ := h42
  have e1_ := e1_.symm
  have e2_ := e2_.symm
  subst e1_
  subst e2_
  subst h42
  refine r_istore (lo' := [(7, _), (6, _), (5, _), (4, _), (3, _), (2, _), (0, _), (1, _)]) C (dk oX9_leadSet 28 rfl) (by decide) rfl ?_
  have L47 : ∀ (d_ : Nat) (j : Nat) (I1 : MI), 2 ^ pc (chS (chQ k_ s_) 4 k_.1) - j < d_ → j ≤ 2 ^ pc (chS (chQ k_ s_) 4 k_.1) - 1 → (∀ k, k ≠ 53 → k ≠ 54 → I1 k = I k) → V p l e (rmL 18) s m args below meth c Q D A 9 0 0 n ad (mE cA ad I1 J) 47 [(0, .ref (ad 0)), (1, .int (nI s_)), (2, .int (nI (chS (chQ k_ s_) 4 k_.1))), (3, .int (nI (2 ^ pc (chS (chQ k_ s_) 4 k_.1)))), (4, .int (nI (rpN (fun S => gnF cl k_ Φ s_ S (rpF cl k_ Φ (1 - s_) S)) (chS (chQ k_ s_) 4 k_.1) j).1)), (5, .int (rpN (fun S => gnF cl k_ Φ s_ S (rpF cl k_ Φ (1 - s_) S)) (chS (chQ k_ s_) 4 k_.1) j).2), (6, .int (nI (j + 1))), (7, .int (nI (pd (j + 1) (chS (chQ k_ s_) 4 k_.1))))] [] := by
    intro d_
    induction d_ with
    | zero => intros; exact absurd (by assumption) (Nat.not_lt_zero _)
    | succ d_ ih => 
      intro j I1 hd_ hj hF
      refine r_iload C 6 (dk oX9_leadSet 29 rfl) rfl ?_
      refine r_iload_n C 3 (dk oX9_leadSet 30 rfl) rfl ?_
      refine r_icmp_ge (tgt := 100) C (dk oX9_leadSet 31 rfl) (by decide) (fun hb50 => ?_) (fun hb50 => ?_)
      · simp (disch := omega) only [nI_leI, nI_ltI, nI_eq, nI_eq0] at hb50
        refine r_iload C 4 (dk oX9_leadSet 56 rfl) rfl ?_
        refine hret (dk oX9_leadSet 57 rfl) rfl ?_
        exact ⟨by unfold ldF; rw [show 2 ^ pc (chS (chQ k_ s_) 4 k_.1) - 1 = j by omega], rfl, hF⟩
      · simp (disch := omega) only [nI_leI, nI_ltI, nI_eq, nI_eq0] at hb50
        refine r_aload_n C 0 (dk oX9_leadSet 32 rfl) rfl ?_
        refine r_iload_n C 1 (dk oX9_leadSet 33 rfl) rfl ?_
        refine r_iload C 7 (dk oX9_leadSet 34 rfl) rfl ?_
        refine r_aload_n C 0 (dk oX9_leadSet 35 rfl) rfl ?_
        refine r_iconst C (dk oX9_leadSet 36 rfl) (v := nI 1) (by decide) ?_
        refine r_iload_n C 1 (dk oX9_leadSet 37 rfl) rfl ?_
        refine r_isub C (dk oX9_leadSet 38 rfl) ?_
        rw [pk_sub (by omega)]
        refine r_iload C 7 (dk oX9_leadSet 39 rfl) rfl ?_
        refine r_ivi C Z (dk oX9_leadSet 40 rfl) cl_X9_281 ci_X9_replySet rfl (kn hn rfl) (c_X9_replySet hn I1 J cl (hc.q hF) k_ (hK.q hF) Φ (hM.q (by decide) hF) (1 - s_) (by omega) (pd (j + 1) (chS (chQ k_ s_) 4 k_.1)) (pd_lt hw)) rfl rfl (Nat.le_of_ble_eq_true rfl) ⟨Nat.le_of_ble_eq_true rfl, Nat.le_of_ble_eq_true rfl⟩ ⟨Nat.zero_le _, Nat.zero_le _⟩ (fun r63 I63 J63 h63 => ?_)
        obtain ⟨e1_, e2_, hF63⟩ := h63
        have e1_ := e1_.symm
        have e2_ := e2_.symm
        subst e1_
        subst e2_
        have hF0 := hF
        clear hF
        have hF : ∀ k, k ≠ 53 → k ≠ 54 → I63 k = I k := fun k a b => (hF63 k a b).trans (hF0 k a b)
        refine r_ivi C Z (dk oX9_leadSet 41 rfl) cl_X9_268 ci_X9_gain rfl (kn hn rfl) (c_X9_gain hn I63 J cl (hc.q hF) k_ (hK.q hF) Φ (hM.q (by decide) hF) s_ hs (pd (j + 1) (chS (chQ k_ s_) 4 k_.1)) (rpF cl k_ Φ (1 - s_) (pd (j + 1) (chS (chQ k_ s_) 4 k_.1))) (pd_lt hw) (rpF_lt hK.1)) rfl rfl (Nat.le_of_ble_eq_true rfl) ⟨Nat.le_of_ble_eq_true rfl, Nat.le_of_ble_eq_true rfl⟩ ⟨Nat.zero_le _, Nat.zero_le _⟩ (fun r66 I66 J66 h66 => ?_)
        obtain ⟨e1_, e2_, hF66⟩ := h66
        have e1_ := e1_.symm
        have e2_ := e2_.symm
        subst e1_
        subst e2_
        have hF66 : ∀ k, k ≠ 53 → k ≠ 54 → I66 k = I k := fun k a b => (hF66 k a b).trans (hF k a b)
        refine r_istore (lo' := [(8, _), (0, _), (1, _), (2, _), (3, _), (4, _), (5, _), (6, _), (7, _)]) C (dk oX9_leadSet 42 rfl) (by decide) rfl ?_
        refine r_iload C 0 (dk oX9_leadSet 43 rfl) rfl ?_
        refine r_iload C 6 (dk oX9_leadSet 44 rfl) rfl ?_
        refine r_icmp_le (tgt := 86) C (dk oX9_leadSet 45 rfl) (by decide) (fun hb75 => ?_) (fun hb75 => ?_)
        · refine r_iinc (lo' := [(6, _), (8, _), (0, _), (1, _), (2, _), (3, _), (4, _), (5, _), (7, _)]) C 7 (dk oX9_leadSet 50 rfl) rfl (by first | exact nI_inc _ | rfl) (by decide) rfl ?_
          refine r_iload C 8 (dk oX9_leadSet 51 rfl) rfl ?_
          refine r_iload_n C 4 (dk oX9_leadSet 52 rfl) rfl ?_
          refine r_isi C Z (dk oX9_leadSet 53 rfl) cl_X9_216 st_X9_nextSet (c_X9_nextSet I66 J (j + 1) (chS (chQ k_ s_) 4 k_.1) hw) rfl rfl (Nat.le_of_ble_eq_true rfl) ⟨Nat.le_of_ble_eq_true rfl, Nat.le_of_ble_eq_true rfl⟩ ⟨Nat.zero_le _, Nat.zero_le _⟩ (fun r92 I92 J92 h92 => ?_)
          obtain ⟨h92, e1_, e2_⟩ := h92
          have e1_ := e1_.symm
          have e2_ := e2_.symm
          subst e1_
          subst e2_
          subst h92
          refine r_istore (lo' := [(7, _), (6, _), (8, _), (0, _), (1, _), (2, _), (3, _), (4, _), (5, _)]) C (dk oX9_leadSet 54 rfl) (by decide) rfl ?_
          refine r_goto (tgt := 47) C (dk oX9_leadSet 55 rfl) (by decide) ?_
          refine V.sub [3, 4, 5, 6, 7, 8, 1, 0] rfl ?_
          have hih := ih (j + 1) I66 (by omega) (by omega) hF66
          rw [rpN_s] at hih
          first
            | rw [if_pos (Int32.not_le.mp hb75)] at hih
            | rw [if_neg (Int32.not_lt.mpr hb75)] at hih
          exact hih
        · refine r_iload C 8 (dk oX9_leadSet 46 rfl) rfl ?_
          refine r_istore (lo' := [(4, _), (8, _), (0, _), (1, _), (2, _), (3, _), (5, _), (6, _), (7, _)]) C (dk oX9_leadSet 47 rfl) (by decide) rfl ?_
          refine r_iload C 1 (dk oX9_leadSet 48 rfl) rfl ?_
          refine r_istore (lo' := [(5, _), (4, _), (8, _), (0, _), (1, _), (2, _), (3, _), (6, _), (7, _)]) C (dk oX9_leadSet 49 rfl) (by decide) rfl ?_
          refine r_iinc (lo' := [(6, _), (5, _), (4, _), (8, _), (0, _), (1, _), (2, _), (3, _), (7, _)]) C 7 (dk oX9_leadSet 50 rfl) rfl (by first | exact nI_inc _ | rfl) (by decide) rfl ?_
          refine r_iload C 8 (dk oX9_leadSet 51 rfl) rfl ?_
          refine r_iload_n C 6 (dk oX9_leadSet 52 rfl) rfl ?_
          refine r_isi C Z (dk oX9_leadSet 53 rfl) cl_X9_216 st_X9_nextSet (c_X9_nextSet I66 J (j + 1) (chS (chQ k_ s_) 4 k_.1) hw) rfl rfl (Nat.le_of_ble_eq_true rfl) ⟨Nat.le_of_ble_eq_true rfl, Nat.le_of_ble_eq_true rfl⟩ ⟨Nat.zero_le _, Nat.zero_le _⟩ (fun r92 I92 J92 h92 => ?_)
          obtain ⟨h92, e1_, e2_⟩ := h92
          have e1_ := e1_.symm
          have e2_ := e2_.symm
          subst e1_
          subst e2_
          subst h92
          refine r_istore (lo' := [(7, _), (6, _), (5, _), (4, _), (8, _), (0, _), (1, _), (2, _), (3, _)]) C (dk oX9_leadSet 54 rfl) (by decide) rfl ?_
          refine r_goto (tgt := 47) C (dk oX9_leadSet 55 rfl) (by decide) ?_
          refine V.sub [5, 6, 7, 8, 3, 2, 1, 0] rfl ?_
          have hih := ih (j + 1) I66 (by omega) (by omega) hF66
          rw [rpN_s] at hih
          first
            | rw [if_pos (Int32.not_le.mp hb75)] at hih
            | rw [if_neg (Int32.not_lt.mpr hb75)] at hih
          exact hih
  refine V.sub [6, 7, 5, 4, 3, 2, 1, 0] rfl ?_
  exact L47 (2 ^ pc (chS (chQ k_ s_) 4 k_.1) + 1) 0 I32 (by omega) (Nat.zero_le _) hF32

set_option maxHeartbeats 1000000 in
set_option maxRecDepth 100000 in
theorem c_X9_bestSet (hn : 117 ≤ n) (I : MI) (J : MJ) (cl : Clm) (hc : CClm I J 8 cl.1 cl.2.1 cl.2.2) (k_ : Prf) (hK : CPrf I 8 k_.1 k_.2.1 k_.2.2.1 k_.2.2.2.1 k_.2.2.2.2.1 k_.2.2.2.2.2) (Φ : Nat → FS) (hM : Fc I 38 Φ) (s_ : Nat) (hs : s_ < 2) (m_ : Nat) (hm : m_ < 10000) : Ci l n ad cA D z 17 yX9_bestSet cX9_bestSet 12 .int I J [.ref (ad 0), .int (nI s_), .int (nI m_)] (fun r I' J' => r = nI (bsF cl k_ Φ s_ m_) ∧ J' = J ∧ ∀ k, k ≠ 53 → k ≠ 54 → I' k = I k) := by
  refine Ci.of (by decide) (Nat.le_of_ble_eq_true rfl) ?_
  intro p e s m args below meth c A C hin Z Q hret
  have hF : ∀ k, k ≠ 53 → k ≠ 54 → I k = I k := fun _ _ _ => rfl
  have hcs : ∀ S, csN k_.2.2.2.2.1 S k_.1 ≤ 1584 := fun S => Nat.le_trans (csN_le k_.1 (fun j hj => (hK.2.2.2 j hj).2.2.2.2.2.2.2)) (by have := hK.1; omega)
  refine r_aload_n C 0 (dk oX9_bestSet 0 rfl) rfl ?_
  refine r_getR C (dk oX9_bestSet 1 rfl) fl_X9_33 rfl (kn hn rfl) ?_
  refine r_getR C (dk oX9_bestSet 2 rfl) fl_X9_128 rfl (kn hn rfl) ?_
  refine r_iload_n C 1 (dk oX9_bestSet 3 rfl) rfl ?_
  refine r_bipush C (dk oX9_bestSet 4 rfl) (v := nI 8) (by decide) ?_
  refine r_ivi C Z (dk oX9_bestSet 5 rfl) cl_X9_300 ci_X5_notBrought rfl (kn hn rfl) (c_X5_notBrought hn I J k_.1 k_.2.1 k_.2.2.1 k_.2.2.2.1 k_.2.2.2.2.1 k_.2.2.2.2.2 hK s_ 8 hs (by decide)) rfl rfl (Nat.le_of_ble_eq_true rfl) ⟨Nat.le_of_ble_eq_true rfl, Nat.le_of_ble_eq_true rfl⟩ ⟨Nat.zero_le _, Nat.zero_le _⟩ (fun r10 I10 J10 h10 => ?_)
  obtain ⟨h10, e1_, e2_⟩ := h10
  have e1_ := e1_.symm
  have e2_ := e2_.symm
  subst e1_
  subst e2_
  subst h10
  have hw : chS (chQ k_ s_) 8 k_.1 < 65536 := chS_16 hK.1
  have hways := p2pc16 (chS (chQ k_ s_) 8 k_.1)
  have hpos := p2pos (chS (chQ k_ s_) 8 k_.1)
  rw [chQ_eq]
  refine r_istore_n (lo' := [(3, _), (0, _), (1, _), (2, _)]) C (dk oX9_bestSet 6 rfl) rfl (by decide) rfl ?_
  refine r_iload_n C 0 (dk oX9_bestSet 7 rfl) rfl ?_
  refine r_isi C Z (dk oX9_bestSet 8 rfl) cl_X9_207 st_X9_setsWithin (c_X9_setsWithin I J ((chS (chQ k_ s_) 8 k_.1)) (hw)) rfl rfl (Nat.le_of_ble_eq_true rfl) ⟨Nat.le_of_ble_eq_true rfl, Nat.le_of_ble_eq_true rfl⟩ ⟨Nat.zero_le _, Nat.zero_le _⟩ (fun r15 I15 J15 h15 => ?_)
  obtain ⟨h15, e1_, e2_⟩ := h15
  have e1_ := e1_.symm
  have e2_ := e2_.symm
  subst e1_
  subst e2_
  subst h15
  refine r_istore (lo' := [(4, _), (3, _), (0, _), (1, _), (2, _)]) C (dk oX9_bestSet 9 rfl) (by decide) rfl ?_
  refine r_iconst C (dk oX9_bestSet 10 rfl) (v := nI 0) (by decide) ?_
  refine r_istore (lo' := [(5, _), (4, _), (3, _), (0, _), (1, _), (2, _)]) C (dk oX9_bestSet 11 rfl) (by decide) rfl ?_
  refine r_iconst C (dk oX9_bestSet 12 rfl) (v := nI 0) (by decide) ?_
  refine r_istore (lo' := [(6, _), (5, _), (4, _), (3, _), (0, _), (1, _), (2, _)]) C (dk oX9_bestSet 13 rfl) (by decide) rfl ?_
  refine r_aload_n C 4 (dk oX9_bestSet 14 rfl) rfl ?_
  refine r_iload_n C 5 (dk oX9_bestSet 15 rfl) rfl ?_
  refine r_iconst C (dk oX9_bestSet 16 rfl) (v := nI 0) (by decide) ?_
  refine r_iconst C (dk oX9_bestSet 17 rfl) (v := nI 0) (by decide) ?_
  refine r_ivi C Z (dk oX9_bestSet 18 rfl) cl_X9_268 ci_X9_gain rfl (kn hn rfl) (c_X9_gain hn I J cl (hc.q hF) k_ (hK.q hF) Φ (hM.q (by decide) hF) s_ hs (0) (0) (by decide) (by decide)) rfl rfl (Nat.le_of_ble_eq_true rfl) ⟨Nat.le_of_ble_eq_true rfl, Nat.le_of_ble_eq_true rfl⟩ ⟨Nat.zero_le _, Nat.zero_le _⟩ (fun r30 I30 J30 h30 => ?_)
  obtain ⟨e1_, e2_, hF30⟩ := h30
  have e1_ := e1_.symm
  have e2_ := e2_.symm
  subst e1_
  subst e2_
  have hF30 : ∀ k, k ≠ 53 → k ≠ 54 → I30 k = I k := fun k a b => (hF30 k a b).trans (hF k a b)
  refine r_istore (lo' := [(7, _), (6, _), (5, _), (4, _), (3, _), (0, _), (1, _), (2, _)]) C (dk oX9_bestSet 19 rfl) (by decide) rfl ?_
  refine r_iconst C (dk oX9_bestSet 20 rfl) (v := nI 1) (by decide) ?_
  refine r_istore (lo' := [(8, _), (7, _), (6, _), (5, _), (4, _), (3, _), (0, _), (1, _), (2, _)]) C (dk oX9_bestSet 21 rfl) (by decide) rfl ?_
  refine r_iconst C (dk oX9_bestSet 22 rfl) (v := nI 0) (by decide) ?_
  refine r_topI (show nI 0 = nI (pd 0 (chS (chQ k_ s_) 8 k_.1)) from by rw [pd_0]) ?_
  refine r_iload_n C 5 (dk oX9_bestSet 23 rfl) rfl ?_
  refine r_isi C Z (dk oX9_bestSet 24 rfl) cl_X9_216 st_X9_nextSet (c_X9_nextSet I30 J 0 (chS (chQ k_ s_) 8 k_.1) hw) rfl rfl (Nat.le_of_ble_eq_true rfl) ⟨Nat.le_of_ble_eq_true rfl, Nat.le_of_ble_eq_true rfl⟩ ⟨Nat.zero_le _, Nat.zero_le _⟩ (fun r40 I40 J40 h40 => ?_)
  obtain ⟨h40, e1_, e2_⟩ := h40
  have e1_ := e1_.symm
  have e2_ := e2_.symm
  subst e1_
  subst e2_
  subst h40
  refine r_istore (lo' := [(9, _), (8, _), (7, _), (6, _), (5, _), (4, _), (3, _), (0, _), (1, _), (2, _)]) C (dk oX9_bestSet 25 rfl) (by decide) rfl ?_
  have L45 : ∀ (d_ : Nat) (j : Nat) (I1 : MI), 2 ^ pc (chS (chQ k_ s_) 8 k_.1) - j < d_ → j ≤ 2 ^ pc (chS (chQ k_ s_) 8 k_.1) - 1 → (∀ k, k ≠ 53 → k ≠ 54 → I1 k = I k) → V p l e (rmL 17) s m args below meth c Q D A 12 0 0 n ad (mE cA ad I1 J) 45 [(0, .ref (ad 0)), (1, .int (nI s_)), (2, .int (nI m_)), (3, .int (nI (chS (chQ k_ s_) 8 k_.1))), (4, .int (nI (2 ^ pc (chS (chQ k_ s_) 8 k_.1)))), (5, .int (nI (bsN (fun S => gnF cl k_ Φ s_ S 0) (fun S => csN k_.2.2.2.2.1 S k_.1) m_ (chS (chQ k_ s_) 8 k_.1) j).1)), (6, .int (nI (bsN (fun S => gnF cl k_ Φ s_ S 0) (fun S => csN k_.2.2.2.2.1 S k_.1) m_ (chS (chQ k_ s_) 8 k_.1) j).2.1)), (7, .int (bsN (fun S => gnF cl k_ Φ s_ S 0) (fun S => csN k_.2.2.2.2.1 S k_.1) m_ (chS (chQ k_ s_) 8 k_.1) j).2.2), (8, .int (nI (j + 1))), (9, .int (nI (pd (j + 1) (chS (chQ k_ s_) 8 k_.1))))] [] := by
    intro d_
    induction d_ with
    | zero => intros; exact absurd (by assumption) (Nat.not_lt_zero _)
    | succ d_ ih => 
      intro j I1 hd_ hj hF
      refine r_iload C 8 (dk oX9_bestSet 26 rfl) rfl ?_
      refine r_iload C 4 (dk oX9_bestSet 27 rfl) rfl ?_
      refine r_icmp_ge (tgt := 132) C (dk oX9_bestSet 28 rfl) (by decide) (fun hb49 => ?_) (fun hb49 => ?_)
      · simp (disch := omega) only [nI_leI, nI_ltI, nI_eq, nI_eq0] at hb49
        refine r_iload C 5 (dk oX9_bestSet 66 rfl) rfl ?_
        refine hret (dk oX9_bestSet 67 rfl) rfl ?_
        exact ⟨by unfold bsF; rw [show 2 ^ pc (chS (chQ k_ s_) 8 k_.1) - 1 = j by omega], rfl, hF⟩
      · simp (disch := omega) only [nI_leI, nI_ltI, nI_eq, nI_eq0] at hb49
        refine r_aload_n C 0 (dk oX9_bestSet 29 rfl) rfl ?_
        refine r_getR C (dk oX9_bestSet 30 rfl) fl_X9_33 rfl (kn hn rfl) ?_
        refine r_getR C (dk oX9_bestSet 31 rfl) fl_X9_128 rfl (kn hn rfl) ?_
        refine r_iload C 9 (dk oX9_bestSet 32 rfl) rfl ?_
        refine r_ivi C Z (dk oX9_bestSet 33 rfl) cl_X9_275 ci_X5_costOf rfl (kn hn rfl) (c_X5_costOf hn I1 J k_.1 k_.2.1 k_.2.2.1 k_.2.2.2.1 k_.2.2.2.2.1 k_.2.2.2.2.2 (hK.q hF) (pd (j + 1) (chS (chQ k_ s_) 8 k_.1)) (by have := @pd_lt (j + 1) _ hw; omega)) rfl rfl (Nat.le_of_ble_eq_true rfl) ⟨Nat.le_of_ble_eq_true rfl, Nat.le_of_ble_eq_true rfl⟩ ⟨Nat.zero_le _, Nat.zero_le _⟩ (fun r61 I61 J61 h61 => ?_)
        obtain ⟨h61, e1_, e2_⟩ := h61
        have e1_ := e1_.symm
        have e2_ := e2_.symm
        subst e1_
        subst e2_
        subst h61
        refine r_istore (lo' := [(10, _), (0, _), (1, _), (2, _), (3, _), (4, _), (5, _), (6, _), (7, _), (8, _), (9, _)]) C (dk oX9_bestSet 34 rfl) (by decide) rfl ?_
        refine r_iload C 0 (dk oX9_bestSet 35 rfl) rfl ?_
        refine r_iload_n C 3 (dk oX9_bestSet 36 rfl) rfl ?_
        refine r_icmp_le (tgt := 75) C (dk oX9_bestSet 37 rfl) (by decide) (fun hb69 => ?_) (fun hb69 => ?_)
        · have hcs2 := hcs (pd (j + 1) (chS (chQ k_ s_) 8 k_.1))
          simp (disch := omega) only [nI_leI, nI_ltI, nI_eq, nI_eq0] at hb69
          refine r_aload_n C 1 (dk oX9_bestSet 39 rfl) rfl ?_
          refine r_iload_n C 2 (dk oX9_bestSet 40 rfl) rfl ?_
          refine r_iload C 10 (dk oX9_bestSet 41 rfl) rfl ?_
          refine r_iconst C (dk oX9_bestSet 42 rfl) (v := nI 0) (by decide) ?_
          refine r_ivi C Z (dk oX9_bestSet 43 rfl) cl_X9_268 ci_X9_gain rfl (kn hn rfl) (c_X9_gain hn I1 J cl (hc.q hF) k_ (hK.q hF) Φ (hM.q (by decide) hF) s_ hs (pd (j + 1) (chS (chQ k_ s_) 8 k_.1)) (0) (pd_lt hw) (by decide)) rfl rfl (Nat.le_of_ble_eq_true rfl) ⟨Nat.le_of_ble_eq_true rfl, Nat.le_of_ble_eq_true rfl⟩ ⟨Nat.zero_le _, Nat.zero_le _⟩ (fun r80 I80 J80 h80 => ?_)
          obtain ⟨e1_, e2_, hF80⟩ := h80
          have e1_ := e1_.symm
          have e2_ := e2_.symm
          subst e1_
          subst e2_
          have hF80 : ∀ k, k ≠ 53 → k ≠ 54 → I80 k = I k := fun k a b => (hF80 k a b).trans (hF k a b)
          refine r_istore (lo' := [(11, _), (10, _), (0, _), (1, _), (2, _), (3, _), (4, _), (5, _), (6, _), (7, _), (8, _), (9, _)]) C (dk oX9_bestSet 44 rfl) (by decide) rfl ?_
          refine r_iload C 0 (dk oX9_bestSet 45 rfl) rfl ?_
          refine r_iload C 9 (dk oX9_bestSet 46 rfl) rfl ?_
          refine r_icmp_gt (tgt := 106) C (dk oX9_bestSet 47 rfl) (by decide) (fun hb89 => ?_) (fun hb89 => ?_)
          · refine r_iload C 11 (dk oX9_bestSet 54 rfl) rfl ?_
            refine r_istore (lo' := [(5, _), (11, _), (10, _), (0, _), (1, _), (2, _), (3, _), (4, _), (6, _), (7, _), (8, _), (9, _)]) C (dk oX9_bestSet 55 rfl) (by decide) rfl ?_
            refine r_iload C 2 (dk oX9_bestSet 56 rfl) rfl ?_
            refine r_istore (lo' := [(6, _), (5, _), (11, _), (10, _), (0, _), (1, _), (2, _), (3, _), (4, _), (7, _), (8, _), (9, _)]) C (dk oX9_bestSet 57 rfl) (by decide) rfl ?_
            refine r_iload C 2 (dk oX9_bestSet 58 rfl) rfl ?_
            refine r_istore (lo' := [(7, _), (6, _), (5, _), (11, _), (10, _), (0, _), (1, _), (2, _), (3, _), (4, _), (8, _), (9, _)]) C (dk oX9_bestSet 59 rfl) (by decide) rfl ?_
            refine r_iinc (lo' := [(8, _), (7, _), (6, _), (5, _), (11, _), (10, _), (0, _), (1, _), (2, _), (3, _), (4, _), (9, _)]) C 10 (dk oX9_bestSet 60 rfl) rfl (by first | exact nI_inc _ | rfl) (by decide) rfl ?_
            refine r_iload C 11 (dk oX9_bestSet 61 rfl) rfl ?_
            refine r_iload_n C 9 (dk oX9_bestSet 62 rfl) rfl ?_
            refine r_isi C Z (dk oX9_bestSet 63 rfl) cl_X9_216 st_X9_nextSet (c_X9_nextSet _ J (j + 1) (chS (chQ k_ s_) 8 k_.1) hw) rfl rfl (Nat.le_of_ble_eq_true rfl) ⟨Nat.le_of_ble_eq_true rfl, Nat.le_of_ble_eq_true rfl⟩ ⟨Nat.zero_le _, Nat.zero_le _⟩ (fun r124 I124 J124 h124 => ?_)
            obtain ⟨h124, e1_, e2_⟩ := h124
            have e1_ := e1_.symm
            have e2_ := e2_.symm
            subst e1_
            subst e2_
            subst h124
            refine r_istore (lo' := [(9, _), (8, _), (7, _), (6, _), (5, _), (11, _), (10, _), (0, _), (1, _), (2, _), (3, _), (4, _)]) C (dk oX9_bestSet 64 rfl) (by decide) rfl ?_
            refine r_goto (tgt := 45) C (dk oX9_bestSet 65 rfl) (by decide) ?_
            refine V.sub [7, 8, 9, 10, 11, 4, 3, 2, 1, 0] rfl ?_
            first
              | (have hih := ih (j + 1) I80 (by omega) (by omega) hF80
                 first
                   | rw [bsN_t hb69 (Or.inl hb89)] at hih
                   | rw [bsN_t hb69 (Or.inr (And.intro hb96 hb103))] at hih
                   | rw [bsN_t hb69 (Or.inr (And.intro hb96 (Nat.not_le.mp hb103)))] at hih
                   | rw [bsN_f2 hb89 (fun z => absurd z hb96)] at hih
                   | rw [bsN_f2 hb89 (fun _ => Nat.not_lt.mpr hb103)] at hih
                 exact hih)
              | (have hih := ih (j + 1) I1 (by omega) (by omega) hF
                 rw [bsN_f1 (Nat.not_le.mpr hb69)] at hih
                 exact hih)
              | (have hih := ih (j + 1) I1 (by omega) (by omega) hF
                 rw [bsN_f1 hb69] at hih
                 exact hih)
          · refine r_iload C 0 (dk oX9_bestSet 48 rfl) rfl ?_
            refine r_iload C 9 (dk oX9_bestSet 49 rfl) rfl ?_
            refine r_icmp_ne (tgt := 118) C (dk oX9_bestSet 50 rfl) (by decide) (fun hb96 => ?_) (fun hb96 => ?_)
            · skip
              refine r_iinc (lo' := [(8, _), (11, _), (10, _), (0, _), (1, _), (2, _), (3, _), (4, _), (5, _), (6, _), (7, _), (9, _)]) C 10 (dk oX9_bestSet 60 rfl) rfl (by first | exact nI_inc _ | rfl) (by decide) rfl ?_
              refine r_iload C 11 (dk oX9_bestSet 61 rfl) rfl ?_
              refine r_iload_n C 6 (dk oX9_bestSet 62 rfl) rfl ?_
              refine r_isi C Z (dk oX9_bestSet 63 rfl) cl_X9_216 st_X9_nextSet (c_X9_nextSet _ J (j + 1) (chS (chQ k_ s_) 8 k_.1) hw) rfl rfl (Nat.le_of_ble_eq_true rfl) ⟨Nat.le_of_ble_eq_true rfl, Nat.le_of_ble_eq_true rfl⟩ ⟨Nat.zero_le _, Nat.zero_le _⟩ (fun r124 I124 J124 h124 => ?_)
              obtain ⟨h124, e1_, e2_⟩ := h124
              have e1_ := e1_.symm
              have e2_ := e2_.symm
              subst e1_
              subst e2_
              subst h124
              refine r_istore (lo' := [(9, _), (8, _), (11, _), (10, _), (0, _), (1, _), (2, _), (3, _), (4, _), (5, _), (6, _), (7, _)]) C (dk oX9_bestSet 64 rfl) (by decide) rfl ?_
              refine r_goto (tgt := 45) C (dk oX9_bestSet 65 rfl) (by decide) ?_
              refine V.sub [4, 5, 6, 7, 8, 9, 10, 11, 1, 0] rfl ?_
              first
                | (have hih := ih (j + 1) I80 (by omega) (by omega) hF80
                   first
                     | rw [bsN_t hb69 (Or.inl hb89)] at hih
                     | rw [bsN_t hb69 (Or.inr (And.intro hb96 hb103))] at hih
                     | rw [bsN_t hb69 (Or.inr (And.intro hb96 (Nat.not_le.mp hb103)))] at hih
                     | rw [bsN_f2 hb89 (fun z => absurd z hb96)] at hih
                     | rw [bsN_f2 hb89 (fun _ => Nat.not_lt.mpr hb103)] at hih
                   exact hih)
                | (have hih := ih (j + 1) I1 (by omega) (by omega) hF
                   rw [bsN_f1 (Nat.not_le.mpr hb69)] at hih
                   exact hih)
                | (have hih := ih (j + 1) I1 (by omega) (by omega) hF
                   rw [bsN_f1 hb69] at hih
                   exact hih)
            · have hbk := @bsN_K (fun S => gnF cl k_ Φ s_ S 0) (fun S => csN k_.2.2.2.2.1 S k_.1) m_ (chS (chQ k_ s_) 8 k_.1) 1584 hcs j
              refine r_iload C 1 (dk oX9_bestSet 51 rfl) rfl ?_
              refine r_iload C 8 (dk oX9_bestSet 52 rfl) rfl ?_
              refine r_icmp_ge (tgt := 118) C (dk oX9_bestSet 53 rfl) (by decide) (fun hb103 => ?_) (fun hb103 => ?_)
              · simp (disch := omega) only [nI_leI, nI_ltI, nI_eq, nI_eq0] at hb103
                refine r_iinc (lo' := [(8, _), (11, _), (10, _), (0, _), (1, _), (2, _), (3, _), (4, _), (5, _), (6, _), (7, _), (9, _)]) C 10 (dk oX9_bestSet 60 rfl) rfl (by first | exact nI_inc _ | rfl) (by decide) rfl ?_
                refine r_iload C 11 (dk oX9_bestSet 61 rfl) rfl ?_
                refine r_iload_n C 6 (dk oX9_bestSet 62 rfl) rfl ?_
                refine r_isi C Z (dk oX9_bestSet 63 rfl) cl_X9_216 st_X9_nextSet (c_X9_nextSet _ J (j + 1) (chS (chQ k_ s_) 8 k_.1) hw) rfl rfl (Nat.le_of_ble_eq_true rfl) ⟨Nat.le_of_ble_eq_true rfl, Nat.le_of_ble_eq_true rfl⟩ ⟨Nat.zero_le _, Nat.zero_le _⟩ (fun r124 I124 J124 h124 => ?_)
                obtain ⟨h124, e1_, e2_⟩ := h124
                have e1_ := e1_.symm
                have e2_ := e2_.symm
                subst e1_
                subst e2_
                subst h124
                refine r_istore (lo' := [(9, _), (8, _), (11, _), (10, _), (0, _), (1, _), (2, _), (3, _), (4, _), (5, _), (6, _), (7, _)]) C (dk oX9_bestSet 64 rfl) (by decide) rfl ?_
                refine r_goto (tgt := 45) C (dk oX9_bestSet 65 rfl) (by decide) ?_
                refine V.sub [4, 5, 6, 7, 8, 9, 10, 11, 1, 0] rfl ?_
                first
                  | (have hih := ih (j + 1) I80 (by omega) (by omega) hF80
                     first
                       | rw [bsN_t hb69 (Or.inl hb89)] at hih
                       | rw [bsN_t hb69 (Or.inr (And.intro hb96 hb103))] at hih
                       | rw [bsN_t hb69 (Or.inr (And.intro hb96 (Nat.not_le.mp hb103)))] at hih
                       | rw [bsN_f2 hb89 (fun z => absurd z hb96)] at hih
                       | rw [bsN_f2 hb89 (fun _ => Nat.not_lt.mpr hb103)] at hih
                     exact hih)
                  | (have hih := ih (j + 1) I1 (by omega) (by omega) hF
                     rw [bsN_f1 (Nat.not_le.mpr hb69)] at hih
                     exact hih)
                  | (have hih := ih (j + 1) I1 (by omega) (by omega) hF
                     rw [bsN_f1 hb69] at hih
                     exact hih)
              · simp (disch := omega) only [nI_leI, nI_ltI, nI_eq, nI_eq0] at hb103
                refine r_iload C 11 (dk oX9_bestSet 54 rfl) rfl ?_
                refine r_istore (lo' := [(5, _), (11, _), (10, _), (0, _), (1, _), (2, _), (3, _), (4, _), (6, _), (7, _), (8, _), (9, _)]) C (dk oX9_bestSet 55 rfl) (by decide) rfl ?_
                refine r_iload C 2 (dk oX9_bestSet 56 rfl) rfl ?_
                refine r_istore (lo' := [(6, _), (5, _), (11, _), (10, _), (0, _), (1, _), (2, _), (3, _), (4, _), (7, _), (8, _), (9, _)]) C (dk oX9_bestSet 57 rfl) (by decide) rfl ?_
                refine r_iload C 2 (dk oX9_bestSet 58 rfl) rfl ?_
                refine r_istore (lo' := [(7, _), (6, _), (5, _), (11, _), (10, _), (0, _), (1, _), (2, _), (3, _), (4, _), (8, _), (9, _)]) C (dk oX9_bestSet 59 rfl) (by decide) rfl ?_
                refine r_iinc (lo' := [(8, _), (7, _), (6, _), (5, _), (11, _), (10, _), (0, _), (1, _), (2, _), (3, _), (4, _), (9, _)]) C 10 (dk oX9_bestSet 60 rfl) rfl (by first | exact nI_inc _ | rfl) (by decide) rfl ?_
                refine r_iload C 11 (dk oX9_bestSet 61 rfl) rfl ?_
                refine r_iload_n C 9 (dk oX9_bestSet 62 rfl) rfl ?_
                refine r_isi C Z (dk oX9_bestSet 63 rfl) cl_X9_216 st_X9_nextSet (c_X9_nextSet _ J (j + 1) (chS (chQ k_ s_) 8 k_.1) hw) rfl rfl (Nat.le_of_ble_eq_true rfl) ⟨Nat.le_of_ble_eq_true rfl, Nat.le_of_ble_eq_true rfl⟩ ⟨Nat.zero_le _, Nat.zero_le _⟩ (fun r124 I124 J124 h124 => ?_)
                obtain ⟨h124, e1_, e2_⟩ := h124
                have e1_ := e1_.symm
                have e2_ := e2_.symm
                subst e1_
                subst e2_
                subst h124
                refine r_istore (lo' := [(9, _), (8, _), (7, _), (6, _), (5, _), (11, _), (10, _), (0, _), (1, _), (2, _), (3, _), (4, _)]) C (dk oX9_bestSet 64 rfl) (by decide) rfl ?_
                refine r_goto (tgt := 45) C (dk oX9_bestSet 65 rfl) (by decide) ?_
                refine V.sub [7, 8, 9, 10, 11, 4, 3, 2, 1, 0] rfl ?_
                first
                  | (have hih := ih (j + 1) I80 (by omega) (by omega) hF80
                     first
                       | rw [bsN_t hb69 (Or.inl hb89)] at hih
                       | rw [bsN_t hb69 (Or.inr (And.intro hb96 hb103))] at hih
                       | rw [bsN_t hb69 (Or.inr (And.intro hb96 (Nat.not_le.mp hb103)))] at hih
                       | rw [bsN_f2 hb89 (fun z => absurd z hb96)] at hih
                       | rw [bsN_f2 hb89 (fun _ => Nat.not_lt.mpr hb103)] at hih
                     exact hih)
                  | (have hih := ih (j + 1) I1 (by omega) (by omega) hF
                     rw [bsN_f1 (Nat.not_le.mpr hb69)] at hih
                     exact hih)
                  | (have hih := ih (j + 1) I1 (by omega) (by omega) hF
                     rw [bsN_f1 hb69] at hih
                     exact hih)
        · have hcs2 := hcs (pd (j + 1) (chS (chQ k_ s_) 8 k_.1))
          simp (disch := omega) only [nI_leI, nI_ltI, nI_eq, nI_eq0] at hb69
          refine r_goto (tgt := 118) C (dk oX9_bestSet 38 rfl) (by decide) ?_
          refine r_iinc (lo' := [(8, _), (10, _), (0, _), (1, _), (2, _), (3, _), (4, _), (5, _), (6, _), (7, _), (9, _)]) C 9 (dk oX9_bestSet 60 rfl) rfl (by first | exact nI_inc _ | rfl) (by decide) rfl ?_
          refine r_iload C 10 (dk oX9_bestSet 61 rfl) rfl ?_
          refine r_iload_n C 5 (dk oX9_bestSet 62 rfl) rfl ?_
          refine r_isi C Z (dk oX9_bestSet 63 rfl) cl_X9_216 st_X9_nextSet (c_X9_nextSet _ J (j + 1) (chS (chQ k_ s_) 8 k_.1) hw) rfl rfl (Nat.le_of_ble_eq_true rfl) ⟨Nat.le_of_ble_eq_true rfl, Nat.le_of_ble_eq_true rfl⟩ ⟨Nat.zero_le _, Nat.zero_le _⟩ (fun r124 I124 J124 h124 => ?_)
          obtain ⟨h124, e1_, e2_⟩ := h124
          have e1_ := e1_.symm
          have e2_ := e2_.symm
          subst e1_
          subst e2_
          subst h124
          refine r_istore (lo' := [(9, _), (8, _), (10, _), (0, _), (1, _), (2, _), (3, _), (4, _), (5, _), (6, _), (7, _)]) C (dk oX9_bestSet 64 rfl) (by decide) rfl ?_
          refine r_goto (tgt := 45) C (dk oX9_bestSet 65 rfl) (by decide) ?_
          refine V.sub [3, 4, 5, 6, 7, 8, 9, 10, 1, 0] rfl ?_
          first
            | (have hih := ih (j + 1) I80 (by omega) (by omega) hF80
               first
                 | rw [bsN_t hb69 (Or.inl hb89)] at hih
                 | rw [bsN_t hb69 (Or.inr (And.intro hb96 hb103))] at hih
                 | rw [bsN_t hb69 (Or.inr (And.intro hb96 (Nat.not_le.mp hb103)))] at hih
                 | rw [bsN_f2 hb89 (fun z => absurd z hb96)] at hih
                 | rw [bsN_f2 hb89 (fun _ => Nat.not_lt.mpr hb103)] at hih
               exact hih)
            | (have hih := ih (j + 1) I1 (by omega) (by omega) hF
               rw [bsN_f1 (Nat.not_le.mpr hb69)] at hih
               exact hih)
            | (have hih := ih (j + 1) I1 (by omega) (by omega) hF
               rw [bsN_f1 hb69] at hih
               exact hih)
  refine V.sub [7, 8, 9, 6, 5, 4, 3, 2, 1, 0] rfl ?_
  exact L45 (2 ^ pc (chS (chQ k_ s_) 8 k_.1) + 1) 0 I30 (by omega) (Nat.zero_le _) hF30

end TOP
