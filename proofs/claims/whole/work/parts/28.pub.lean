section PUB2
variable {l : Launch} {n : Nat} {ad : Nat → Nat} {cA : Nat → ClassId} {D : va_G} {z : Zw}
theorem not_or_of {P Q : Prop} (h1 : ¬ P) (h2 : ¬ Q) : ¬ (P ∨ Q) := fun h => h.elim h1 h2
theorem bS_br {k : Prf} {j : Nat} (hj : j < k.1) : (brQ k).testBit j = k.2.2.2.2.2 j := by
  show (bS k.2.2.2.2.2 k.1).testBit j = _
  rw [bS_bit, decide_eq_true hj, Bool.true_and]
theorem bS_set {q : Nat → Bool} {j : Nat} : ∀ n, j < n → bS q n ||| 2 ^ j = bS (fun i => if i = j then true else q i) n := by
  intro n hj
  apply Nat.eq_of_testBit_eq
  intro i
  rw [Nat.testBit_or, bS_bit, bS_bit, Nat.testBit_two_pow]
  by_cases e : i = j
  · subst e
    rw [decide_eq_true hj, decide_eq_true rfl, Bool.or_true, if_pos rfl]; rfl
  · rw [if_neg e, decide_eq_false (Ne.symm e), Bool.or_false]
theorem bS_clr {q : Nat → Bool} {j : Nat} : ∀ n, j < n → anN (bS q n) (2 ^ j) = bS (fun i => if i = j then false else q i) n := by
  intro n hj
  apply Nat.eq_of_testBit_eq
  intro i
  rw [anN_bit, bS_bit, bS_bit, Nat.testBit_two_pow]
  by_cases e : i = j
  · subst e
    rw [decide_eq_true rfl, if_pos rfl, Bool.and_false]; simp
  · rw [if_neg e, decide_eq_false (Ne.symm e)]; simp
set_option maxHeartbeats 1000000 in
set_option maxRecDepth 100000 in
theorem c_X9_proved (hn : 117 ≤ n) (I : MI) (J : MJ) (τ : St) (hCS : CS I J τ) (x y : Int32) : Ci l n ad cA D z 1 yX9_proved cX9_proved 4 .int I J [.ref (ad 0), .int x, .int y] (fun r I' J' => r = q_proved τ x y ∧ CS I' J' τ ∧ Fr I I' J J') := by
  refine Ci.of (by decide) (Nat.le_of_ble_eq_true rfl) ?_
  intro p e s m args below meth c A C hin Z Q hret
  have hCS0 := hCS
  obtain ⟨hS, hKp, hM, hSil, hT, h16⟩ := hCS0
  obtain ⟨⟨hC, hco⟩, ⟨hP, hZ⟩, hK, hdu, hdu2, hse, hse2⟩ := hS
  have hnc : (sCl τ).1 ≤ 6 := hC.1
  have hnp : (sPp τ).1 ≤ 10 := hP.1
  have hnk : (sPk τ).1 ≤ 16 := hK.1
  have hL := hT.1
  have hop := @opN_lt (sPhi τ)
  have h386 : I 38 6 = nI (opN (sPhi τ)) := hM.2.1
  refine r_aload_n C 0 (dk oX9_proved 0 rfl) rfl ?_
  refine r_iload_n C 1 (dk oX9_proved 1 rfl) rfl ?_
  refine r_ivi C Z (dk oX9_proved 2 rfl) cl_X9_233 ci_X9_isProof rfl (kn hn rfl) (c_X9_isProof hn I J (sPk τ).1 (by omega) hK.2.1 x) rfl rfl (Nat.le_of_ble_eq_true rfl) ⟨Nat.le_of_ble_eq_true rfl, Nat.le_of_ble_eq_true rfl⟩ ⟨Nat.zero_le _, Nat.zero_le _⟩ (fun r2 I2 J2 h2 => ?_)
  obtain ⟨h2, e1_, e2_⟩ := h2
  have e1_ := e1_.symm
  have e2_ := e2_.symm
  subst e1_
  subst e2_
  subst h2
  refine r_if_ne (tgt := 11) C (dk oX9_proved 3 rfl) (by decide) (fun hb5 => ?_) (fun hb5 => ?_)
  · rw [b32_n, decide_eq_true_eq] at hb5
    obtain ⟨k_, h_k_, hx_k_⟩ := vd_of (by omega) hb5
    subst hx_k_
    have q4 := hK.2.2.2 k_ h_k_
    refine r_aload_n C 0 (dk oX9_proved 6 rfl) rfl ?_
    refine r_getR C (dk oX9_proved 7 rfl) fl_X9_33 rfl (kn hn rfl) ?_
    refine r_getR C (dk oX9_proved 8 rfl) fl_X9_128 rfl (kn hn rfl) ?_
    refine r_astore_n (lo' := [(3, _), (0, _), (1, _), (2, _)]) C (dk oX9_proved 9 rfl) rfl (by decide) rfl ?_
    refine r_iload_n C 3 (dk oX9_proved 10 rfl) rfl ?_
    rcases sw5 y with rfl | rfl | rfl | rfl | rfl | rfl | hy
    · refine r_tabIn (off := 40) (tgt := 60) C (dk oX9_proved 11 rfl) (by decide) (by decide) (by decide) (by decide) ?_
      refine r_aload_n C 0 (dk oX9_proved 12 rfl) rfl ?_
      refine r_getR C (dk oX9_proved 13 rfl) fl_X9_239 rfl (kn hn rfl) ?_
      refine r_iload_n C 2 (dk oX9_proved 14 rfl) rfl ?_
      refine r_iald C _ (dk oX9_proved 15 rfl) rfl (kn hn rfl) rfl (by omega) (by decide) ?_
      rw [show I 34 k_ = nI ((sPk τ).2.1 k_) from q4.1]
      refine hret (dk oX9_proved 16 rfl) rfl ?_
      refine ⟨?_, hCS, Fr.rf I J⟩
      unfold q_proved
      rw [if_pos (vd_n h_k_ (by omega)), cN_n (by omega), if_pos rfl]
    · refine r_tabIn (off := 47) (tgt := 67) C (dk oX9_proved 11 rfl) (by decide) (by decide) (by decide) (by decide) ?_
      refine r_aload_n C 0 (dk oX9_proved 17 rfl) rfl ?_
      refine r_getR C (dk oX9_proved 18 rfl) fl_X9_242 rfl (kn hn rfl) ?_
      refine r_iload_n C 2 (dk oX9_proved 19 rfl) rfl ?_
      refine r_iald C _ (dk oX9_proved 20 rfl) rfl (kn hn rfl) rfl (by omega) (by decide) ?_
      rw [show I 35 k_ = nI ((sPk τ).2.2.1 k_) from q4.2.2.1]
      refine hret (dk oX9_proved 21 rfl) rfl ?_
      refine ⟨?_, hCS, Fr.rf I J⟩
      unfold q_proved
      rw [if_pos (vd_n h_k_ (by omega)), cN_n (by omega), if_neg (by decide), if_pos rfl]
    · refine r_tabIn (off := 54) (tgt := 74) C (dk oX9_proved 11 rfl) (by decide) (by decide) (by decide) (by decide) ?_
      refine r_aload_n C 0 (dk oX9_proved 22 rfl) rfl ?_
      refine r_getR C (dk oX9_proved 23 rfl) fl_X9_245 rfl (kn hn rfl) ?_
      refine r_iload_n C 2 (dk oX9_proved 24 rfl) rfl ?_
      refine r_iald C _ (dk oX9_proved 25 rfl) rfl (kn hn rfl) rfl (by omega) (by decide) ?_
      rw [show I 36 k_ = nI ((sPk τ).2.2.2.1 k_) from q4.2.2.2.2.1]
      refine hret (dk oX9_proved 26 rfl) rfl ?_
      refine ⟨?_, hCS, Fr.rf I J⟩
      unfold q_proved
      rw [if_pos (vd_n h_k_ (by omega)), cN_n (by omega), if_neg (by decide), if_neg (by decide), if_pos rfl]
    · refine r_tabIn (off := 61) (tgt := 81) C (dk oX9_proved 11 rfl) (by decide) (by decide) (by decide) (by decide) ?_
      refine r_aload_n C 0 (dk oX9_proved 27 rfl) rfl ?_
      refine r_getR C (dk oX9_proved 28 rfl) fl_X9_248 rfl (kn hn rfl) ?_
      refine r_iload_n C 2 (dk oX9_proved 29 rfl) rfl ?_
      refine r_iald C _ (dk oX9_proved 30 rfl) rfl (kn hn rfl) rfl (by omega) (by decide) ?_
      rw [show I 37 k_ = nI ((sPk τ).2.2.2.2.1 k_) from q4.2.2.2.2.2.2.1]
      refine hret (dk oX9_proved 31 rfl) rfl ?_
      refine ⟨?_, hCS, Fr.rf I J⟩
      unfold q_proved
      rw [if_pos (vd_n h_k_ (by omega)), cN_n (by omega), if_neg (by decide), if_neg (by decide), if_neg (by decide), if_pos rfl]
    · refine r_tabIn (off := 68) (tgt := 88) C (dk oX9_proved 11 rfl) (by decide) (by decide) (by decide) (by decide) ?_
      refine r_aload_n C 0 (dk oX9_proved 32 rfl) rfl ?_
      refine r_getI C (dk oX9_proved 33 rfl) fl_X9_236 rfl (kn hn rfl) ?_
      rw [show I 33 1 = nI (brQ (sPk τ)) from hK.2.2.1]
      have hB : brQ (sPk τ) < 65536 := brN_16 hnk
      refine r_iload_n C 2 (dk oX9_proved 34 rfl) rfl ?_
      refine r_isi C Z (dk oX9_proved 35 rfl) cl_X9_180 st_X9_has (c_X9_has I J (brQ (sPk τ)) k_ (by omega) (by omega)) rfl rfl (Nat.le_of_ble_eq_true rfl) ⟨Nat.le_of_ble_eq_true rfl, Nat.le_of_ble_eq_true rfl⟩ ⟨Nat.zero_le _, Nat.zero_le _⟩ (fun r93 I93 J93 h93 => ?_)
      obtain ⟨h93, e1_, e2_⟩ := h93
      have e1_ := e1_.symm
      have e2_ := e2_.symm
      subst e1_
      subst e2_
      subst h93
      refine r_if_eq (tgt := 103) C (dk oX9_proved 36 rfl) (by decide) (fun hb96 => ?_) (fun hb96 => ?_)
      · rw [b32_0] at hb96
        refine r_iconst C (dk oX9_proved 39 rfl) (v := nI 0) (by decide) ?_
        refine hret (dk oX9_proved 40 rfl) rfl ?_
        refine ⟨?_, hCS, Fr.rf I J⟩
        unfold q_proved
        rw [if_pos (vd_n h_k_ (by omega)), cN_n (by omega), if_neg (by decide), if_neg (by decide), if_neg (by decide), if_neg (by decide), if_pos rfl]
        rw [bS_br h_k_] at hb96
        rw [hb96]; rfl
      · rw [b32_n] at hb96
        refine r_iconst C (dk oX9_proved 37 rfl) (v := nI 1) (by decide) ?_
        refine r_goto (tgt := 104) C (dk oX9_proved 38 rfl) (by decide) ?_
        refine hret (dk oX9_proved 40 rfl) rfl ?_
        refine ⟨?_, hCS, Fr.rf I J⟩
        unfold q_proved
        rw [if_pos (vd_n h_k_ (by omega)), cN_n (by omega), if_neg (by decide), if_neg (by decide), if_neg (by decide), if_neg (by decide), if_pos rfl]
        rw [bS_br h_k_] at hb96
        rw [hb96]; rfl
    · refine r_tabIn (off := 85) (tgt := 105) C (dk oX9_proved 11 rfl) (by decide) (by decide) (by decide) (by decide) ?_
      refine r_aload_n C 1 (dk oX9_proved 41 rfl) rfl ?_
      refine r_getR C (dk oX9_proved 42 rfl) fl_X9_40 rfl (kn hn rfl) ?_
      refine r_aload_n C 0 (dk oX9_proved 43 rfl) rfl ?_
      refine r_getR C (dk oX9_proved 44 rfl) fl_X9_239 rfl (kn hn rfl) ?_
      refine r_iload_n C 2 (dk oX9_proved 45 rfl) rfl ?_
      refine r_iald C _ (dk oX9_proved 46 rfl) rfl (kn hn rfl) rfl (by omega) (by decide) ?_
      rw [show I 34 k_ = nI ((sPk τ).2.1 k_) from q4.1]
      refine r_aload_n C 0 (dk oX9_proved 47 rfl) rfl ?_
      refine r_getR C (dk oX9_proved 48 rfl) fl_X9_242 rfl (kn hn rfl) ?_
      refine r_iload_n C 2 (dk oX9_proved 49 rfl) rfl ?_
      refine r_iald C _ (dk oX9_proved 50 rfl) rfl (kn hn rfl) rfl (by omega) (by decide) ?_
      rw [show I 35 k_ = nI ((sPk τ).2.2.1 k_) from q4.2.2.1]
      refine r_ivi C Z (dk oX9_proved 51 rfl) cl_X9_251 ci_X2_bearing rfl (kn hn rfl) (c38_X2_bearing hn I J (sPhi τ) hM.1 ((sPk τ).2.1 k_) ((sPk τ).2.2.1 k_) q4.2.1 q4.2.2.2.1) rfl rfl (Nat.le_of_ble_eq_true rfl) ⟨Nat.le_of_ble_eq_true rfl, Nat.le_of_ble_eq_true rfl⟩ ⟨Nat.zero_le _, Nat.zero_le _⟩ (fun r121 I121 J121 h121 => ?_)
      obtain ⟨h121, e1_, e2_⟩ := h121
      have e1_ := e1_.symm
      have e2_ := e2_.symm
      subst e1_
      subst e2_
      subst h121
      refine hret (dk oX9_proved 52 rfl) rfl ?_
      refine ⟨?_, hCS, Fr.rf I J⟩
      unfold q_proved
      rw [if_pos (vd_n h_k_ (by omega)), cN_n (by omega), if_neg (by decide), if_neg (by decide), if_neg (by decide), if_neg (by decide), if_neg (by decide), if_pos rfl]
    · refine r_tabOut (tgt := 125) C (dk oX9_proved 11 rfl) hy (by decide) ?_
      refine r_ldc C (dk oX9_proved 53 rfl) kn_X9_70 ?_
      refine hret (dk oX9_proved 54 rfl) rfl ?_
      refine ⟨?_, hCS, Fr.rf I J⟩
      unfold q_proved
      rw [if_pos (vd_n h_k_ (by omega)), if_neg (sw_ne (n := 5) (k := 0) hy (by decide) (by decide)), if_neg (sw_ne (n := 5) (k := 1) hy (by decide) (by decide)), if_neg (sw_ne (n := 5) (k := 2) hy (by decide) (by decide)), if_neg (sw_ne (n := 5) (k := 3) hy (by decide) (by decide)), if_neg (sw_ne (n := 5) (k := 4) hy (by decide) (by decide)), if_neg (sw_ne (n := 5) (k := 5) hy (by decide) (by decide))]
  · rw [b32_0, decide_eq_false_iff_not] at hb5
    refine r_ldc C (dk oX9_proved 4 rfl) kn_X9_143 ?_
    refine hret (dk oX9_proved 5 rfl) rfl ?_
    exact ⟨(if_neg hb5).symm, hCS, Fr.rf I J⟩

set_option maxHeartbeats 1000000 in
set_option maxRecDepth 100000 in
theorem c_X9_likely (hn : 117 ≤ n) (I : MI) (J : MJ) (τ : St) (hCS : CS I J τ) (x : Int32) : Ci l n ad cA D z 3 yX9_likely cX9_likely 2 .int I J [.ref (ad 0), .int x] (fun r I' J' => r = q_likely τ x ∧ CS I' J' τ ∧ Fr I I' J J') := by
  refine Ci.of (by decide) (Nat.le_of_ble_eq_true rfl) ?_
  intro p e s m args below meth c A C hin Z Q hret
  have hCS0 := hCS
  obtain ⟨hS, hKp, hM, hSil, hT, h16⟩ := hCS0
  obtain ⟨⟨hC, hco⟩, ⟨hP, hZ⟩, hK, hdu, hdu2, hse, hse2⟩ := hS
  have hnc : (sCl τ).1 ≤ 6 := hC.1
  have hnp : (sPp τ).1 ≤ 10 := hP.1
  have hnk : (sPk τ).1 ≤ 16 := hK.1
  have hL := hT.1
  have hop := @opN_lt (sPhi τ)
  have h386 : I 38 6 = nI (opN (sPhi τ)) := hM.2.1
  refine r_iload_n C 1 (dk oX9_likely 0 rfl) rfl ?_
  refine r_isi C Z (dk oX9_likely 1 rfl) cl_X9_139 st_X9_isFact (c_X9_isFact I J x) rfl rfl (Nat.le_of_ble_eq_true rfl) ⟨Nat.le_of_ble_eq_true rfl, Nat.le_of_ble_eq_true rfl⟩ ⟨Nat.zero_le _, Nat.zero_le _⟩ (fun r1 I1 J1 h1 => ?_)
  obtain ⟨h1, e1_, e2_⟩ := h1
  have e1_ := e1_.symm
  have e2_ := e2_.symm
  subst e1_
  subst e2_
  subst h1
  refine r_if_ne (tgt := 10) C (dk oX9_likely 2 rfl) (by decide) (fun hb4 => ?_) (fun hb4 => ?_)
  · rw [b32_n, decide_eq_true_eq] at hb4
    obtain ⟨f_, h_f_, hx_f_⟩ := vd_of (by decide) hb4
    subst hx_f_
    refine r_aload_n C 0 (dk oX9_likely 5 rfl) rfl ?_
    refine r_getR C (dk oX9_likely 6 rfl) fl_X9_40 rfl (kn hn rfl) ?_
    refine r_getI C (dk oX9_likely 7 rfl) fl_X9_190 rfl (kn hn rfl) ?_
    rw [h386]
    refine r_iload_n C 1 (dk oX9_likely 8 rfl) rfl ?_
    refine r_isi C Z (dk oX9_likely 9 rfl) cl_X9_180 st_X9_has (c_X9_has I J (opN (sPhi τ)) f_ (by omega) (by omega)) rfl rfl (Nat.le_of_ble_eq_true rfl) ⟨Nat.le_of_ble_eq_true rfl, Nat.le_of_ble_eq_true rfl⟩ ⟨Nat.zero_le _, Nat.zero_le _⟩ (fun r18 I18 J18 h18 => ?_)
    obtain ⟨h18, e1_, e2_⟩ := h18
    have e1_ := e1_.symm
    have e2_ := e2_.symm
    subst e1_
    subst e2_
    subst h18
    refine r_if_ne (tgt := 27) C (dk oX9_likely 10 rfl) (by decide) (fun hb21 => ?_) (fun hb21 => ?_)
    · rw [b32_n] at hb21
      refine r_aload_n C 0 (dk oX9_likely 13 rfl) rfl ?_
      refine r_getR C (dk oX9_likely 14 rfl) fl_X9_50 rfl (kn hn rfl) ?_
      refine r_aload_n C 0 (dk oX9_likely 15 rfl) rfl ?_
      refine r_getR C (dk oX9_likely 16 rfl) fl_X9_33 rfl (kn hn rfl) ?_
      refine r_getR C (dk oX9_likely 17 rfl) fl_X9_128 rfl (kn hn rfl) ?_
      refine r_aload_n C 0 (dk oX9_likely 18 rfl) rfl ?_
      refine r_getR C (dk oX9_likely 19 rfl) fl_X9_40 rfl (kn hn rfl) ?_
      refine r_aload_n C 0 (dk oX9_likely 20 rfl) rfl ?_
      refine r_getR C (dk oX9_likely 21 rfl) fl_X9_33 rfl (kn hn rfl) ?_
      refine r_getR C (dk oX9_likely 22 rfl) fl_X9_128 rfl (kn hn rfl) ?_
      refine r_getI C (dk oX9_likely 23 rfl) fl_X9_236 rfl (kn hn rfl) ?_
      rw [show I 33 1 = nI (brQ (sPk τ)) from hK.2.2.1]
      refine r_ivv C Z (dk oX9_likely 24 rfl) cl_X9_254 ci_X6_weighFacts rfl (kn hn rfl) (c38_X6_weighFacts hn I J (sPk τ) hK (sPhi τ) hM.1 (brQ (sPk τ)) (brN_16 hnk)) rfl rfl (Nat.le_of_ble_eq_true rfl) ⟨Nat.le_of_ble_eq_true rfl, Nat.le_of_ble_eq_true rfl⟩ ⟨Nat.zero_le _, Nat.zero_le _⟩ (fun I52 J52 h52 => ?_)
      obtain ⟨e2_, hF52, hV52⟩ := h52
      have e2_ := e2_.symm
      subst e2_
      have hF52 : ∀ k, k ≠ 53 → k ≠ 54 → I52 k = I k := fun k a _ => hF52 k a
      have hCS52 := hCS.q (qF.of hF52)
      refine r_aload_n C 0 (dk oX9_likely 25 rfl) rfl ?_
      refine r_getR C (dk oX9_likely 26 rfl) fl_X9_50 rfl (kn hn rfl) ?_
      refine r_getR C (dk oX9_likely 27 rfl) fl_X9_258 rfl (kn hn rfl) ?_
      refine r_iload_n C 1 (dk oX9_likely 28 rfl) rfl ?_
      refine r_iald C _ (dk oX9_likely 29 rfl) rfl (kn hn rfl) rfl (by omega) (by decide) ?_
      rw [hV52 f_ h_f_]
      refine hret (dk oX9_likely 30 rfl) rfl ?_
      refine ⟨?_, hCS52, (qF.of hF52).fr⟩
      unfold q_likely
      rw [if_pos (vd_n h_f_ (by omega)), cN_n (by omega), if_pos hb21]
    · rw [b32_0] at hb21
      refine r_ldc C (dk oX9_likely 11 rfl) kn_X9_80 ?_
      refine hret (dk oX9_likely 12 rfl) rfl ?_
      refine ⟨?_, hCS, Fr.rf I J⟩
      unfold q_likely
      rw [if_pos (vd_n h_f_ (by omega)), cN_n (by omega), if_neg (by rw [hb21]; decide)]
  · rw [b32_0, decide_eq_false_iff_not] at hb4
    refine r_ldc C (dk oX9_likely 3 rfl) kn_X9_143 ?_
    refine hret (dk oX9_likely 4 rfl) rfl ?_
    exact ⟨(if_neg hb4).symm, hCS, Fr.rf I J⟩

set_option maxHeartbeats 1000000 in
set_option maxRecDepth 100000 in
theorem c_X9_chance (hn : 117 ≤ n) (I : MI) (J : MJ) (τ : St) (hCS : CS I J τ) (x : Int32) : Ci l n ad cA D z 16 yX9_chance cX9_chance 2 .int I J [.ref (ad 0), .int x] (fun r I' J' => r = q_chance τ x ∧ CS I' J' τ ∧ Fr I I' J J') := by
  refine Ci.of (by decide) (Nat.le_of_ble_eq_true rfl) ?_
  intro p e s m args below meth c A C hin Z Q hret
  have hCS0 := hCS
  obtain ⟨hS, hKp, hM, hSil, hT, h16⟩ := hCS0
  obtain ⟨⟨hC, hco⟩, ⟨hP, hZ⟩, hK, hdu, hdu2, hse, hse2⟩ := hS
  have hnc : (sCl τ).1 ≤ 6 := hC.1
  have hnp : (sPp τ).1 ≤ 10 := hP.1
  have hnk : (sPk τ).1 ≤ 16 := hK.1
  have hL := hT.1
  have hop := @opN_lt (sPhi τ)
  have h386 : I 38 6 = nI (opN (sPhi τ)) := hM.2.1
  refine r_aload_n C 0 (dk oX9_chance 0 rfl) rfl ?_
  refine r_iload_n C 1 (dk oX9_chance 1 rfl) rfl ?_
  refine r_ivi C Z (dk oX9_chance 2 rfl) cl_X9_159 ci_X9_isClaim rfl (kn hn rfl) (c_X9_isClaim hn I J (sCl τ).1 (by omega) hC.2.1 x) rfl rfl (Nat.le_of_ble_eq_true rfl) ⟨Nat.le_of_ble_eq_true rfl, Nat.le_of_ble_eq_true rfl⟩ ⟨Nat.zero_le _, Nat.zero_le _⟩ (fun r2 I2 J2 h2 => ?_)
  obtain ⟨h2, e1_, e2_⟩ := h2
  have e1_ := e1_.symm
  have e2_ := e2_.symm
  subst e1_
  subst e2_
  subst h2
  refine r_if_ne (tgt := 11) C (dk oX9_chance 3 rfl) (by decide) (fun hb5 => ?_) (fun hb5 => ?_)
  · rw [b32_n, decide_eq_true_eq] at hb5
    obtain ⟨c_, h_c_, hx_c_⟩ := vd_of (by omega) hb5
    subst hx_c_
    refine r_aload_n C 0 (dk oX9_chance 6 rfl) rfl ?_
    refine r_getR C (dk oX9_chance 7 rfl) fl_X9_50 rfl (kn hn rfl) ?_
    refine r_aload_n C 0 (dk oX9_chance 8 rfl) rfl ?_
    refine r_getR C (dk oX9_chance 9 rfl) fl_X9_33 rfl (kn hn rfl) ?_
    refine r_aload_n C 0 (dk oX9_chance 10 rfl) rfl ?_
    refine r_getR C (dk oX9_chance 11 rfl) fl_X9_40 rfl (kn hn rfl) ?_
    refine r_aload_n C 0 (dk oX9_chance 12 rfl) rfl ?_
    refine r_getR C (dk oX9_chance 13 rfl) fl_X9_33 rfl (kn hn rfl) ?_
    refine r_getR C (dk oX9_chance 14 rfl) fl_X9_128 rfl (kn hn rfl) ?_
    refine r_getI C (dk oX9_chance 15 rfl) fl_X9_236 rfl (kn hn rfl) ?_
    rw [show I 33 1 = nI (brQ (sPk τ)) from hK.2.2.1]
    refine r_ivi C Z (dk oX9_chance 16 rfl) cl_X9_261 ci_X6_weighClaims rfl (kn hn rfl) (c38_X6_weighClaims hn I J (sCl τ) hC (sPk τ) hK (sPhi τ) hM (brQ (sPk τ)) (brN_16 hnk)) rfl rfl (Nat.le_of_ble_eq_true rfl) ⟨Nat.le_of_ble_eq_true rfl, Nat.le_of_ble_eq_true rfl⟩ ⟨Nat.zero_le _, Nat.zero_le _⟩ (fun r33 I33 J33 h33 => ?_)
    obtain ⟨e1_, e2_, hF33, hS33, hV33⟩ := h33
    have e1_ := e1_.symm
    have e2_ := e2_.symm
    subst e1_
    subst e2_
    have hCS33 := hCS.q (qF.of hF33)
    refine r_pop C (dk oX9_chance 17 rfl) rfl ?_
    refine r_aload_n C 0 (dk oX9_chance 18 rfl) rfl ?_
    refine r_getR C (dk oX9_chance 19 rfl) fl_X9_50 rfl (kn hn rfl) ?_
    refine r_getR C (dk oX9_chance 20 rfl) fl_X9_265 rfl (kn hn rfl) ?_
    refine r_iload_n C 1 (dk oX9_chance 21 rfl) rfl ?_
    refine r_iald C _ (dk oX9_chance 22 rfl) rfl (kn hn rfl) rfl (by omega) (by decide) ?_
    rw [hV33 c_ h_c_]
    refine hret (dk oX9_chance 23 rfl) rfl ?_
    refine ⟨?_, hCS33, (qF.of hF33).fr⟩
    unfold q_chance
    rw [if_pos (vd_n h_c_ (by omega)), cN_n (by omega)]
  · rw [b32_0, decide_eq_false_iff_not] at hb5
    refine r_ldc C (dk oX9_chance 4 rfl) kn_X9_143 ?_
    refine hret (dk oX9_chance 5 rfl) rfl ?_
    exact ⟨(if_neg hb5).symm, hCS, Fr.rf I J⟩

set_option maxHeartbeats 1000000 in
set_option maxRecDepth 100000 in
theorem c_X9_worth (hn : 117 ≤ n) (I : MI) (J : MJ) (τ : St) (hCS : CS I J τ) (x : Int32) : Ci l n ad cA D z 17 yX9_worth cX9_worth 2 .int I J [.ref (ad 0), .int x] (fun r I' J' => r = q_worth τ x ∧ CS I' J' τ ∧ Fr I I' J J') := by
  refine Ci.of (by decide) (Nat.le_of_ble_eq_true rfl) ?_
  intro p e s m args below meth c A C hin Z Q hret
  have hCS0 := hCS
  obtain ⟨hS, hKp, hM, hSil, hT, h16⟩ := hCS0
  obtain ⟨⟨hC, hco⟩, ⟨hP, hZ⟩, hK, hdu, hdu2, hse, hse2⟩ := hS
  have hnc : (sCl τ).1 ≤ 6 := hC.1
  have hnp : (sPp τ).1 ≤ 10 := hP.1
  have hnk : (sPk τ).1 ≤ 16 := hK.1
  have hL := hT.1
  have hop := @opN_lt (sPhi τ)
  have h386 : I 38 6 = nI (opN (sPhi τ)) := hM.2.1
  have hF0 : ∀ k, k ≠ 53 → k ≠ 54 → I k = I k := fun _ _ _ => rfl
  refine r_iload_n C 1 (dk oX9_worth 0 rfl) rfl ?_
  refine r_isi C Z (dk oX9_worth 1 rfl) cl_X9_220 st_X9_isSide (c_X9_isSide I J x) rfl rfl (Nat.le_of_ble_eq_true rfl) ⟨Nat.le_of_ble_eq_true rfl, Nat.le_of_ble_eq_true rfl⟩ ⟨Nat.zero_le _, Nat.zero_le _⟩ (fun r1 I1 J1 h1 => ?_)
  obtain ⟨h1, e1_, e2_⟩ := h1
  have e1_ := e1_.symm
  have e2_ := e2_.symm
  subst e1_
  subst e2_
  subst h1
  refine r_if_ne (tgt := 10) C (dk oX9_worth 2 rfl) (by decide) (fun hb4 => ?_) (fun hb4 => ?_)
  · rw [b32_n, decide_eq_true_eq] at hb4
    obtain ⟨s_, h_s_, hx_s_⟩ := vd_of (by decide) hb4
    subst hx_s_
    refine r_aload_n C 0 (dk oX9_worth 5 rfl) rfl ?_
    refine r_iload_n C 1 (dk oX9_worth 6 rfl) rfl ?_
    refine r_iconst C (dk oX9_worth 7 rfl) (v := nI 0) (by decide) ?_
    refine r_iconst C (dk oX9_worth 8 rfl) (v := nI 0) (by decide) ?_
    refine r_ivi C Z (dk oX9_worth 9 rfl) cl_X9_268 ci_X9_gain rfl (kn hn rfl) (c_X9_gain hn I J (sCl τ) (hC.q hF0) (sPk τ) (hK.q hF0) (sPhi τ) (hM.q (by decide) hF0) s_ h_s_ (0) (0) (by decide) (by decide)) rfl rfl (Nat.le_of_ble_eq_true rfl) ⟨Nat.le_of_ble_eq_true rfl, Nat.le_of_ble_eq_true rfl⟩ ⟨Nat.zero_le _, Nat.zero_le _⟩ (fun r14 I14 J14 h14 => ?_)
    obtain ⟨e1_, e2_, hF14⟩ := h14
    have e1_ := e1_.symm
    have e2_ := e2_.symm
    subst e1_
    subst e2_
    have hF14 : ∀ k, k ≠ 53 → k ≠ 54 → I14 k = I k := fun k a b => (hF14 k a b).trans (hF0 k a b)
    have hCS14 := hCS.q (qF.of hF14)
    refine hret (dk oX9_worth 10 rfl) rfl ?_
    refine ⟨?_, hCS14, (qF.of hF14).fr⟩
    unfold q_worth
    rw [if_pos (vd_n h_s_ (by omega)), cN_n (by omega)]
  · rw [b32_0, decide_eq_false_iff_not] at hb4
    refine r_ldc C (dk oX9_worth 3 rfl) kn_X9_143 ?_
    refine hret (dk oX9_worth 4 rfl) rfl ?_
    exact ⟨(if_neg hb4).symm, hCS, Fr.rf I J⟩

set_option maxHeartbeats 1000000 in
set_option maxRecDepth 100000 in
theorem c_X9_best (hn : 117 ≤ n) (I : MI) (J : MJ) (τ : St) (hCS : CS I J τ) (x m_x y : Int32) : Ci l n ad cA D z 18 yX9_best cX9_best 5 .int I J [.ref (ad 0), .int x, .int m_x, .int y] (fun r I' J' => r = q_best τ x m_x y ∧ CS I' J' τ ∧ Fr I I' J J') := by
  refine Ci.of (by decide) (Nat.le_of_ble_eq_true rfl) ?_
  intro p e s m args below meth c A C hin Z Q hret
  have hCS0 := hCS
  obtain ⟨hS, hKp, hM, hSil, hT, h16⟩ := hCS0
  obtain ⟨⟨hC, hco⟩, ⟨hP, hZ⟩, hK, hdu, hdu2, hse, hse2⟩ := hS
  have hnc : (sCl τ).1 ≤ 6 := hC.1
  have hnp : (sPp τ).1 ≤ 10 := hP.1
  have hnk : (sPk τ).1 ≤ 16 := hK.1
  have hL := hT.1
  have hop := @opN_lt (sPhi τ)
  have h386 : I 38 6 = nI (opN (sPhi τ)) := hM.2.1
  have hF0 : ∀ k, k ≠ 53 → k ≠ 54 → I k = I k := fun _ _ _ => rfl
  refine r_iload_n C 1 (dk oX9_best 0 rfl) rfl ?_
  refine r_isi C Z (dk oX9_best 1 rfl) cl_X9_220 st_X9_isSide (c_X9_isSide I J x) rfl rfl (Nat.le_of_ble_eq_true rfl) ⟨Nat.le_of_ble_eq_true rfl, Nat.le_of_ble_eq_true rfl⟩ ⟨Nat.zero_le _, Nat.zero_le _⟩ (fun r1 I1 J1 h1 => ?_)
  obtain ⟨h1, e1_, e2_⟩ := h1
  have e1_ := e1_.symm
  have e2_ := e2_.symm
  subst e1_
  subst e2_
  subst h1
  refine r_if_ne (tgt := 10) C (dk oX9_best 2 rfl) (by decide) (fun hb4 => ?_) (fun hb4 => ?_)
  · rw [b32_n, decide_eq_true_eq] at hb4
    obtain ⟨s_, h_s_, hx_s_⟩ := vd_of (by decide) hb4
    subst hx_s_
    refine r_iload_n C 2 (dk oX9_best 5 rfl) rfl ?_
    refine r_if_lt (tgt := 30) C (dk oX9_best 6 rfl) (by decide) (fun hb11 => ?_) (fun hb11 => ?_)
    · refine r_ldc C (dk oX9_best 15 rfl) kn_X9_70 ?_
      refine hret (dk oX9_best 16 rfl) rfl ?_
      refine ⟨?_, hCS, Fr.rf I J⟩
      unfold q_best
      rw [if_pos (vd_n h_s_ (by omega)), if_neg]
      first
        | exact fun q => lt0_vd hb11 q.1
        | exact fun q => hi_vd (n := 9999) (by decide) (Int32.not_le.mpr hb18) q.1
        | exact fun q => lt0_vd hb22 q.2
        | exact fun q => hi_vd (n := 2) (by decide) hb27 q.2
    · refine r_iload_n C 2 (dk oX9_best 7 rfl) rfl ?_
      refine r_sipush C (dk oX9_best 8 rfl) (v := nI 9999) (by decide) ?_
      refine r_icmp_gt (tgt := 30) C (dk oX9_best 9 rfl) (by decide) (fun hb18 => ?_) (fun hb18 => ?_)
      · refine r_ldc C (dk oX9_best 15 rfl) kn_X9_70 ?_
        refine hret (dk oX9_best 16 rfl) rfl ?_
        refine ⟨?_, hCS, Fr.rf I J⟩
        unfold q_best
        rw [if_pos (vd_n h_s_ (by omega)), if_neg]
        first
          | exact fun q => lt0_vd hb11 q.1
          | exact fun q => hi_vd (n := 9999) (by decide) (Int32.not_le.mpr hb18) q.1
          | exact fun q => lt0_vd hb22 q.2
          | exact fun q => hi_vd (n := 2) (by decide) hb27 q.2
      · have hb18 := Int32.not_lt.mp hb18
        refine r_iload_n C 3 (dk oX9_best 10 rfl) rfl ?_
        refine r_if_lt (tgt := 30) C (dk oX9_best 11 rfl) (by decide) (fun hb22 => ?_) (fun hb22 => ?_)
        · refine r_ldc C (dk oX9_best 15 rfl) kn_X9_70 ?_
          refine hret (dk oX9_best 16 rfl) rfl ?_
          refine ⟨?_, hCS, Fr.rf I J⟩
          unfold q_best
          rw [if_pos (vd_n h_s_ (by omega)), if_neg]
          first
            | exact fun q => lt0_vd hb11 q.1
            | exact fun q => hi_vd (n := 9999) (by decide) (Int32.not_le.mpr hb18) q.1
            | exact fun q => lt0_vd hb22 q.2
            | exact fun q => hi_vd (n := 2) (by decide) hb27 q.2
        · refine r_iload_n C 3 (dk oX9_best 12 rfl) rfl ?_
          refine r_iconst C (dk oX9_best 13 rfl) (v := nI 2) (by decide) ?_
          refine r_icmp_le (tgt := 33) C (dk oX9_best 14 rfl) (by decide) (fun hb27 => ?_) (fun hb27 => ?_)
          · have hvm : vdN m_x 10000 := vd_hi (n := 9999) (by decide) hb11 hb18
            have hvy : vdN y 3 := vd_hi (n := 2) (by decide) hb22 hb27
            have hy3 : y = nI 0 ∨ y = nI 1 ∨ y = nI 2 := by
              obtain ⟨y_, h_y_, hx_y_⟩ := vd_of (by decide) hvy
              subst hx_y_
              rcases (by omega : y_ = 0 ∨ y_ = 1 ∨ y_ = 2) with rfl | rfl | rfl <;> simp
            have hvm2 := hvm
            obtain ⟨m_, h_m_, hx_m_⟩ := vd_of (by decide) hvm2
            subst hx_m_
            refine r_aload_n C 0 (dk oX9_best 17 rfl) rfl ?_
            refine r_iload_n C 1 (dk oX9_best 18 rfl) rfl ?_
            refine r_iload_n C 2 (dk oX9_best 19 rfl) rfl ?_
            refine r_ivi C Z (dk oX9_best 20 rfl) cl_X9_272 ci_X9_bestSet rfl (kn hn rfl) (c_X9_bestSet hn I J (sCl τ) hC (sPk τ) hK (sPhi τ) hM s_ h_s_ m_ h_m_) rfl rfl (Nat.le_of_ble_eq_true rfl) ⟨Nat.le_of_ble_eq_true rfl, Nat.le_of_ble_eq_true rfl⟩ ⟨Nat.zero_le _, Nat.zero_le _⟩ (fun r36 I36 J36 h36 => ?_)
            obtain ⟨e1_, e2_, hF36⟩ := h36
            have e1_ := e1_.symm
            have e2_ := e2_.symm
            subst e1_
            subst e2_
            have hCS36 := hCS.q (qF.of hF36)
            have hbl := @bsF_lt (sCl τ) (sPk τ) (sPhi τ) s_ m_ hnk
            refine r_istore (lo' := [(4, _), (0, _), (1, _), (2, _), (3, _)]) C (dk oX9_best 21 rfl) (by decide) rfl ?_
            refine r_iload_n C 4 (dk oX9_best 22 rfl) rfl ?_
            rcases hy3 with rfl | rfl | rfl
            · refine r_lookup (off := 26) (tgt := 68) C (dk oX9_best 23 rfl) (by decide) (by decide) (by decide) ?_
              refine r_iload C 0 (dk oX9_best 24 rfl) rfl ?_
              refine hret (dk oX9_best 25 rfl) rfl ?_
              refine ⟨?_, hCS36, (qF.of hF36).fr⟩
              unfold q_best
              rw [if_pos (vd_n h_s_ (by omega)), if_pos (And.intro hvm hvy), cN_n (by omega), cN_n (by omega), if_pos rfl]
            · refine r_lookup (off := 29) (tgt := 71) C (dk oX9_best 23 rfl) (by decide) (by decide) (by decide) ?_
              refine r_aload_n C 1 (dk oX9_best 26 rfl) rfl ?_
              refine r_iload_n C 2 (dk oX9_best 27 rfl) rfl ?_
              refine r_iload C 0 (dk oX9_best 28 rfl) rfl ?_
              refine r_iconst C (dk oX9_best 29 rfl) (v := nI 0) (by decide) ?_
              refine r_ivi C Z (dk oX9_best 30 rfl) cl_X9_268 ci_X9_gain rfl (kn hn rfl) (c_X9_gain hn I36 J (sCl τ) (hC.q hF36) (sPk τ) (hK.q hF36) (sPhi τ) (hM.q (by decide) hF36) s_ h_s_ ((bsF (sCl τ) (sPk τ) (sPhi τ) s_ m_)) (0) (hbl) (by decide)) rfl rfl (Nat.le_of_ble_eq_true rfl) ⟨Nat.le_of_ble_eq_true rfl, Nat.le_of_ble_eq_true rfl⟩ ⟨Nat.zero_le _, Nat.zero_le _⟩ (fun r76 I76 J76 h76 => ?_)
              obtain ⟨e1_, e2_, hF76⟩ := h76
              have e1_ := e1_.symm
              have e2_ := e2_.symm
              subst e1_
              subst e2_
              have hF76 : ∀ k, k ≠ 53 → k ≠ 54 → I76 k = I k := fun k a b => (hF76 k a b).trans (hF36 k a b)
              have hCS76 := hCS.q (qF.of hF76)
              refine hret (dk oX9_best 31 rfl) rfl ?_
              refine ⟨?_, hCS76, (qF.of hF76).fr⟩
              unfold q_best
              rw [if_pos (vd_n h_s_ (by omega)), if_pos (And.intro hvm hvy), cN_n (by omega), cN_n (by omega), if_neg (by decide), if_pos rfl]
            · refine r_lookup (off := 38) (tgt := 80) C (dk oX9_best 23 rfl) (by decide) (by decide) (by decide) ?_
              refine r_aload_n C 1 (dk oX9_best 32 rfl) rfl ?_
              refine r_getR C (dk oX9_best 33 rfl) fl_X9_33 rfl (kn hn rfl) ?_
              refine r_getR C (dk oX9_best 34 rfl) fl_X9_128 rfl (kn hn rfl) ?_
              refine r_iload C 0 (dk oX9_best 35 rfl) rfl ?_
              refine r_ivi C Z (dk oX9_best 36 rfl) cl_X9_275 ci_X5_costOf rfl (kn hn rfl) (c_X5_costOf hn I36 J (sPk τ).1 (sPk τ).2.1 (sPk τ).2.2.1 (sPk τ).2.2.2.1 (sPk τ).2.2.2.2.1 (sPk τ).2.2.2.2.2 (hK.q hF36) (bsF (sCl τ) (sPk τ) (sPhi τ) s_ m_) (by omega)) rfl rfl (Nat.le_of_ble_eq_true rfl) ⟨Nat.le_of_ble_eq_true rfl, Nat.le_of_ble_eq_true rfl⟩ ⟨Nat.zero_le _, Nat.zero_le _⟩ (fun r89 I89 J89 h89 => ?_)
              obtain ⟨h89, e1_, e2_⟩ := h89
              have e1_ := e1_.symm
              have e2_ := e2_.symm
              subst e1_
              subst e2_
              subst h89
              refine hret (dk oX9_best 37 rfl) rfl ?_
              refine ⟨?_, hCS36, (qF.of hF36).fr⟩
              unfold q_best
              rw [if_pos (vd_n h_s_ (by omega)), if_pos (And.intro hvm hvy), cN_n (by omega), cN_n (by omega), if_neg (by decide), if_neg (by decide)]
          · refine r_ldc C (dk oX9_best 15 rfl) kn_X9_70 ?_
            refine hret (dk oX9_best 16 rfl) rfl ?_
            refine ⟨?_, hCS, Fr.rf I J⟩
            unfold q_best
            rw [if_pos (vd_n h_s_ (by omega)), if_neg]
            first
              | exact fun q => lt0_vd hb11 q.1
              | exact fun q => hi_vd (n := 9999) (by decide) (Int32.not_le.mpr hb18) q.1
              | exact fun q => lt0_vd hb22 q.2
              | exact fun q => hi_vd (n := 2) (by decide) hb27 q.2
  · rw [b32_0, decide_eq_false_iff_not] at hb4
    refine r_ldc C (dk oX9_best 3 rfl) kn_X9_143 ?_
    refine hret (dk oX9_best 4 rfl) rfl ?_
    exact ⟨(if_neg hb4).symm, hCS, Fr.rf I J⟩

set_option maxHeartbeats 1000000 in
set_option maxRecDepth 100000 in
theorem c_X9_game (hn : 117 ≤ n) (I : MI) (J : MJ) (τ : St) (hCS : CS I J τ) (x y : Int32) : Ci l n ad cA D z 19 yX9_game cX9_game 5 .int I J [.ref (ad 0), .int x, .int y] (fun r I' J' => r = q_game τ x y ∧ CS I' J' τ ∧ Fr I I' J J') := by
  refine Ci.of (by decide) (Nat.le_of_ble_eq_true rfl) ?_
  intro p e s m args below meth c A C hin Z Q hret
  have hCS0 := hCS
  obtain ⟨hS, hKp, hM, hSil, hT, h16⟩ := hCS0
  obtain ⟨⟨hC, hco⟩, ⟨hP, hZ⟩, hK, hdu, hdu2, hse, hse2⟩ := hS
  have hnc : (sCl τ).1 ≤ 6 := hC.1
  have hnp : (sPp τ).1 ≤ 10 := hP.1
  have hnk : (sPk τ).1 ≤ 16 := hK.1
  have hL := hT.1
  have hop := @opN_lt (sPhi τ)
  have h386 : I 38 6 = nI (opN (sPhi τ)) := hM.2.1
  have hF0 : ∀ k, k ≠ 53 → k ≠ 54 → I k = I k := fun _ _ _ => rfl
  refine r_iload_n C 1 (dk oX9_game 0 rfl) rfl ?_
  refine r_isi C Z (dk oX9_game 1 rfl) cl_X9_220 st_X9_isSide (c_X9_isSide I J x) rfl rfl (Nat.le_of_ble_eq_true rfl) ⟨Nat.le_of_ble_eq_true rfl, Nat.le_of_ble_eq_true rfl⟩ ⟨Nat.zero_le _, Nat.zero_le _⟩ (fun r1 I1 J1 h1 => ?_)
  obtain ⟨h1, e1_, e2_⟩ := h1
  have e1_ := e1_.symm
  have e2_ := e2_.symm
  subst e1_
  subst e2_
  subst h1
  refine r_if_ne (tgt := 10) C (dk oX9_game 2 rfl) (by decide) (fun hb4 => ?_) (fun hb4 => ?_)
  · rw [b32_n, decide_eq_true_eq] at hb4
    obtain ⟨s_, h_s_, hx_s_⟩ := vd_of (by decide) hb4
    subst hx_s_
    refine r_iload_n C 2 (dk oX9_game 5 rfl) rfl ?_
    refine r_if_lt (tgt := 19) C (dk oX9_game 6 rfl) (by decide) (fun hb11 => ?_) (fun hb11 => ?_)
    · refine r_ldc C (dk oX9_game 10 rfl) kn_X9_70 ?_
      refine hret (dk oX9_game 11 rfl) rfl ?_
      refine ⟨?_, hCS, Fr.rf I J⟩
      unfold q_game
      rw [if_pos (vd_n h_s_ (by omega)), if_neg]
      first
        | exact fun q => lt0_vd hb11 q
        | exact fun q => hi_vd (n := 2) (by decide) hb16 q
    · refine r_iload_n C 2 (dk oX9_game 7 rfl) rfl ?_
      refine r_iconst C (dk oX9_game 8 rfl) (v := nI 2) (by decide) ?_
      refine r_icmp_le (tgt := 22) C (dk oX9_game 9 rfl) (by decide) (fun hb16 => ?_) (fun hb16 => ?_)
      · have hvy : vdN y 3 := vd_hi (n := 2) (by decide) hb11 hb16
        have hy3 : y = nI 0 ∨ y = nI 1 ∨ y = nI 2 := by
          obtain ⟨y_, h_y_, hx_y_⟩ := vd_of (by decide) hvy
          subst hx_y_
          rcases (by omega : y_ = 0 ∨ y_ = 1 ∨ y_ = 2) with rfl | rfl | rfl <;> simp
        refine r_aload_n C 0 (dk oX9_game 12 rfl) rfl ?_
        refine r_iload_n C 1 (dk oX9_game 13 rfl) rfl ?_
        refine r_ivi C Z (dk oX9_game 14 rfl) cl_X9_278 ci_X9_leadSet rfl (kn hn rfl) (c_X9_leadSet hn I J (sCl τ) hC (sPk τ) hK (sPhi τ) hM s_ h_s_) rfl rfl (Nat.le_of_ble_eq_true rfl) ⟨Nat.le_of_ble_eq_true rfl, Nat.le_of_ble_eq_true rfl⟩ ⟨Nat.zero_le _, Nat.zero_le _⟩ (fun r24 I24 J24 h24 => ?_)
        obtain ⟨e1_, e2_, hF24⟩ := h24
        have e1_ := e1_.symm
        have e2_ := e2_.symm
        subst e1_
        subst e2_
        have hCS24 := hCS.q (qF.of hF24)
        have hll := @ldF_lt (sCl τ) (sPk τ) (sPhi τ) s_ hnk
        refine r_istore_n (lo' := [(3, _), (0, _), (1, _), (2, _)]) C (dk oX9_game 15 rfl) rfl (by decide) rfl ?_
        refine r_iload_n C 3 (dk oX9_game 16 rfl) rfl ?_
        refine r_if_ne (tgt := 34) C (dk oX9_game 17 rfl) (by decide) (fun hb29 => ?_) (fun hb29 => ?_)
        · have hy1 : ¬ y = nI 0 := fun q => hb29 (by rw [q]; rfl)
          refine r_aload_n C 1 (dk oX9_game 20 rfl) rfl ?_
          refine r_iconst C (dk oX9_game 21 rfl) (v := nI 1) (by decide) ?_
          refine r_iload_n C 2 (dk oX9_game 22 rfl) rfl ?_
          refine r_isub C (dk oX9_game 23 rfl) ?_
          rw [pk_sub (by omega)]
          refine r_iload_n C 0 (dk oX9_game 24 rfl) rfl ?_
          refine r_ivi C Z (dk oX9_game 25 rfl) cl_X9_281 ci_X9_replySet rfl (kn hn rfl) (c_X9_replySet hn I24 J (sCl τ) (hC.q hF24) (sPk τ) (hK.q hF24) (sPhi τ) (hM.q (by decide) hF24) (1 - s_) (by omega) (ldF (sCl τ) (sPk τ) (sPhi τ) s_) hll) rfl rfl (Nat.le_of_ble_eq_true rfl) ⟨Nat.le_of_ble_eq_true rfl, Nat.le_of_ble_eq_true rfl⟩ ⟨Nat.zero_le _, Nat.zero_le _⟩ (fun r39 I39 J39 h39 => ?_)
          obtain ⟨e1_, e2_, hF39⟩ := h39
          have e1_ := e1_.symm
          have e2_ := e2_.symm
          subst e1_
          subst e2_
          have hF39 : ∀ k, k ≠ 53 → k ≠ 54 → I39 k = I k := fun k a b => (hF39 k a b).trans (hF24 k a b)
          have hCS39 := hCS.q (qF.of hF39)
          have hrl := @rpF_lt (sCl τ) (sPk τ) (sPhi τ) (1 - s_) (ldF (sCl τ) (sPk τ) (sPhi τ) s_) hnk
          refine r_istore (lo' := [(4, _), (3, _), (0, _), (1, _), (2, _)]) C (dk oX9_game 26 rfl) (by decide) rfl ?_
          refine r_iload_n C 4 (dk oX9_game 27 rfl) rfl ?_
          refine r_iconst C (dk oX9_game 28 rfl) (v := nI 1) (by decide) ?_
          refine r_icmp_ne (tgt := 54) C (dk oX9_game 29 rfl) (by decide) (fun hb46 => ?_) (fun hb46 => ?_)
          · skip
            refine r_aload_n C 2 (dk oX9_game 32 rfl) rfl ?_
            refine r_iload_n C 3 (dk oX9_game 33 rfl) rfl ?_
            refine r_iload_n C 1 (dk oX9_game 34 rfl) rfl ?_
            refine r_iload C 0 (dk oX9_game 35 rfl) rfl ?_
            refine r_ivi C Z (dk oX9_game 36 rfl) cl_X9_268 ci_X9_gain rfl (kn hn rfl) (c_X9_gain hn I39 J (sCl τ) (hC.q hF39) (sPk τ) (hK.q hF39) (sPhi τ) (hM.q (by decide) hF39) s_ h_s_ ((ldF (sCl τ) (sPk τ) (sPhi τ) s_)) ((rpF (sCl τ) (sPk τ) (sPhi τ) (1 - s_) (ldF (sCl τ) (sPk τ) (sPhi τ) s_))) (hll) (hrl)) rfl rfl (Nat.le_of_ble_eq_true rfl) ⟨Nat.le_of_ble_eq_true rfl, Nat.le_of_ble_eq_true rfl⟩ ⟨Nat.zero_le _, Nat.zero_le _⟩ (fun r59 I59 J59 h59 => ?_)
            obtain ⟨e1_, e2_, hF59⟩ := h59
            have e1_ := e1_.symm
            have e2_ := e2_.symm
            subst e1_
            subst e2_
            have hF59 : ∀ k, k ≠ 53 → k ≠ 54 → I59 k = I k := fun k a b => (hF59 k a b).trans (hF39 k a b)
            have hCS59 := hCS.q (qF.of hF59)
            refine hret (dk oX9_game 37 rfl) rfl ?_
            first
              | (refine ⟨?_, hCS59, (qF.of hF59).fr⟩
                 unfold q_game
                 rw [if_pos (vd_n h_s_ (by omega)), if_pos hvy, cN_n (by omega), if_neg hy1, if_neg hb46])
              | (refine ⟨?_, hCS39, (qF.of hF39).fr⟩
                 unfold q_game
                 rw [if_pos (vd_n h_s_ (by omega)), if_pos hvy, cN_n (by omega), if_neg hy1, if_pos hb46])
          · refine r_iload C 0 (dk oX9_game 30 rfl) rfl ?_
            refine r_goto (tgt := 62) C (dk oX9_game 31 rfl) (by decide) ?_
            refine hret (dk oX9_game 37 rfl) rfl ?_
            first
              | (refine ⟨?_, hCS59, (qF.of hF59).fr⟩
                 unfold q_game
                 rw [if_pos (vd_n h_s_ (by omega)), if_pos hvy, cN_n (by omega), if_neg hy1, if_neg hb46])
              | (refine ⟨?_, hCS39, (qF.of hF39).fr⟩
                 unfold q_game
                 rw [if_pos (vd_n h_s_ (by omega)), if_pos hvy, cN_n (by omega), if_neg hy1, if_pos hb46])
        · have hy0 : y = nI 0 := hb29
          refine r_iload_n C 0 (dk oX9_game 18 rfl) rfl ?_
          refine hret (dk oX9_game 19 rfl) rfl ?_
          refine ⟨?_, hCS24, (qF.of hF24).fr⟩
          unfold q_game
          rw [if_pos (vd_n h_s_ (by omega)), if_pos hvy, cN_n (by omega), if_pos hy0]
      · refine r_ldc C (dk oX9_game 10 rfl) kn_X9_70 ?_
        refine hret (dk oX9_game 11 rfl) rfl ?_
        refine ⟨?_, hCS, Fr.rf I J⟩
        unfold q_game
        rw [if_pos (vd_n h_s_ (by omega)), if_neg]
        first
          | exact fun q => lt0_vd hb11 q
          | exact fun q => hi_vd (n := 2) (by decide) hb16 q
  · rw [b32_0, decide_eq_false_iff_not] at hb4
    refine r_ldc C (dk oX9_game 3 rfl) kn_X9_143 ?_
    refine hret (dk oX9_game 4 rfl) rfl ?_
    exact ⟨(if_neg hb4).symm, hCS, Fr.rf I J⟩

end PUB2
