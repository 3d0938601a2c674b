section MOD17
variable {l : Launch} {n : Nat} {ad : Nat → Nat} {cA : Nat → ClassId} {D : va_G} {z : Zw}
theorem fc_r {I I' : MI} (h1 : ∀ k, k ≠ 117 → k ≠ 144 → I' k = I k) (h2 : ∀ i, i ≠ 39 → I' 117 i = I 117 i) : mQr I I' := ⟨fun k a b => h1 k b (by omega), h1 141 (by decide) (by decide), fun i a => h2 i (by omega)⟩
set_option maxHeartbeats 1000000 in
set_option maxRecDepth 100000 in
theorem c_X10_told (hn : 148 ≤ n) (I : MI) (J : MJ) (τ : St) (hMM : MM I τ) (x y : Int32) : Ci l n ad cA D z 5 yX10_told cX10_told 3 .int I J [.ref (ad 117), .int x, .int y] (fun r I' J' => r = q_told τ x y ∧ MM I' τ ∧ (∀ k, k < 117 → I' k = I k) ∧ J' = J) := by
  refine Ci.of (by decide) (Nat.le_of_ble_eq_true rfl) ?_
  intro p e s m args below meth c A C hin Z Q hret
  have hC0 := hMM.c0
  have hK0 := hMM.k0
  have hP0 := hMM.pap.zz
  have hok := hMM.ok
  have hnc : (sCl τ).1 ≤ 6 := hC0.1
  have hnp : (sPp τ).1 ≤ 10 := hP0.1
  have hnk : (sPk τ).1 ≤ 16 := hK0.1
  have hMT := hMM.2.2.2.1
  have hL := hMT.1
  have hop := @opN_lt (sPhi τ)
  have hB : brQ (sPk τ) < 65536 := brN_16 hnk
  refine r_aload_n C 0 (dk oX10_told 0 rfl) rfl ?_
  refine r_iload_n C 1 (dk oX10_told 1 rfl) rfl ?_
  refine r_ivi C Z (dk oX10_told 2 rfl) cl_X10_284 ci_X10_isClaim rfl (km hn rfl) (c_X10_isClaim hn I J (sCl τ).1 (by omega) hC0.2.1 x) rfl rfl (Nat.le_of_ble_eq_true rfl) ⟨Nat.le_of_ble_eq_true rfl, Nat.le_of_ble_eq_true rfl⟩ ⟨Nat.zero_le _, Nat.zero_le _⟩ (fun r2 I2 J2 h2 => ?_)
  obtain ⟨h2, e1_, e2_⟩ := h2
  have e1_ := e1_.symm
  have e2_ := e2_.symm
  subst e1_
  subst e2_
  subst h2
  refine r_if_ne (tgt := 12) C (dk oX10_told 3 rfl) (by decide) (fun hb5 => ?_) (fun hb5 => ?_)
  · rw [b32_n, decide_eq_true_eq] at hb5
    obtain ⟨c_, h_c_, hx_c_⟩ := vd_of (by omega) hb5
    subst hx_c_
    refine r_iload_n C 2 (dk oX10_told 6 rfl) rfl ?_
    rcases sw2 y with rfl | rfl | rfl | hy
    · refine r_tabIn (off := 27) (tgt := 40) C (dk oX10_told 7 rfl) (by decide) (by decide) (by decide) (by decide) ?_
      refine r_aload_n C 0 (dk oX10_told 8 rfl) rfl ?_
      refine r_getR C (dk oX10_told 9 rfl) fl_X10_13 rfl (km hn rfl) ?_
      refine r_iload_n C 1 (dk oX10_told 10 rfl) rfl ?_
      refine r_iald C _ (dk oX10_told 11 rfl) rfl (km hn rfl) rfl (by omega) (by decide) ?_
      rw [(hC0.2.2 c_ h_c_).1]
      refine hret (dk oX10_told 12 rfl) rfl ?_
      refine ⟨?_, hMM, fun _ _ => rfl, rfl⟩
      unfold q_told
      rw [if_pos (vd_n h_c_ (by omega)), cN_n (by omega), if_pos rfl]
    · refine r_tabIn (off := 34) (tgt := 47) C (dk oX10_told 7 rfl) (by decide) (by decide) (by decide) (by decide) ?_
      refine r_aload_n C 0 (dk oX10_told 13 rfl) rfl ?_
      refine r_iload_n C 1 (dk oX10_told 14 rfl) rfl ?_
      refine r_ivi C Z (dk oX10_told 15 rfl) cl_X10_287 ci_X10_factsOf rfl (km hn rfl) (c_X10_factsOf hn I J c_ ((sCl τ).2.2 c_) (by omega) (hC0.2.2 c_ h_c_).2.2) rfl rfl (Nat.le_of_ble_eq_true rfl) ⟨Nat.le_of_ble_eq_true rfl, Nat.le_of_ble_eq_true rfl⟩ ⟨Nat.zero_le _, Nat.zero_le _⟩ (fun r49 I49 J49 h49 => ?_)
      obtain ⟨h49, e1_, e2_⟩ := h49
      have e1_ := e1_.symm
      have e2_ := e2_.symm
      subst e1_
      subst e2_
      subst h49
      refine hret (dk oX10_told 16 rfl) rfl ?_
      refine ⟨?_, hMM, fun _ _ => rfl, rfl⟩
      unfold q_told
      rw [if_pos (vd_n h_c_ (by omega)), cN_n (by omega), if_neg (by decide), if_pos rfl]
    · refine r_tabIn (off := 40) (tgt := 53) C (dk oX10_told 7 rfl) (by decide) (by decide) (by decide) (by decide) ?_
      refine r_aload_n C 0 (dk oX10_told 17 rfl) rfl ?_
      refine r_iconst C (dk oX10_told 18 rfl) (v := -1) (by decide) ?_
      refine r_ivv C Z (dk oX10_told 19 rfl) cl_X10_247 ci_X10_hearAll rfl (km hn rfl) (c_X10_hear1 hn I J τ hMM) rfl rfl (Nat.le_of_ble_eq_true rfl) ⟨Nat.le_of_ble_eq_true rfl, Nat.le_of_ble_eq_true rfl⟩ ⟨Nat.zero_le _, Nat.zero_le _⟩ (fun I55 J55 h55 => ?_)
      obtain ⟨hM55, hSil55, hO55, e2_⟩ := h55
      have e2_ := e2_.symm
      subst e2_
      have hR55 := hO55.r
      have hF55 : ∀ k, k < 117 → I55 k = I k := fun k hk => hO55 k (by omega)
      refine r_aload_n C 0 (dk oX10_told 20 rfl) rfl ?_
      refine r_iload_n C 1 (dk oX10_told 21 rfl) rfl ?_
      refine r_ivv C Z (dk oX10_told 22 rfl) cl_X10_290 ci_X10_findCases rfl (km hn rfl) (c_X10_findCases hn I55 J c_ ((sCl τ).2.2 c_) (by omega) ((hC0.2.2 c_ h_c_).2.2.sl hR55)) rfl rfl (Nat.le_of_ble_eq_true rfl) ⟨Nat.le_of_ble_eq_true rfl, Nat.le_of_ble_eq_true rfl⟩ ⟨Nat.zero_le _, Nat.zero_le _⟩ (fun I60 J60 h60 => ?_)
      obtain ⟨hH60, hOa60, hOb60, e2_⟩ := h60
      have e2_ := e2_.symm
      subst e2_
      have hMf : FcM I60 134 (sPhi τ) := hM55.of (fun c a b => hOa60 c (by omega) (by omega))
      have hRf := hR55.tr (fc_r hOa60 hOb60)
      have hFf : ∀ k, k < 117 → I60 k = I k := fun k hk => by rw [hOa60 k (by omega) (by omega)]; exact hF55 k hk
      refine r_aload_n C 0 (dk oX10_told 23 rfl) rfl ?_
      refine r_iconst C (dk oX10_told 24 rfl) (v := nI 0) (by decide) ?_
      refine r_ivi C Z (dk oX10_told 25 rfl) cl_X10_293 ci_X10_sureBy rfl (km hn rfl) (c_X10_sureBy hn I60 J (sPhi τ) hMf hok 0 (by decide) ((sCl τ).2.2 c_) hH60) rfl rfl (Nat.le_of_ble_eq_true rfl) ⟨Nat.le_of_ble_eq_true rfl, Nat.le_of_ble_eq_true rfl⟩ ⟨Nat.zero_le _, Nat.zero_le _⟩ (fun r65 I65 J65 h65 => ?_)
      obtain ⟨h65, e1_, e2_⟩ := h65
      have e1_ := e1_.symm
      have e2_ := e2_.symm
      subst e1_
      subst e2_
      subst h65
      rw [suD_0 hok]
      refine hret (dk oX10_told 26 rfl) rfl ?_
      refine ⟨?_, hMM.r hRf, hFf, rfl⟩
      unfold q_told
      rw [if_pos (vd_n h_c_ (by omega)), cN_n (by omega), if_neg (by decide), if_neg (by decide), if_pos rfl]
    · refine r_tabOut (tgt := 69) C (dk oX10_told 7 rfl) hy (by decide) ?_
      refine r_ldc C (dk oX10_told 27 rfl) kn_X10_135 ?_
      refine hret (dk oX10_told 28 rfl) rfl ?_
      refine ⟨?_, hMM, fun _ _ => rfl, rfl⟩
      unfold q_told
      rw [if_pos (vd_n h_c_ (by omega)), if_neg (sw_ne (n := 2) (k := 0) hy (by decide) (by decide)), if_neg (sw_ne (n := 2) (k := 1) hy (by decide) (by decide)), if_neg (sw_ne (n := 2) (k := 2) hy (by decide) (by decide))]
  · rw [b32_0, decide_eq_false_iff_not] at hb5
    refine r_ldcw C (dk oX10_told 4 rfl) kn_X10_264 ?_
    refine hret (dk oX10_told 5 rfl) rfl ?_
    refine ⟨?_, hMM, fun _ _ => rfl, rfl⟩
    exact (if_neg hb5).symm

set_option maxHeartbeats 1000000 in
set_option maxRecDepth 100000 in
theorem c_X10_turns (hn : 148 ≤ n) (I : MI) (J : MJ) (τ : St) (hMM : MM I τ) (x : Int32) : Ci l n ad cA D z 5 yX10_turns cX10_turns 6 .int I J [.ref (ad 117), .int x] (fun r I' J' => r = q_turns τ x ∧ MM I' τ ∧ (∀ k, k < 117 → I' k = I k) ∧ J' = J) := by
  refine Ci.of (by decide) (Nat.le_of_ble_eq_true rfl) ?_
  intro p e s m args below meth c A C hin Z Q hret
  have hC0 := hMM.c0
  have hK0 := hMM.k0
  have hP0 := hMM.pap.zz
  have hok := hMM.ok
  have hnc : (sCl τ).1 ≤ 6 := hC0.1
  have hnp : (sPp τ).1 ≤ 10 := hP0.1
  have hnk : (sPk τ).1 ≤ 16 := hK0.1
  have hMT := hMM.2.2.2.1
  have hL := hMT.1
  have hop := @opN_lt (sPhi τ)
  have hB : brQ (sPk τ) < 65536 := brN_16 hnk
  refine r_aload_n C 0 (dk oX10_turns 0 rfl) rfl ?_
  refine r_iload_n C 1 (dk oX10_turns 1 rfl) rfl ?_
  refine r_ivi C Z (dk oX10_turns 2 rfl) cl_X10_284 ci_X10_isClaim rfl (km hn rfl) (c_X10_isClaim hn I J (sCl τ).1 (by omega) hC0.2.1 x) rfl rfl (Nat.le_of_ble_eq_true rfl) ⟨Nat.le_of_ble_eq_true rfl, Nat.le_of_ble_eq_true rfl⟩ ⟨Nat.zero_le _, Nat.zero_le _⟩ (fun r2 I2 J2 h2 => ?_)
  obtain ⟨h2, e1_, e2_⟩ := h2
  have e1_ := e1_.symm
  have e2_ := e2_.symm
  subst e1_
  subst e2_
  subst h2
  refine r_if_ne (tgt := 12) C (dk oX10_turns 3 rfl) (by decide) (fun hb5 => ?_) (fun hb5 => ?_)
  · rw [b32_n, decide_eq_true_eq] at hb5
    obtain ⟨c_, h_c_, hx_c_⟩ := vd_of (by omega) hb5
    subst hx_c_
    refine r_aload_n C 0 (dk oX10_turns 6 rfl) rfl ?_
    refine r_iconst C (dk oX10_turns 7 rfl) (v := -1) (by decide) ?_
    refine r_ivv C Z (dk oX10_turns 8 rfl) cl_X10_247 ci_X10_hearAll rfl (km hn rfl) (c_X10_hear1 hn I J τ hMM) rfl rfl (Nat.le_of_ble_eq_true rfl) ⟨Nat.le_of_ble_eq_true rfl, Nat.le_of_ble_eq_true rfl⟩ ⟨Nat.zero_le _, Nat.zero_le _⟩ (fun I14 J14 h14 => ?_)
    obtain ⟨hM14, hSil14, hO14, e2_⟩ := h14
    have e2_ := e2_.symm
    subst e2_
    have hR14 := hO14.r
    have hF14 : ∀ k, k < 117 → I14 k = I k := fun k hk => hO14 k (by omega)
    refine r_aload_n C 0 (dk oX10_turns 9 rfl) rfl ?_
    refine r_iload_n C 1 (dk oX10_turns 10 rfl) rfl ?_
    refine r_ivv C Z (dk oX10_turns 11 rfl) cl_X10_290 ci_X10_findCases rfl (km hn rfl) (c_X10_findCases hn I14 J c_ ((sCl τ).2.2 c_) (by omega) ((hC0.2.2 c_ h_c_).2.2.sl hR14)) rfl rfl (Nat.le_of_ble_eq_true rfl) ⟨Nat.le_of_ble_eq_true rfl, Nat.le_of_ble_eq_true rfl⟩ ⟨Nat.zero_le _, Nat.zero_le _⟩ (fun I19 J19 h19 => ?_)
    obtain ⟨hH19, hOa19, hOb19, e2_⟩ := h19
    have e2_ := e2_.symm
    subst e2_
    have hMf : FcM I19 134 (sPhi τ) := hM14.of (fun c a b => hOa19 c (by omega) (by omega))
    have hRf := hR14.tr (fc_r hOa19 hOb19)
    have hFf : ∀ k, k < 117 → I19 k = I k := fun k hk => by rw [hOa19 k (by omega) (by omega)]; exact hF14 k hk
    refine r_aload_n C 0 (dk oX10_turns 12 rfl) rfl ?_
    refine r_ivi C Z (dk oX10_turns 13 rfl) cl_X10_278 ci_X10_openFacts rfl (km hn rfl) (c_X10_openFacts hn I19 J (sPhi τ) hMf hok) rfl rfl (Nat.le_of_ble_eq_true rfl) ⟨Nat.le_of_ble_eq_true rfl, Nat.le_of_ble_eq_true rfl⟩ ⟨Nat.zero_le _, Nat.zero_le _⟩ (fun r23 I23 J23 h23 => ?_)
    obtain ⟨h23, e1_, e2_⟩ := h23
    have e1_ := e1_.symm
    have e2_ := e2_.symm
    subst e1_
    subst e2_
    subst h23
    refine r_istore_n (lo' := [(2, _), (0, _), (1, _)]) C (dk oX10_turns 14 rfl) rfl (by decide) rfl ?_
    refine r_iconst C (dk oX10_turns 15 rfl) (v := nI 0) (by decide) ?_
    refine r_istore_n (lo' := [(3, _), (2, _), (0, _), (1, _)]) C (dk oX10_turns 16 rfl) rfl (by decide) rfl ?_
    refine r_iconst C (dk oX10_turns 17 rfl) (v := nI 0) (by decide) ?_
    refine r_istore (lo' := [(4, _), (3, _), (2, _), (0, _), (1, _)]) C (dk oX10_turns 18 rfl) (by decide) rfl ?_
    have L32 : ∀ (d_ : Nat) (s_ : Nat), 4096 - s_ < d_ → s_ ≤ 4096 → V p l e (rmL 5) s m args below meth c Q D A 6 0 0 n ad (mE cA ad I19 J) 32 [(0, .ref (ad 117)), (1, .int (nI c_)), (2, .int (nI (opN (sPhi τ)))), (3, .int (nI (bS (fun g => (opN (sPhi τ)).testBit g && anyB (ptB ((sCl τ).2.2 c_) (sPhi τ) g) s_) 12))), (4, .int (nI s_))] [] := by
      intro d_
      induction d_ with
      | zero => intros; exact absurd (by assumption) (Nat.not_lt_zero _)
      | succ d_ ih => 
        intro s_ hd_ hs
        refine r_iload C 4 (dk oX10_turns 19 rfl) rfl ?_
        refine r_sipush C (dk oX10_turns 20 rfl) (v := nI 4096) (by decide) ?_
        refine r_icmp_ge (tgt := 119) C (dk oX10_turns 21 rfl) (by decide) (fun hb37 => ?_) (fun hb37 => ?_)
        · simp (disch := omega) only [nI_leI, nI_ltI, nI_eq, nI_eq0] at hb37
          refine r_iload_n C 3 (dk oX10_turns 66 rfl) rfl ?_
          refine hret (dk oX10_turns 67 rfl) rfl ?_
          refine ⟨?_, hMM.r hRf, hFf, rfl⟩
          unfold q_turns
          rw [if_pos (vd_n h_c_ (by omega)), cN_n (by omega), show s_ = 4096 by omega]
          refine congrArg nI (bS_cong 12 (fun g hg => ?_))
          cases ho : (opN (sPhi τ)).testBit g
          · rfl
          · rw [tn_eq hok hg ho]
        · simp (disch := omega) only [nI_leI, nI_ltI, nI_eq, nI_eq0] at hb37
          have ihO := ih
          refine r_iconst C (dk oX10_turns 22 rfl) (v := nI 0) (by decide) ?_
          refine r_istore (lo' := [(5, _), (0, _), (1, _), (2, _), (3, _), (4, _)]) C (dk oX10_turns 23 rfl) (by decide) rfl ?_
          have L43 : ∀ (d_ : Nat) (f_ : Nat), 12 - f_ < d_ → f_ ≤ 12 → V p l e (rmL 5) s m args below meth c Q D A 6 0 0 n ad (mE cA ad I19 J) 43 [(0, .ref (ad 117)), (1, .int (nI c_)), (2, .int (nI (opN (sPhi τ)))), (3, .int (nI (bS (fun g => (opN (sPhi τ)).testBit g && anyB (ptB ((sCl τ).2.2 c_) (sPhi τ) g) (if g < f_ then s_ + 1 else s_)) 12))), (4, .int (nI s_)), (5, .int (nI f_))] [] := by
            intro d_
            induction d_ with
            | zero => intros; exact absurd (by assumption) (Nat.not_lt_zero _)
            | succ d_ ih => 
              intro f_ hd2 hf
              refine r_iload C 5 (dk oX10_turns 24 rfl) rfl ?_
              refine r_bipush C (dk oX10_turns 25 rfl) (v := nI 12) (by decide) ?_
              refine r_icmp_ge (tgt := 113) C (dk oX10_turns 26 rfl) (by decide) (fun hb47 => ?_) (fun hb47 => ?_)
              · simp (disch := omega) only [nI_leI, nI_ltI, nI_eq, nI_eq0] at hb47
                have hend : bS (fun g => (opN (sPhi τ)).testBit g && anyB (ptB ((sCl τ).2.2 c_) (sPhi τ) g) (if g < f_ then s_ + 1 else s_)) 12 = bS (fun g => (opN (sPhi τ)).testBit g && anyB (ptB ((sCl τ).2.2 c_) (sPhi τ) g) (s_ + 1)) 12 := bS_cong 12 (fun g hg => by rw [if_pos (by omega)])
                refine r_iinc (lo' := [(4, _), (0, _), (1, _), (2, _), (3, _), (5, _)]) C 4 (dk oX10_turns 64 rfl) rfl (by first | exact nI_inc _ | rfl) (by decide) rfl ?_
                refine r_goto (tgt := 32) C (dk oX10_turns 65 rfl) (by decide) ?_
                refine V.sub [1, 2, 3, 4, 0] rfl ?_
                have hih := ihO (s_ + 1) (by omega) (by omega)
                rw [← hend] at hih
                exact hih
              · simp (disch := omega) only [nI_leI, nI_ltI, nI_eq, nI_eq0] at hb47
                refine r_iload C 4 (dk oX10_turns 27 rfl) rfl ?_
                refine r_iload_n C 2 (dk oX10_turns 28 rfl) rfl ?_
                refine r_iconst C (dk oX10_turns 29 rfl) (v := -1) (by decide) ?_
                refine r_ixor C (dk oX10_turns 30 rfl) ?_
                refine r_iand C (dk oX10_turns 31 rfl) ?_
                rw [nI_not (by omega)]
                have han : anN s_ (opN (sPhi τ)) < 4096 := anN_lt (k := 12) (by omega)
                refine r_if_ne (tgt := 113) C (dk oX10_turns 32 rfl) (by decide) (fun hb56 => ?_) (fun hb56 => ?_)
                · simp (disch := omega) only [nI_leI, nI_ltI, nI_eq, nI_eq0] at hb56
                  have hsub : sub s_ (opN (sPhi τ)) = false := by rw [sub_anN]; exact decide_eq_false hb56
                  have hend : bS (fun g => (opN (sPhi τ)).testBit g && anyB (ptB ((sCl τ).2.2 c_) (sPhi τ) g) (if g < f_ then s_ + 1 else s_)) 12 = bS (fun g => (opN (sPhi τ)).testBit g && anyB (ptB ((sCl τ).2.2 c_) (sPhi τ) g) (s_ + 1)) 12 := bS_cong 12 (fun g hg => by
                    split
                    · rfl
                    · rw [any_skip (P := ptB ((sCl τ).2.2 c_) (sPhi τ) g) (by unfold ptB; rw [hsub]; rfl)])
                  refine r_iinc (lo' := [(4, _), (0, _), (1, _), (2, _), (3, _), (5, _)]) C 4 (dk oX10_turns 64 rfl) rfl (by first | exact nI_inc _ | rfl) (by decide) rfl ?_
                  refine r_goto (tgt := 32) C (dk oX10_turns 65 rfl) (by decide) ?_
                  refine V.sub [1, 2, 3, 4, 0] rfl ?_
                  have hih := ihO (s_ + 1) (by omega) (by omega)
                  rw [← hend] at hih
                  exact hih
                · simp (disch := omega) only [nI_leI, nI_ltI, nI_eq, nI_eq0] at hb56
                  have hsub : sub s_ (opN (sPhi τ)) = true := by rw [sub_anN]; exact decide_eq_true hb56
                  refine r_iload_n C 2 (dk oX10_turns 33 rfl) rfl ?_
                  refine r_iload C 5 (dk oX10_turns 34 rfl) rfl ?_
                  refine r_isi C Z (dk oX10_turns 35 rfl) cl_X10_231 st_X10_has (c_X10_has I19 J (opN (sPhi τ)) (f_) (by omega) (by omega)) rfl rfl (Nat.le_of_ble_eq_true rfl) ⟨Nat.le_of_ble_eq_true rfl, Nat.le_of_ble_eq_true rfl⟩ ⟨Nat.zero_le _, Nat.zero_le _⟩ (fun r62 I62 J62 h62 => ?_)
                  obtain ⟨h62, e1_, e2_⟩ := h62
                  have e1_ := e1_.symm
                  have e2_ := e2_.symm
                  subst e1_
                  subst e2_
                  subst h62
                  refine r_if_eq (tgt := 107) C (dk oX10_turns 36 rfl) (by decide) (fun hb65 => ?_) (fun hb65 => ?_)
                  · rw [b32_0] at hb65
                    refine r_iinc (lo' := [(5, _), (0, _), (1, _), (2, _), (3, _), (4, _)]) C 5 (dk oX10_turns 62 rfl) rfl (by first | exact nI_inc _ | rfl) (by decide) rfl ?_
                    refine r_goto (tgt := 43) C (dk oX10_turns 63 rfl) (by decide) ?_
                    refine V.sub [1, 2, 3, 4, 5, 0] rfl ?_
                    have hih := ih (f_ + 1) (by omega) (by omega)
                    first
                      | (have hk65 : (opN (sPhi τ)).testBit f_ = false := hb65
                         have e : bS (fun g => (opN (sPhi τ)).testBit g && anyB (ptB ((sCl τ).2.2 c_) (sPhi τ) g) (if g < f_ + 1 then s_ + 1 else s_)) 12 = bS (fun g => (opN (sPhi τ)).testBit g && anyB (ptB ((sCl τ).2.2 c_) (sPhi τ) g) (if g < f_ then s_ + 1 else s_)) 12 := bS_cong 12 (fun g hg => by
                           by_cases e : g = f_
                           · subst e
                             rw [hk65]; rfl
                           · by_cases e2 : g < f_
                             · rw [if_pos e2, if_pos (by omega)]
                             · rw [if_neg e2, if_neg (by omega)])
                         rw [e] at hih
                         exact hih)
                      | (have hk97 : evC ((sCl τ).2.2 c_) (soD (sPhi τ) s_ 0) = evC ((sCl τ).2.2 c_) (soD (sPhi τ) (s_ ^^^ 2 ^ f_) 0) := hb97
                         have e : bS (fun g => (opN (sPhi τ)).testBit g && anyB (ptB ((sCl τ).2.2 c_) (sPhi τ) g) (if g < f_ + 1 then s_ + 1 else s_)) 12 = bS (fun g => (opN (sPhi τ)).testBit g && anyB (ptB ((sCl τ).2.2 c_) (sPhi τ) g) (if g < f_ then s_ + 1 else s_)) 12 := bS_cong 12 (fun g hg => by
                           by_cases e : g = f_
                           · subst e
                             rw [if_pos (by omega), if_neg (by omega), any_skip (P := ptB ((sCl τ).2.2 c_) (sPhi τ) g) (by unfold ptB; rw [hk97, bne_self_eq_false, Bool.and_false])]
                           · by_cases e2 : g < f_
                             · rw [if_pos e2, if_pos (by omega)]
                             · rw [if_neg e2, if_neg (by omega)])
                         rw [e] at hih
                         exact hih)
                      | (have e : bS (fun g => (opN (sPhi τ)).testBit g && anyB (ptB ((sCl τ).2.2 c_) (sPhi τ) g) (if g < f_ + 1 then s_ + 1 else s_)) 12 = bS (fun g => (opN (sPhi τ)).testBit g && anyB (ptB ((sCl τ).2.2 c_) (sPhi τ) g) (if g < f_ then s_ + 1 else s_)) 12 ||| 2 ^ f_ := by
                           rw [bS_set 12 (by omega)]
                           refine bS_cong 12 (fun g hg => ?_)
                           by_cases e : g = f_
                           · subst e
                             rw [if_pos rfl, if_pos (by omega), hb65]
                             show (true && (anyB (ptB ((sCl τ).2.2 c_) (sPhi τ) g) s_ || ptB ((sCl τ).2.2 c_) (sPhi τ) g s_)) = true
                             rw [show ptB ((sCl τ).2.2 c_) (sPhi τ) g s_ = true from by unfold ptB; rw [hsub, bne_iff_ne.mpr hb97]; rfl, Bool.or_true]; rfl
                           · rw [if_neg e]
                             by_cases e2 : g < f_
                             · rw [if_pos e2, if_pos (by omega)]
                             · rw [if_neg e2, if_neg (by omega)]
                         rw [e] at hih
                         exact hih)
                  · rw [b32_n] at hb65
                    refine r_aload_n C 0 (dk oX10_turns 37 rfl) rfl ?_
                    refine r_getR C (dk oX10_turns 38 rfl) fl_X10_93 rfl (km hn rfl) ?_
                    refine r_aload_n C 0 (dk oX10_turns 39 rfl) rfl ?_
                    refine r_iload C 4 (dk oX10_turns 40 rfl) rfl ?_
                    refine r_iconst C (dk oX10_turns 41 rfl) (v := nI 0) (by decide) ?_
                    refine r_ivi C Z (dk oX10_turns 42 rfl) cl_X10_281 ci_X10_soBy rfl (km hn rfl) (c_X10_soBy hn I19 J (sPhi τ) hMf s_ 0 (by omega) (by decide)) rfl rfl (Nat.le_of_ble_eq_true rfl) ⟨Nat.le_of_ble_eq_true rfl, Nat.le_of_ble_eq_true rfl⟩ ⟨Nat.zero_le _, Nat.zero_le _⟩ (fun r76 I76 J76 h76 => ?_)
                    obtain ⟨h76, e1_, e2_⟩ := h76
                    have e1_ := e1_.symm
                    have e2_ := e2_.symm
                    subst e1_
                    subst e2_
                    subst h76
                    refine r_zald C _ (dk oX10_turns 43 rfl) rfl (km hn rfl) rfl soD_lt (by decide) ?_
                    rw [hH19 _ soD_lt]
                    refine r_aload_n C 0 (dk oX10_turns 44 rfl) rfl ?_
                    refine r_getR C (dk oX10_turns 45 rfl) fl_X10_93 rfl (km hn rfl) ?_
                    refine r_aload_n C 0 (dk oX10_turns 46 rfl) rfl ?_
                    refine r_iload C 4 (dk oX10_turns 47 rfl) rfl ?_
                    refine r_iconst C (dk oX10_turns 48 rfl) (v := nI 1) (by decide) ?_
                    refine r_iload C 5 (dk oX10_turns 49 rfl) rfl ?_
                    refine r_ishl C (dk oX10_turns 50 rfl) ?_
                    rw [shl1 (by omega)]
                    refine r_ixor C (dk oX10_turns 51 rfl) ?_
                    rw [nx_xor]
                    have hx12 : s_ ^^^ 2 ^ f_ < 4096 := xor_lt12 (by omega) (show 2 ^ f_ < 2 ^ 12 from Nat.pow_lt_pow_right (by decide) (by omega))
                    refine r_iconst C (dk oX10_turns 52 rfl) (v := nI 0) (by decide) ?_
                    refine r_ivi C Z (dk oX10_turns 53 rfl) cl_X10_281 ci_X10_soBy rfl (km hn rfl) (c_X10_soBy hn I19 J (sPhi τ) hMf (s_ ^^^ 2 ^ f_) 0 hx12 (by decide)) rfl rfl (Nat.le_of_ble_eq_true rfl) ⟨Nat.le_of_ble_eq_true rfl, Nat.le_of_ble_eq_true rfl⟩ ⟨Nat.zero_le _, Nat.zero_le _⟩ (fun r93 I93 J93 h93 => ?_)
                    obtain ⟨h93, e1_, e2_⟩ := h93
                    have e1_ := e1_.symm
                    have e2_ := e2_.symm
                    subst e1_
                    subst e2_
                    subst h93
                    refine r_zald C _ (dk oX10_turns 54 rfl) rfl (km hn rfl) rfl soD_lt (by decide) ?_
                    rw [hH19 _ soD_lt]
                    refine r_icmp_eq (tgt := 107) C (dk oX10_turns 55 rfl) (by decide) (fun hb97 => ?_) (fun hb97 => ?_)
                    · rw [b32_inj] at hb97
                      refine r_iinc (lo' := [(5, _), (0, _), (1, _), (2, _), (3, _), (4, _)]) C 5 (dk oX10_turns 62 rfl) rfl (by first | exact nI_inc _ | rfl) (by decide) rfl ?_
                      refine r_goto (tgt := 43) C (dk oX10_turns 63 rfl) (by decide) ?_
                      refine V.sub [1, 2, 3, 4, 5, 0] rfl ?_
                      have hih := ih (f_ + 1) (by omega) (by omega)
                      first
                        | (have hk65 : (opN (sPhi τ)).testBit f_ = false := hb65
                           have e : bS (fun g => (opN (sPhi τ)).testBit g && anyB (ptB ((sCl τ).2.2 c_) (sPhi τ) g) (if g < f_ + 1 then s_ + 1 else s_)) 12 = bS (fun g => (opN (sPhi τ)).testBit g && anyB (ptB ((sCl τ).2.2 c_) (sPhi τ) g) (if g < f_ then s_ + 1 else s_)) 12 := bS_cong 12 (fun g hg => by
                             by_cases e : g = f_
                             · subst e
                               rw [hk65]; rfl
                             · by_cases e2 : g < f_
                               · rw [if_pos e2, if_pos (by omega)]
                               · rw [if_neg e2, if_neg (by omega)])
                           rw [e] at hih
                           exact hih)
                        | (have hk97 : evC ((sCl τ).2.2 c_) (soD (sPhi τ) s_ 0) = evC ((sCl τ).2.2 c_) (soD (sPhi τ) (s_ ^^^ 2 ^ f_) 0) := hb97
                           have e : bS (fun g => (opN (sPhi τ)).testBit g && anyB (ptB ((sCl τ).2.2 c_) (sPhi τ) g) (if g < f_ + 1 then s_ + 1 else s_)) 12 = bS (fun g => (opN (sPhi τ)).testBit g && anyB (ptB ((sCl τ).2.2 c_) (sPhi τ) g) (if g < f_ then s_ + 1 else s_)) 12 := bS_cong 12 (fun g hg => by
                             by_cases e : g = f_
                             · subst e
                               rw [if_pos (by omega), if_neg (by omega), any_skip (P := ptB ((sCl τ).2.2 c_) (sPhi τ) g) (by unfold ptB; rw [hk97, bne_self_eq_false, Bool.and_false])]
                             · by_cases e2 : g < f_
                               · rw [if_pos e2, if_pos (by omega)]
                               · rw [if_neg e2, if_neg (by omega)])
                           rw [e] at hih
                           exact hih)
                        | (have e : bS (fun g => (opN (sPhi τ)).testBit g && anyB (ptB ((sCl τ).2.2 c_) (sPhi τ) g) (if g < f_ + 1 then s_ + 1 else s_)) 12 = bS (fun g => (opN (sPhi τ)).testBit g && anyB (ptB ((sCl τ).2.2 c_) (sPhi τ) g) (if g < f_ then s_ + 1 else s_)) 12 ||| 2 ^ f_ := by
                             rw [bS_set 12 (by omega)]
                             refine bS_cong 12 (fun g hg => ?_)
                             by_cases e : g = f_
                             · subst e
                               rw [if_pos rfl, if_pos (by omega), hb65]
                               show (true && (anyB (ptB ((sCl τ).2.2 c_) (sPhi τ) g) s_ || ptB ((sCl τ).2.2 c_) (sPhi τ) g s_)) = true
                               rw [show ptB ((sCl τ).2.2 c_) (sPhi τ) g s_ = true from by unfold ptB; rw [hsub, bne_iff_ne.mpr hb97]; rfl, Bool.or_true]; rfl
                             · rw [if_neg e]
                               by_cases e2 : g < f_
                               · rw [if_pos e2, if_pos (by omega)]
                               · rw [if_neg e2, if_neg (by omega)]
                           rw [e] at hih
                           exact hih)
                    · rw [b32_inj] at hb97
                      refine r_iload_n C 3 (dk oX10_turns 56 rfl) rfl ?_
                      refine r_iconst C (dk oX10_turns 57 rfl) (v := nI 1) (by decide) ?_
                      refine r_iload C 5 (dk oX10_turns 58 rfl) rfl ?_
                      refine r_ishl C (dk oX10_turns 59 rfl) ?_
                      refine r_ior C (dk oX10_turns 60 rfl) ?_
                      rw [or_bit (by omega)]
                      refine r_istore_n (lo' := [(3, _), (0, _), (1, _), (2, _), (4, _), (5, _)]) C (dk oX10_turns 61 rfl) rfl (by decide) rfl ?_
                      refine r_iinc (lo' := [(5, _), (3, _), (0, _), (1, _), (2, _), (4, _)]) C 5 (dk oX10_turns 62 rfl) rfl (by first | exact nI_inc _ | rfl) (by decide) rfl ?_
                      refine r_goto (tgt := 43) C (dk oX10_turns 63 rfl) (by decide) ?_
                      refine V.sub [2, 3, 4, 1, 5, 0] rfl ?_
                      have hih := ih (f_ + 1) (by omega) (by omega)
                      first
                        | (have hk65 : (opN (sPhi τ)).testBit f_ = false := hb65
                           have e : bS (fun g => (opN (sPhi τ)).testBit g && anyB (ptB ((sCl τ).2.2 c_) (sPhi τ) g) (if g < f_ + 1 then s_ + 1 else s_)) 12 = bS (fun g => (opN (sPhi τ)).testBit g && anyB (ptB ((sCl τ).2.2 c_) (sPhi τ) g) (if g < f_ then s_ + 1 else s_)) 12 := bS_cong 12 (fun g hg => by
                             by_cases e : g = f_
                             · subst e
                               rw [hk65]; rfl
                             · by_cases e2 : g < f_
                               · rw [if_pos e2, if_pos (by omega)]
                               · rw [if_neg e2, if_neg (by omega)])
                           rw [e] at hih
                           exact hih)
                        | (have hk97 : evC ((sCl τ).2.2 c_) (soD (sPhi τ) s_ 0) = evC ((sCl τ).2.2 c_) (soD (sPhi τ) (s_ ^^^ 2 ^ f_) 0) := hb97
                           have e : bS (fun g => (opN (sPhi τ)).testBit g && anyB (ptB ((sCl τ).2.2 c_) (sPhi τ) g) (if g < f_ + 1 then s_ + 1 else s_)) 12 = bS (fun g => (opN (sPhi τ)).testBit g && anyB (ptB ((sCl τ).2.2 c_) (sPhi τ) g) (if g < f_ then s_ + 1 else s_)) 12 := bS_cong 12 (fun g hg => by
                             by_cases e : g = f_
                             · subst e
                               rw [if_pos (by omega), if_neg (by omega), any_skip (P := ptB ((sCl τ).2.2 c_) (sPhi τ) g) (by unfold ptB; rw [hk97, bne_self_eq_false, Bool.and_false])]
                             · by_cases e2 : g < f_
                               · rw [if_pos e2, if_pos (by omega)]
                               · rw [if_neg e2, if_neg (by omega)])
                           rw [e] at hih
                           exact hih)
                        | (have e : bS (fun g => (opN (sPhi τ)).testBit g && anyB (ptB ((sCl τ).2.2 c_) (sPhi τ) g) (if g < f_ + 1 then s_ + 1 else s_)) 12 = bS (fun g => (opN (sPhi τ)).testBit g && anyB (ptB ((sCl τ).2.2 c_) (sPhi τ) g) (if g < f_ then s_ + 1 else s_)) 12 ||| 2 ^ f_ := by
                             rw [bS_set 12 (by omega)]
                             refine bS_cong 12 (fun g hg => ?_)
                             by_cases e : g = f_
                             · subst e
                               rw [if_pos rfl, if_pos (by omega), hb65]
                               show (true && (anyB (ptB ((sCl τ).2.2 c_) (sPhi τ) g) s_ || ptB ((sCl τ).2.2 c_) (sPhi τ) g s_)) = true
                               rw [show ptB ((sCl τ).2.2 c_) (sPhi τ) g s_ = true from by unfold ptB; rw [hsub, bne_iff_ne.mpr hb97]; rfl, Bool.or_true]; rfl
                             · rw [if_neg e]
                               by_cases e2 : g < f_
                               · rw [if_pos e2, if_pos (by omega)]
                               · rw [if_neg e2, if_neg (by omega)]
                           rw [e] at hih
                           exact hih)
          refine V.sub [1, 2, 3, 4, 5, 0] rfl ?_
          have h0 := L43 13 0 (by omega) (Nat.zero_le _)
          rw [show bS (fun g => (opN (sPhi τ)).testBit g && anyB (ptB ((sCl τ).2.2 c_) (sPhi τ) g) (if g < 0 then s_ + 1 else s_)) 12 = bS (fun g => (opN (sPhi τ)).testBit g && anyB (ptB ((sCl τ).2.2 c_) (sPhi τ) g) s_) 12 from bS_cong 12 (fun g hg => by rw [if_neg (Nat.not_lt_zero _)])] at h0
          exact h0
    refine V.sub [3, 4, 2, 1, 0] rfl ?_
    have h0 := L32 4097 0 (by omega) (Nat.zero_le _)
    rw [show bS (fun g => (opN (sPhi τ)).testBit g && anyB (ptB ((sCl τ).2.2 c_) (sPhi τ) g) 0) 12 = 0 from by
      apply Nat.eq_of_testBit_eq
      intro i
      rw [bS_bit, Nat.zero_testBit]
      show (decide (i < 12) && ((opN (sPhi τ)).testBit i && false)) = false
      rw [Bool.and_false, Bool.and_false]] at h0
    exact h0
  · rw [b32_0, decide_eq_false_iff_not] at hb5
    refine r_ldcw C (dk oX10_turns 4 rfl) kn_X10_264 ?_
    refine hret (dk oX10_turns 5 rfl) rfl ?_
    refine ⟨?_, hMM, fun _ _ => rfl, rfl⟩
    exact (if_neg hb5).symm

set_option maxHeartbeats 1000000 in
set_option maxRecDepth 100000 in
theorem c_X10_enough (hn : 148 ≤ n) (I : MI) (J : MJ) (τ : St) (hMM : MM I τ) (x : Int32) : Ci l n ad cA D z 5 yX10_enough cX10_enough 5 .int I J [.ref (ad 117), .int x] (fun r I' J' => r = q_enough τ x ∧ MM I' τ ∧ (∀ k, k < 117 → I' k = I k) ∧ J' = J) := by
  refine Ci.of (by decide) (Nat.le_of_ble_eq_true rfl) ?_
  intro p e s m args below meth c A C hin Z Q hret
  have hC0 := hMM.c0
  have hK0 := hMM.k0
  have hP0 := hMM.pap.zz
  have hok := hMM.ok
  have hnc : (sCl τ).1 ≤ 6 := hC0.1
  have hnp : (sPp τ).1 ≤ 10 := hP0.1
  have hnk : (sPk τ).1 ≤ 16 := hK0.1
  have hMT := hMM.2.2.2.1
  have hL := hMT.1
  have hop := @opN_lt (sPhi τ)
  have hB : brQ (sPk τ) < 65536 := brN_16 hnk
  have hpco := pc_le (opN (sPhi τ))
  refine r_aload_n C 0 (dk oX10_enough 0 rfl) rfl ?_
  refine r_iload_n C 1 (dk oX10_enough 1 rfl) rfl ?_
  refine r_ivi C Z (dk oX10_enough 2 rfl) cl_X10_284 ci_X10_isClaim rfl (km hn rfl) (c_X10_isClaim hn I J (sCl τ).1 (by omega) hC0.2.1 x) rfl rfl (Nat.le_of_ble_eq_true rfl) ⟨Nat.le_of_ble_eq_true rfl, Nat.le_of_ble_eq_true rfl⟩ ⟨Nat.zero_le _, Nat.zero_le _⟩ (fun r2 I2 J2 h2 => ?_)
  obtain ⟨h2, e1_, e2_⟩ := h2
  have e1_ := e1_.symm
  have e2_ := e2_.symm
  subst e1_
  subst e2_
  subst h2
  refine r_if_ne (tgt := 12) C (dk oX10_enough 3 rfl) (by decide) (fun hb5 => ?_) (fun hb5 => ?_)
  · rw [b32_n, decide_eq_true_eq] at hb5
    obtain ⟨c_, h_c_, hx_c_⟩ := vd_of (by omega) hb5
    subst hx_c_
    refine r_aload_n C 0 (dk oX10_enough 6 rfl) rfl ?_
    refine r_iconst C (dk oX10_enough 7 rfl) (v := -1) (by decide) ?_
    refine r_ivv C Z (dk oX10_enough 8 rfl) cl_X10_247 ci_X10_hearAll rfl (km hn rfl) (c_X10_hear1 hn I J τ hMM) rfl rfl (Nat.le_of_ble_eq_true rfl) ⟨Nat.le_of_ble_eq_true rfl, Nat.le_of_ble_eq_true rfl⟩ ⟨Nat.zero_le _, Nat.zero_le _⟩ (fun I14 J14 h14 => ?_)
    obtain ⟨hM14, hSil14, hO14, e2_⟩ := h14
    have e2_ := e2_.symm
    subst e2_
    have hR14 := hO14.r
    have hF14 : ∀ k, k < 117 → I14 k = I k := fun k hk => hO14 k (by omega)
    refine r_aload_n C 0 (dk oX10_enough 9 rfl) rfl ?_
    refine r_ivi C Z (dk oX10_enough 10 rfl) cl_X10_278 ci_X10_openFacts rfl (km hn rfl) (c_X10_openFacts hn I14 J (sPhi τ) hM14 hok) rfl rfl (Nat.le_of_ble_eq_true rfl) ⟨Nat.le_of_ble_eq_true rfl, Nat.le_of_ble_eq_true rfl⟩ ⟨Nat.zero_le _, Nat.zero_le _⟩ (fun r18 I18 J18 h18 => ?_)
    obtain ⟨h18, e1_, e2_⟩ := h18
    have e1_ := e1_.symm
    have e2_ := e2_.symm
    subst e1_
    subst e2_
    subst h18
    refine r_istore_n (lo' := [(2, _), (0, _), (1, _)]) C (dk oX10_enough 11 rfl) rfl (by decide) rfl ?_
    refine r_iload_n C 0 (dk oX10_enough 12 rfl) rfl ?_
    refine r_isi C Z (dk oX10_enough 13 rfl) cl_X10_296 st_X10_ones (c_X10_ones I14 J (opN (sPhi τ)) (by omega)) rfl rfl (Nat.le_of_ble_eq_true rfl) ⟨Nat.le_of_ble_eq_true rfl, Nat.le_of_ble_eq_true rfl⟩ ⟨Nat.zero_le _, Nat.zero_le _⟩ (fun r23 I23 J23 h23 => ?_)
    obtain ⟨h23, e1_, e2_⟩ := h23
    have e1_ := e1_.symm
    have e2_ := e2_.symm
    subst e1_
    subst e2_
    subst h23
    refine r_bipush C (dk oX10_enough 14 rfl) (v := nI 8) (by decide) ?_
    refine r_icmp_le (tgt := 34) C (dk oX10_enough 15 rfl) (by decide) (fun hb28 => ?_) (fun hb28 => ?_)
    · simp (disch := omega) only [nI_leI, nI_ltI, nI_eq, nI_eq0] at hb28
      refine r_aload_n C 1 (dk oX10_enough 18 rfl) rfl ?_
      refine r_iload_n C 2 (dk oX10_enough 19 rfl) rfl ?_
      refine r_ivv C Z (dk oX10_enough 20 rfl) cl_X10_290 ci_X10_findCases rfl (km hn rfl) (c_X10_findCases hn I14 J c_ ((sCl τ).2.2 c_) (by omega) ((hC0.2.2 c_ h_c_).2.2.sl hR14)) rfl rfl (Nat.le_of_ble_eq_true rfl) ⟨Nat.le_of_ble_eq_true rfl, Nat.le_of_ble_eq_true rfl⟩ ⟨Nat.zero_le _, Nat.zero_le _⟩ (fun I36 J36 h36 => ?_)
      obtain ⟨hH36, hOa36, hOb36, e2_⟩ := h36
      have e2_ := e2_.symm
      subst e2_
      have hMf : FcM I36 134 (sPhi τ) := hM14.of (fun c a b => hOa36 c (by omega) (by omega))
      have hRf := hR14.tr (fc_r hOa36 hOb36)
      have hFf : ∀ k, k < 117 → I36 k = I k := fun k hk => by rw [hOa36 k (by omega) (by omega)]; exact hF14 k hk
      refine r_iconst C (dk oX10_enough 21 rfl) (v := nI 0) (by decide) ?_
      refine r_istore_n (lo' := [(3, _), (2, _), (0, _), (1, _)]) C (dk oX10_enough 22 rfl) rfl (by decide) rfl ?_
      have L41 : ∀ (d_ : Nat) (n_ : Nat), 9 - n_ < d_ → n_ ≤ 9 → (∀ S, sub S (opN (sPhi τ)) = true → (enM ((sCl τ).2.2 c_) (sPhi τ) S) = true → n_ ≤ pc S) → V p l e (rmL 5) s m args below meth c Q D A 5 0 0 n ad (mE cA ad I36 J) 41 [(0, .ref (ad 117)), (1, .int (nI c_)), (2, .int (nI (opN (sPhi τ)))), (3, .int (nI n_))] [] := by
        intro d_
        induction d_ with
        | zero => intros; exact absurd (by assumption) (Nat.not_lt_zero _)
        | succ d_ ih => 
          intro n_ hd_ hn9 hmin
          refine r_iload_n C 3 (dk oX10_enough 23 rfl) rfl ?_
          refine r_bipush C (dk oX10_enough 24 rfl) (v := nI 8) (by decide) ?_
          refine r_icmp_gt (tgt := 101) C (dk oX10_enough 25 rfl) (by decide) (fun hb44 => ?_) (fun hb44 => ?_)
          · simp (disch := omega) only [nI_leI, nI_ltI, nI_eq, nI_eq0] at hb44
            refine r_iconst C (dk oX10_enough 52 rfl) (v := -1) (by decide) ?_
            refine hret (dk oX10_enough 53 rfl) rfl ?_
            refine ⟨?_, hMM.r hRf, hFf, rfl⟩
            unfold q_enough
            have hn9e : n_ = 9 := by omega
            rw [hn9e] at hmin
            rw [if_pos (vd_n h_c_ (by omega)), cN_n (by omega), if_neg (by omega), en_no hok hmin (by omega)]
            rfl
          · simp (disch := omega) only [nI_leI, nI_ltI, nI_eq, nI_eq0] at hb44
            have ihO := ih
            refine r_iconst C (dk oX10_enough 26 rfl) (v := nI 0) (by decide) ?_
            refine r_istore (lo' := [(4, _), (0, _), (1, _), (2, _), (3, _)]) C (dk oX10_enough 27 rfl) (by decide) rfl ?_
            have L50 : ∀ (d_ : Nat) (s_ : Nat), 4096 - s_ < d_ → s_ ≤ 4096 → (∀ S, S < s_ → pc S = n_ → sub S (opN (sPhi τ)) = true → (enM ((sCl τ).2.2 c_) (sPhi τ) S) = false) → V p l e (rmL 5) s m args below meth c Q D A 5 0 0 n ad (mE cA ad I36 J) 50 [(0, .ref (ad 117)), (1, .int (nI c_)), (2, .int (nI (opN (sPhi τ)))), (3, .int (nI n_)), (4, .int (nI s_))] [] := by
              intro d_
              induction d_ with
              | zero => intros; exact absurd (by assumption) (Nat.not_lt_zero _)
              | succ d_ ih => 
                intro s_ hd2 hs4 hlow
                refine r_iload C 4 (dk oX10_enough 28 rfl) rfl ?_
                refine r_sipush C (dk oX10_enough 29 rfl) (v := nI 4096) (by decide) ?_
                refine r_icmp_ge (tgt := 95) C (dk oX10_enough 30 rfl) (by decide) (fun hb55 => ?_) (fun hb55 => ?_)
                · simp (disch := omega) only [nI_leI, nI_ltI, nI_eq, nI_eq0] at hb55
                  refine r_iinc (lo' := [(3, _), (0, _), (1, _), (2, _), (4, _)]) C 3 (dk oX10_enough 50 rfl) rfl (by first | exact nI_inc _ | rfl) (by decide) rfl ?_
                  refine r_goto (tgt := 41) C (dk oX10_enough 51 rfl) (by decide) ?_
                  refine V.sub [1, 2, 3, 0] rfl ?_
                  exact ihO (n_ + 1) (by omega) (by omega) (min_s hop hmin (fun S h1 h2 h3 => by rw [hlow S (by omega) h2 h3]; decide))
                · simp (disch := omega) only [nI_leI, nI_ltI, nI_eq, nI_eq0] at hb55
                  refine r_iload C 4 (dk oX10_enough 31 rfl) rfl ?_
                  refine r_isi C Z (dk oX10_enough 32 rfl) cl_X10_296 st_X10_ones (c_X10_ones I36 J s_ (by omega)) rfl rfl (Nat.le_of_ble_eq_true rfl) ⟨Nat.le_of_ble_eq_true rfl, Nat.le_of_ble_eq_true rfl⟩ ⟨Nat.zero_le _, Nat.zero_le _⟩ (fun r60 I60 J60 h60 => ?_)
                  obtain ⟨h60, e1_, e2_⟩ := h60
                  have e1_ := e1_.symm
                  have e2_ := e2_.symm
                  subst e1_
                  subst e2_
                  subst h60
                  have hpcs := pc_le s_
                  refine r_iload_n C 3 (dk oX10_enough 33 rfl) rfl ?_
                  refine r_icmp_ne (tgt := 89) C (dk oX10_enough 34 rfl) (by decide) (fun hb64 => ?_) (fun hb64 => ?_)
                  · have hpcs := pc_le s_
                    simp (disch := omega) only [nI_leI, nI_ltI, nI_eq, nI_eq0] at hb64
                    refine r_iinc (lo' := [(4, _), (0, _), (1, _), (2, _), (3, _)]) C 4 (dk oX10_enough 48 rfl) rfl (by first | exact nI_inc _ | rfl) (by decide) rfl ?_
                    refine r_goto (tgt := 50) C (dk oX10_enough 49 rfl) (by decide) ?_
                    refine V.sub [1, 2, 3, 4, 0] rfl ?_
                    first
                      | exact ih (s_ + 1) (by omega) (by omega) (low_s (Q := fun S => sub S (opN (sPhi τ)) = true) hlow (fun h2 _ => absurd h2 hb64))
                      | exact ih (s_ + 1) (by omega) (by omega) (low_s (Q := fun S => sub S (opN (sPhi τ)) = true) hlow (fun _ _ => hb83))
                      | exact ih (s_ + 1) (by omega) (by omega) (low_s (Q := fun S => sub S (opN (sPhi τ)) = true) hlow (fun _ h3 => absurd (h3.symm.trans hsub) Bool.noConfusion))
                  · have hpcs := pc_le s_
                    simp (disch := omega) only [nI_leI, nI_ltI, nI_eq, nI_eq0] at hb64
                    refine r_iload C 4 (dk oX10_enough 35 rfl) rfl ?_
                    refine r_iload_n C 2 (dk oX10_enough 36 rfl) rfl ?_
                    refine r_iconst C (dk oX10_enough 37 rfl) (v := -1) (by decide) ?_
                    refine r_ixor C (dk oX10_enough 38 rfl) ?_
                    refine r_iand C (dk oX10_enough 39 rfl) ?_
                    rw [nI_not (by omega)]
                    have han : anN s_ (opN (sPhi τ)) < 4096 := anN_lt (k := 12) (by omega)
                    refine r_if_ne (tgt := 89) C (dk oX10_enough 40 rfl) (by decide) (fun hb73 => ?_) (fun hb73 => ?_)
                    · simp (disch := omega) only [nI_leI, nI_ltI, nI_eq, nI_eq0] at hb73
                      have hsub : sub s_ (opN (sPhi τ)) = false := by rw [sub_anN]; exact decide_eq_false hb73
                      refine r_iinc (lo' := [(4, _), (0, _), (1, _), (2, _), (3, _)]) C 4 (dk oX10_enough 48 rfl) rfl (by first | exact nI_inc _ | rfl) (by decide) rfl ?_
                      refine r_goto (tgt := 50) C (dk oX10_enough 49 rfl) (by decide) ?_
                      refine V.sub [1, 2, 3, 4, 0] rfl ?_
                      first
                        | exact ih (s_ + 1) (by omega) (by omega) (low_s (Q := fun S => sub S (opN (sPhi τ)) = true) hlow (fun h2 _ => absurd h2 hb64))
                        | exact ih (s_ + 1) (by omega) (by omega) (low_s (Q := fun S => sub S (opN (sPhi τ)) = true) hlow (fun _ _ => hb83))
                        | exact ih (s_ + 1) (by omega) (by omega) (low_s (Q := fun S => sub S (opN (sPhi τ)) = true) hlow (fun _ h3 => absurd (h3.symm.trans hsub) Bool.noConfusion))
                    · simp (disch := omega) only [nI_leI, nI_ltI, nI_eq, nI_eq0] at hb73
                      have hsub : sub s_ (opN (sPhi τ)) = true := by rw [sub_anN]; exact decide_eq_true hb73
                      refine r_aload_n C 0 (dk oX10_enough 41 rfl) rfl ?_
                      refine r_iload C 4 (dk oX10_enough 42 rfl) rfl ?_
                      refine r_iload_n C 2 (dk oX10_enough 43 rfl) rfl ?_
                      refine r_ivi C Z (dk oX10_enough 44 rfl) cl_X10_299 ci_X10_isEnough rfl (km hn rfl) (c_X10_isEnough hn I36 J (sPhi τ) hMf hok s_ (by omega) ((sCl τ).2.2 c_) hH36) rfl rfl (Nat.le_of_ble_eq_true rfl) ⟨Nat.le_of_ble_eq_true rfl, Nat.le_of_ble_eq_true rfl⟩ ⟨Nat.zero_le _, Nat.zero_le _⟩ (fun r80 I80 J80 h80 => ?_)
                      obtain ⟨h80, e1_, e2_⟩ := h80
                      have e1_ := e1_.symm
                      have e2_ := e2_.symm
                      subst e1_
                      subst e2_
                      subst h80
                      refine r_if_eq (tgt := 89) C (dk oX10_enough 45 rfl) (by decide) (fun hb83 => ?_) (fun hb83 => ?_)
                      · rw [b32_0] at hb83
                        refine r_iinc (lo' := [(4, _), (0, _), (1, _), (2, _), (3, _)]) C 4 (dk oX10_enough 48 rfl) rfl (by first | exact nI_inc _ | rfl) (by decide) rfl ?_
                        refine r_goto (tgt := 50) C (dk oX10_enough 49 rfl) (by decide) ?_
                        refine V.sub [1, 2, 3, 4, 0] rfl ?_
                        first
                          | exact ih (s_ + 1) (by omega) (by omega) (low_s (Q := fun S => sub S (opN (sPhi τ)) = true) hlow (fun h2 _ => absurd h2 hb64))
                          | exact ih (s_ + 1) (by omega) (by omega) (low_s (Q := fun S => sub S (opN (sPhi τ)) = true) hlow (fun _ _ => hb83))
                          | exact ih (s_ + 1) (by omega) (by omega) (low_s (Q := fun S => sub S (opN (sPhi τ)) = true) hlow (fun _ h3 => absurd (h3.symm.trans hsub) Bool.noConfusion))
                      · rw [b32_n] at hb83
                        refine r_iload C 4 (dk oX10_enough 46 rfl) rfl ?_
                        refine hret (dk oX10_enough 47 rfl) rfl ?_
                        refine ⟨?_, hMM.r hRf, hFf, rfl⟩
                        unfold q_enough
                        rw [if_pos (vd_n h_c_ (by omega)), cN_n (by omega), if_neg (by omega), en_hit hok hsub hb64 hb83 hmin hlow]
                        rfl
            refine V.sub [1, 2, 3, 4, 0] rfl ?_
            exact L50 4097 0 (by omega) (Nat.zero_le _) (fun S h => absurd h (Nat.not_lt_zero _))
      refine V.sub [2, 3, 1, 0] rfl ?_
      exact L41 10 0 (by omega) (Nat.zero_le _) (fun S _ _ => Nat.zero_le _)
    · simp (disch := omega) only [nI_leI, nI_ltI, nI_eq, nI_eq0] at hb28
      refine r_ldc C (dk oX10_enough 16 rfl) kn_X10_221 ?_
      refine hret (dk oX10_enough 17 rfl) rfl ?_
      refine ⟨?_, hMM.r hR14, hF14, rfl⟩
      unfold q_enough
      rw [if_pos (vd_n h_c_ (by omega)), if_pos (by omega)]
  · rw [b32_0, decide_eq_false_iff_not] at hb5
    refine r_ldcw C (dk oX10_enough 4 rfl) kn_X10_264 ?_
    refine hret (dk oX10_enough 5 rfl) rfl ?_
    refine ⟨?_, hMM, fun _ _ => rfl, rfl⟩
    exact (if_neg hb5).symm

set_option maxHeartbeats 1000000 in
set_option maxRecDepth 100000 in
theorem c_X10_silence (hn : 148 ≤ n) (I : MI) (J : MJ) (τ : St) (hMM : MM I τ) (x y : Int32) : Ci l n ad cA D z 5 yX10_silence cX10_silence 7 .int I J [.ref (ad 117), .int x, .int y] (fun r I' J' => r = q_silence τ x y ∧ MM I' τ ∧ (∀ k, k < 117 → I' k = I k) ∧ J' = J) := by
  refine Ci.of (by decide) (Nat.le_of_ble_eq_true rfl) ?_
  intro p e s m args below meth c A C hin Z Q hret
  have hC0 := hMM.c0
  have hK0 := hMM.k0
  have hP0 := hMM.pap.zz
  have hok := hMM.ok
  have hnc : (sCl τ).1 ≤ 6 := hC0.1
  have hnp : (sPp τ).1 ≤ 10 := hP0.1
  have hnk : (sPk τ).1 ≤ 16 := hK0.1
  have hMT := hMM.2.2.2.1
  have hL := hMT.1
  have hop := @opN_lt (sPhi τ)
  have hB : brQ (sPk τ) < 65536 := brN_16 hnk
  refine r_aload_n C 0 (dk oX10_silence 0 rfl) rfl ?_
  refine r_iload_n C 1 (dk oX10_silence 1 rfl) rfl ?_
  refine r_ivi C Z (dk oX10_silence 2 rfl) cl_X10_284 ci_X10_isClaim rfl (km hn rfl) (c_X10_isClaim hn I J (sCl τ).1 (by omega) hC0.2.1 x) rfl rfl (Nat.le_of_ble_eq_true rfl) ⟨Nat.le_of_ble_eq_true rfl, Nat.le_of_ble_eq_true rfl⟩ ⟨Nat.zero_le _, Nat.zero_le _⟩ (fun r2 I2 J2 h2 => ?_)
  obtain ⟨h2, e1_, e2_⟩ := h2
  have e1_ := e1_.symm
  have e2_ := e2_.symm
  subst e1_
  subst e2_
  subst h2
  refine r_if_eq (tgt := 15) C (dk oX10_silence 3 rfl) (by decide) (fun hb5 => ?_) (fun hb5 => ?_)
  · rw [b32_0, decide_eq_false_iff_not] at hb5
    refine r_ldcw C (dk oX10_silence 7 rfl) kn_X10_264 ?_
    refine hret (dk oX10_silence 8 rfl) rfl ?_
    first
      | (refine ⟨?_, hMM, fun _ _ => rfl, rfl⟩; exact (if_neg (fun q => hb5 q.1)).symm)
      | (refine ⟨?_, hMM, fun _ _ => rfl, rfl⟩; exact (if_neg (fun q => hb12 q.2)).symm)
  · rw [b32_n, decide_eq_true_eq] at hb5
    obtain ⟨c_, h_c_, hx_c_⟩ := vd_of (by omega) hb5
    subst hx_c_
    refine r_iload_n C 2 (dk oX10_silence 4 rfl) rfl ?_
    refine r_isi C Z (dk oX10_silence 5 rfl) cl_X10_302 st_X10_isSide (c_X10_isSide I J y) rfl rfl (Nat.le_of_ble_eq_true rfl) ⟨Nat.le_of_ble_eq_true rfl, Nat.le_of_ble_eq_true rfl⟩ ⟨Nat.zero_le _, Nat.zero_le _⟩ (fun r9 I9 J9 h9 => ?_)
    obtain ⟨h9, e1_, e2_⟩ := h9
    have e1_ := e1_.symm
    have e2_ := e2_.symm
    subst e1_
    subst e2_
    subst h9
    refine r_if_ne (tgt := 19) C (dk oX10_silence 6 rfl) (by decide) (fun hb12 => ?_) (fun hb12 => ?_)
    · rw [b32_n, decide_eq_true_eq] at hb12
      obtain ⟨t_, h_t_, hx_t_⟩ := vd_of (by decide) hb12
      subst hx_t_
      refine r_aload_n C 0 (dk oX10_silence 9 rfl) rfl ?_
      refine r_iconst C (dk oX10_silence 10 rfl) (v := -1) (by decide) ?_
      refine r_ivv C Z (dk oX10_silence 11 rfl) cl_X10_247 ci_X10_hearAll rfl (km hn rfl) (c_X10_hear1 hn I J τ hMM) rfl rfl (Nat.le_of_ble_eq_true rfl) ⟨Nat.le_of_ble_eq_true rfl, Nat.le_of_ble_eq_true rfl⟩ ⟨Nat.zero_le _, Nat.zero_le _⟩ (fun I21 J21 h21 => ?_)
      obtain ⟨hM21, hSil21, hO21, e2_⟩ := h21
      have e2_ := e2_.symm
      subst e2_
      have hR21 := hO21.r
      have hF21 : ∀ k, k < 117 → I21 k = I k := fun k hk => hO21 k (by omega)
      refine r_aload_n C 0 (dk oX10_silence 12 rfl) rfl ?_
      refine r_iload_n C 1 (dk oX10_silence 13 rfl) rfl ?_
      refine r_ivv C Z (dk oX10_silence 14 rfl) cl_X10_290 ci_X10_findCases rfl (km hn rfl) (c_X10_findCases hn I21 J c_ ((sCl τ).2.2 c_) (by omega) ((hC0.2.2 c_ h_c_).2.2.sl hR21)) rfl rfl (Nat.le_of_ble_eq_true rfl) ⟨Nat.le_of_ble_eq_true rfl, Nat.le_of_ble_eq_true rfl⟩ ⟨Nat.zero_le _, Nat.zero_le _⟩ (fun I26 J26 h26 => ?_)
      obtain ⟨hH26, hOa26, hOb26, e2_⟩ := h26
      have e2_ := e2_.symm
      subst e2_
      have hMf : FcM I26 134 (sPhi τ) := hM21.of (fun c a b => hOa26 c (by omega) (by omega))
      have hRf := hR21.tr (fc_r hOa26 hOb26)
      have hFf : ∀ k, k < 117 → I26 k = I k := fun k hk => by rw [hOa26 k (by omega) (by omega)]; exact hF21 k hk
      refine r_aload_n C 0 (dk oX10_silence 15 rfl) rfl ?_
      refine r_iconst C (dk oX10_silence 16 rfl) (v := nI 0) (by decide) ?_
      refine r_ivi C Z (dk oX10_silence 17 rfl) cl_X10_293 ci_X10_sureBy rfl (km hn rfl) (c_X10_sureBy hn I26 J (sPhi τ) hMf hok 0 (by decide) ((sCl τ).2.2 c_) hH26) rfl rfl (Nat.le_of_ble_eq_true rfl) ⟨Nat.le_of_ble_eq_true rfl, Nat.le_of_ble_eq_true rfl⟩ ⟨Nat.zero_le _, Nat.zero_le _⟩ (fun r31 I31 J31 h31 => ?_)
      obtain ⟨h31, e1_, e2_⟩ := h31
      have e1_ := e1_.symm
      have e2_ := e2_.symm
      subst e1_
      subst e2_
      subst h31
      rw [suD_0 hok]
      refine r_istore_n (lo' := [(3, _), (0, _), (1, _), (2, _)]) C (dk oX10_silence 18 rfl) rfl (by decide) rfl ?_
      refine r_iload_n C 0 (dk oX10_silence 19 rfl) rfl ?_
      refine r_if_ge (tgt := 42) C (dk oX10_silence 20 rfl) (by decide) (fun hb36 => ?_) (fun hb36 => ?_)
      · have hsu : ¬ (surF ((sCl τ).2.2 c_) (sPhi τ)) = -1 := fun q => absurd (surF_lt.mpr q) (Int32.not_lt.mpr hb36)
        refine r_iconst C (dk oX10_silence 23 rfl) (v := nI 0) (by decide) ?_
        refine r_istore (lo' := [(4, _), (3, _), (0, _), (1, _), (2, _)]) C (dk oX10_silence 24 rfl) (by decide) rfl ?_
        refine r_iconst C (dk oX10_silence 25 rfl) (v := nI 0) (by decide) ?_
        refine r_istore (lo' := [(5, _), (4, _), (3, _), (0, _), (1, _), (2, _)]) C (dk oX10_silence 26 rfl) (by decide) rfl ?_
        have L48 : ∀ (d_ : Nat) (f_ : Nat), 12 - f_ < d_ → f_ ≤ 12 → V p l e (rmL 5) s m args below meth c Q D A 7 0 0 n ad (mE cA ad I26 J) 48 [(0, .ref (ad 117)), (1, .int (nI c_)), (2, .int (nI t_)), (3, .int (surF ((sCl τ).2.2 c_) (sPhi τ))), (4, .int (nI (bS (fun f => decide (sPhi τ f 0 = nI 2 ∧ ¬ sPhi τ f 2 = nI t_)) f_))), (5, .int (nI f_))] [] := by
          intro d_
          induction d_ with
          | zero => intros; exact absurd (by assumption) (Nat.not_lt_zero _)
          | succ d_ ih => 
            intro f_ hd0 hf
            refine r_iload C 5 (dk oX10_silence 27 rfl) rfl ?_
            refine r_bipush C (dk oX10_silence 28 rfl) (v := nI 12) (by decide) ?_
            refine r_icmp_ge (tgt := 99) C (dk oX10_silence 29 rfl) (by decide) (fun hb52 => ?_) (fun hb52 => ?_)
            · simp (disch := omega) only [nI_leI, nI_ltI, nI_eq, nI_eq0] at hb52
              have hadm : bS (fun f => decide (sPhi τ f 0 = nI 2 ∧ ¬ sPhi τ f 2 = nI t_)) f_ = (admN (sPhi τ) t_) := by rw [show f_ = 12 by omega]; exact adm_eq hok h_t_
              rw [hadm]
              have hal : (admN (sPhi τ) t_) < 4096 := bS_lt 12
              refine r_iconst C (dk oX10_silence 53 rfl) (v := nI 1) (by decide) ?_
              skip
              refine r_istore (lo' := [(5, _), (0, _), (1, _), (2, _), (3, _), (4, _)]) C (dk oX10_silence 54 rfl) (by decide) rfl ?_
              have L102 : ∀ (d_ : Nat) (n_ : Nat), 13 - n_ < d_ → n_ ≤ 13 → (∀ S, sub S (admN (sPhi τ) t_) = true → suD ((sCl τ).2.2 c_) (sPhi τ) S ≠ (surF ((sCl τ).2.2 c_) (sPhi τ)) → n_ ≤ pc S) → V p l e (rmL 5) s m args below meth c Q D A 7 0 0 n ad (mE cA ad I26 J) 102 [(0, .ref (ad 117)), (1, .int (nI c_)), (2, .int (nI t_)), (3, .int (surF ((sCl τ).2.2 c_) (sPhi τ))), (4, .int (nI (admN (sPhi τ) t_))), (5, .int (nI n_))] [] := by
                intro d_
                induction d_ with
                | zero => intros; exact absurd (by assumption) (Nat.not_lt_zero _)
                | succ d_ ih => 
                  intro n_ hd_ hn9 hmin
                  refine r_iload C 5 (dk oX10_silence 55 rfl) rfl ?_
                  refine r_bipush C (dk oX10_silence 56 rfl) (v := nI 12) (by decide) ?_
                  refine r_icmp_gt (tgt := 165) C (dk oX10_silence 57 rfl) (by decide) (fun hb106 => ?_) (fun hb106 => ?_)
                  · simp (disch := omega) only [nI_leI, nI_ltI, nI_eq, nI_eq0] at hb106
                    refine r_iconst C (dk oX10_silence 84 rfl) (v := -1) (by decide) ?_
                    refine hret (dk oX10_silence 85 rfl) rfl ?_
                    refine ⟨?_, hMM.r hRf, hFf, rfl⟩
                    unfold q_silence
                    have hn9e : n_ = 13 := by omega
                    rw [hn9e] at hmin
                    rw [if_pos ⟨vd_n h_c_ (by omega), vd_n h_t_ (by omega)⟩, cN_n (by omega), cN_n (by omega), if_neg hsu, sil_no hok hsu hmin]
                    rfl
                  · simp (disch := omega) only [nI_leI, nI_ltI, nI_eq, nI_eq0] at hb106
                    have ihO := ih
                    refine r_iconst C (dk oX10_silence 58 rfl) (v := nI 0) (by decide) ?_
                    refine r_istore (lo' := [(6, _), (0, _), (1, _), (2, _), (3, _), (4, _), (5, _)]) C (dk oX10_silence 59 rfl) (by decide) rfl ?_
                    have L112 : ∀ (d_ : Nat) (s_ : Nat), 4096 - s_ < d_ → s_ ≤ 4096 → (∀ S, S < s_ → pc S = n_ → sub S (admN (sPhi τ) t_) = true → suD ((sCl τ).2.2 c_) (sPhi τ) S = (surF ((sCl τ).2.2 c_) (sPhi τ))) → V p l e (rmL 5) s m args below meth c Q D A 7 0 0 n ad (mE cA ad I26 J) 112 [(0, .ref (ad 117)), (1, .int (nI c_)), (2, .int (nI t_)), (3, .int (surF ((sCl τ).2.2 c_) (sPhi τ))), (4, .int (nI (admN (sPhi τ) t_))), (5, .int (nI n_)), (6, .int (nI s_))] [] := by
                      intro d_
                      induction d_ with
                      | zero => intros; exact absurd (by assumption) (Nat.not_lt_zero _)
                      | succ d_ ih => 
                        intro s_ hd2 hs4 hlow
                        refine r_iload C 6 (dk oX10_silence 60 rfl) rfl ?_
                        refine r_sipush C (dk oX10_silence 61 rfl) (v := nI 4096) (by decide) ?_
                        refine r_icmp_ge (tgt := 159) C (dk oX10_silence 62 rfl) (by decide) (fun hb117 => ?_) (fun hb117 => ?_)
                        · simp (disch := omega) only [nI_leI, nI_ltI, nI_eq, nI_eq0] at hb117
                          refine r_iinc (lo' := [(5, _), (0, _), (1, _), (2, _), (3, _), (4, _), (6, _)]) C 5 (dk oX10_silence 82 rfl) rfl (by first | exact nI_inc _ | rfl) (by decide) rfl ?_
                          refine r_goto (tgt := 102) C (dk oX10_silence 83 rfl) (by decide) ?_
                          refine V.sub [1, 2, 3, 4, 5, 0] rfl ?_
                          exact ihO (n_ + 1) (by omega) (by omega) (min_s hal hmin (fun S h1 h2 h3 => fun q => q (hlow S (by omega) h2 h3)))
                        · simp (disch := omega) only [nI_leI, nI_ltI, nI_eq, nI_eq0] at hb117
                          refine r_iload C 6 (dk oX10_silence 63 rfl) rfl ?_
                          refine r_isi C Z (dk oX10_silence 64 rfl) cl_X10_296 st_X10_ones (c_X10_ones I26 J s_ (by omega)) rfl rfl (Nat.le_of_ble_eq_true rfl) ⟨Nat.le_of_ble_eq_true rfl, Nat.le_of_ble_eq_true rfl⟩ ⟨Nat.zero_le _, Nat.zero_le _⟩ (fun r122 I122 J122 h122 => ?_)
                          obtain ⟨h122, e1_, e2_⟩ := h122
                          have e1_ := e1_.symm
                          have e2_ := e2_.symm
                          subst e1_
                          subst e2_
                          subst h122
                          have hpcs := pc_le s_
                          refine r_iload C 5 (dk oX10_silence 65 rfl) rfl ?_
                          refine r_icmp_ne (tgt := 153) C (dk oX10_silence 66 rfl) (by decide) (fun hb127 => ?_) (fun hb127 => ?_)
                          · have hpcs := pc_le s_
                            simp (disch := omega) only [nI_leI, nI_ltI, nI_eq, nI_eq0] at hb127
                            refine r_iinc (lo' := [(6, _), (0, _), (1, _), (2, _), (3, _), (4, _), (5, _)]) C 6 (dk oX10_silence 80 rfl) rfl (by first | exact nI_inc _ | rfl) (by decide) rfl ?_
                            refine r_goto (tgt := 112) C (dk oX10_silence 81 rfl) (by decide) ?_
                            refine V.sub [1, 2, 3, 4, 5, 6, 0] rfl ?_
                            first
                              | exact ih (s_ + 1) (by omega) (by omega) (low_s (Q := fun S => sub S (admN (sPhi τ) t_) = true) hlow (fun h2 _ => absurd h2 hb127))
                              | exact ih (s_ + 1) (by omega) (by omega) (low_s (Q := fun S => sub S (admN (sPhi τ) t_) = true) hlow (fun _ _ => hb147))
                              | exact ih (s_ + 1) (by omega) (by omega) (low_s (Q := fun S => sub S (admN (sPhi τ) t_) = true) hlow (fun _ h3 => absurd (h3.symm.trans hsub) Bool.noConfusion))
                          · have hpcs := pc_le s_
                            simp (disch := omega) only [nI_leI, nI_ltI, nI_eq, nI_eq0] at hb127
                            refine r_iload C 6 (dk oX10_silence 67 rfl) rfl ?_
                            refine r_iload C 4 (dk oX10_silence 68 rfl) rfl ?_
                            refine r_iconst C (dk oX10_silence 69 rfl) (v := -1) (by decide) ?_
                            refine r_ixor C (dk oX10_silence 70 rfl) ?_
                            refine r_iand C (dk oX10_silence 71 rfl) ?_
                            rw [nI_not (by omega)]
                            have han : anN s_ (admN (sPhi τ) t_) < 4096 := anN_lt (k := 12) (by omega)
                            refine r_if_ne (tgt := 153) C (dk oX10_silence 72 rfl) (by decide) (fun hb137 => ?_) (fun hb137 => ?_)
                            · simp (disch := omega) only [nI_leI, nI_ltI, nI_eq, nI_eq0] at hb137
                              have hsub : sub s_ (admN (sPhi τ) t_) = false := by rw [sub_anN]; exact decide_eq_false hb137
                              refine r_iinc (lo' := [(6, _), (0, _), (1, _), (2, _), (3, _), (4, _), (5, _)]) C 6 (dk oX10_silence 80 rfl) rfl (by first | exact nI_inc _ | rfl) (by decide) rfl ?_
                              refine r_goto (tgt := 112) C (dk oX10_silence 81 rfl) (by decide) ?_
                              refine V.sub [1, 2, 3, 4, 5, 6, 0] rfl ?_
                              first
                                | exact ih (s_ + 1) (by omega) (by omega) (low_s (Q := fun S => sub S (admN (sPhi τ) t_) = true) hlow (fun h2 _ => absurd h2 hb127))
                                | exact ih (s_ + 1) (by omega) (by omega) (low_s (Q := fun S => sub S (admN (sPhi τ) t_) = true) hlow (fun _ _ => hb147))
                                | exact ih (s_ + 1) (by omega) (by omega) (low_s (Q := fun S => sub S (admN (sPhi τ) t_) = true) hlow (fun _ h3 => absurd (h3.symm.trans hsub) Bool.noConfusion))
                            · simp (disch := omega) only [nI_leI, nI_ltI, nI_eq, nI_eq0] at hb137
                              have hsub : sub s_ (admN (sPhi τ) t_) = true := by rw [sub_anN]; exact decide_eq_true hb137
                              refine r_aload_n C 0 (dk oX10_silence 73 rfl) rfl ?_
                              refine r_iload C 6 (dk oX10_silence 74 rfl) rfl ?_
                              refine r_ivi C Z (dk oX10_silence 75 rfl) cl_X10_293 ci_X10_sureBy rfl (km hn rfl) (c_X10_sureBy hn I26 J (sPhi τ) hMf hok s_ (by omega) ((sCl τ).2.2 c_) hH26) rfl rfl (Nat.le_of_ble_eq_true rfl) ⟨Nat.le_of_ble_eq_true rfl, Nat.le_of_ble_eq_true rfl⟩ ⟨Nat.zero_le _, Nat.zero_le _⟩ (fun r143 I143 J143 h143 => ?_)
                              obtain ⟨h143, e1_, e2_⟩ := h143
                              have e1_ := e1_.symm
                              have e2_ := e2_.symm
                              subst e1_
                              subst e2_
                              subst h143
                              refine r_iload_n C 3 (dk oX10_silence 76 rfl) rfl ?_
                              refine r_icmp_eq (tgt := 153) C (dk oX10_silence 77 rfl) (by decide) (fun hb147 => ?_) (fun hb147 => ?_)
                              · refine r_iinc (lo' := [(6, _), (0, _), (1, _), (2, _), (3, _), (4, _), (5, _)]) C 6 (dk oX10_silence 80 rfl) rfl (by first | exact nI_inc _ | rfl) (by decide) rfl ?_
                                refine r_goto (tgt := 112) C (dk oX10_silence 81 rfl) (by decide) ?_
                                refine V.sub [1, 2, 3, 4, 5, 6, 0] rfl ?_
                                first
                                  | exact ih (s_ + 1) (by omega) (by omega) (low_s (Q := fun S => sub S (admN (sPhi τ) t_) = true) hlow (fun h2 _ => absurd h2 hb127))
                                  | exact ih (s_ + 1) (by omega) (by omega) (low_s (Q := fun S => sub S (admN (sPhi τ) t_) = true) hlow (fun _ _ => hb147))
                                  | exact ih (s_ + 1) (by omega) (by omega) (low_s (Q := fun S => sub S (admN (sPhi τ) t_) = true) hlow (fun _ h3 => absurd (h3.symm.trans hsub) Bool.noConfusion))
                              · refine r_iload C 6 (dk oX10_silence 78 rfl) rfl ?_
                                refine hret (dk oX10_silence 79 rfl) rfl ?_
                                refine ⟨?_, hMM.r hRf, hFf, rfl⟩
                                unfold q_silence
                                rw [if_pos ⟨vd_n h_c_ (by omega), vd_n h_t_ (by omega)⟩, cN_n (by omega), cN_n (by omega), if_neg hsu, sil_hit hok hsu hsub hb127 hb147 hmin hlow]
                                rfl
                    refine V.sub [1, 2, 3, 4, 5, 6, 0] rfl ?_
                    exact L112 4097 0 (by omega) (Nat.zero_le _) (fun S h => absurd h (Nat.not_lt_zero _))
              refine V.sub [1, 2, 3, 4, 5, 0] rfl ?_
              exact L102 14 1 (by omega) (by decide) (fun S h1 h2 => sil_1 hok h1 h2)
            · simp (disch := omega) only [nI_leI, nI_ltI, nI_eq, nI_eq0] at hb52
              refine r_iload C 4 (dk oX10_silence 30 rfl) rfl ?_
              refine r_aload_n C 0 (dk oX10_silence 31 rfl) rfl ?_
              refine r_getR C (dk oX10_silence 32 rfl) fl_X10_62 rfl (km hn rfl) ?_
              refine r_iload C 5 (dk oX10_silence 33 rfl) rfl ?_
              refine r_iald C _ (dk oX10_silence 34 rfl) rfl (km hn rfl) rfl (by omega) (by decide) ?_
              rw [show I26 135 f_ = sPhi τ f_ 0 from hMf f_ (by omega) 0 (by decide)]
              refine r_iconst C (dk oX10_silence 35 rfl) (v := nI 2) (by decide) ?_
              refine r_icmp_ne (tgt := 83) C (dk oX10_silence 36 rfl) (by decide) (fun hb65 => ?_) (fun hb65 => ?_)
              · refine r_iconst C (dk oX10_silence 45 rfl) (v := nI 0) (by decide) ?_
                refine r_topI (show nI 0 = b32 (decide (sPhi τ f_ 0 = nI 2 ∧ ¬ sPhi τ f_ 2 = nI t_)) from by
                  first
                    | exact b32_df (fun q => hb65 q.1)
                    | exact b32_df (fun q => q.2 hb76)) ?_
                refine r_isi C Z (dk oX10_silence 46 rfl) cl_X10_109 st_X10_one (c_X10_one _ J _) rfl rfl (Nat.le_of_ble_eq_true rfl) ⟨Nat.le_of_ble_eq_true rfl, Nat.le_of_ble_eq_true rfl⟩ ⟨Nat.zero_le _, Nat.zero_le _⟩ (fun r84 I84 J84 h84 => ?_)
                obtain ⟨h84, e1_, e2_⟩ := h84
                have e1_ := e1_.symm
                have e2_ := e2_.symm
                subst e1_
                subst e2_
                subst h84
                refine r_iload C 5 (dk oX10_silence 47 rfl) rfl ?_
                refine r_ishl C (dk oX10_silence 48 rfl) ?_
                refine r_ior C (dk oX10_silence 49 rfl) ?_
                rw [or_b32 (by omega)]
                refine r_istore (lo' := [(4, _), (0, _), (1, _), (2, _), (3, _), (5, _)]) C (dk oX10_silence 50 rfl) (by decide) rfl ?_
                refine r_iinc (lo' := [(5, _), (4, _), (0, _), (1, _), (2, _), (3, _)]) C 5 (dk oX10_silence 51 rfl) rfl (by first | exact nI_inc _ | rfl) (by decide) rfl ?_
                refine r_goto (tgt := 48) C (dk oX10_silence 52 rfl) (by decide) ?_
                refine V.sub [2, 3, 4, 5, 1, 0] rfl ?_
                have hih := ih (f_ + 1) (by omega) (by omega)
                rw [bS_s] at hih
                exact hih
              · refine r_aload_n C 0 (dk oX10_silence 37 rfl) rfl ?_
                refine r_getR C (dk oX10_silence 38 rfl) fl_X10_68 rfl (km hn rfl) ?_
                refine r_iload C 5 (dk oX10_silence 39 rfl) rfl ?_
                refine r_iald C _ (dk oX10_silence 40 rfl) rfl (km hn rfl) rfl (by omega) (by decide) ?_
                rw [show I26 137 f_ = sPhi τ f_ 2 from hMf f_ (by omega) 2 (by decide)]
                refine r_iload_n C 2 (dk oX10_silence 41 rfl) rfl ?_
                refine r_icmp_eq (tgt := 83) C (dk oX10_silence 42 rfl) (by decide) (fun hb76 => ?_) (fun hb76 => ?_)
                · refine r_iconst C (dk oX10_silence 45 rfl) (v := nI 0) (by decide) ?_
                  refine r_topI (show nI 0 = b32 (decide (sPhi τ f_ 0 = nI 2 ∧ ¬ sPhi τ f_ 2 = nI t_)) from by
                    first
                      | exact b32_df (fun q => hb65 q.1)
                      | exact b32_df (fun q => q.2 hb76)) ?_
                  refine r_isi C Z (dk oX10_silence 46 rfl) cl_X10_109 st_X10_one (c_X10_one _ J _) rfl rfl (Nat.le_of_ble_eq_true rfl) ⟨Nat.le_of_ble_eq_true rfl, Nat.le_of_ble_eq_true rfl⟩ ⟨Nat.zero_le _, Nat.zero_le _⟩ (fun r84 I84 J84 h84 => ?_)
                  obtain ⟨h84, e1_, e2_⟩ := h84
                  have e1_ := e1_.symm
                  have e2_ := e2_.symm
                  subst e1_
                  subst e2_
                  subst h84
                  refine r_iload C 5 (dk oX10_silence 47 rfl) rfl ?_
                  refine r_ishl C (dk oX10_silence 48 rfl) ?_
                  refine r_ior C (dk oX10_silence 49 rfl) ?_
                  rw [or_b32 (by omega)]
                  refine r_istore (lo' := [(4, _), (0, _), (1, _), (2, _), (3, _), (5, _)]) C (dk oX10_silence 50 rfl) (by decide) rfl ?_
                  refine r_iinc (lo' := [(5, _), (4, _), (0, _), (1, _), (2, _), (3, _)]) C 5 (dk oX10_silence 51 rfl) rfl (by first | exact nI_inc _ | rfl) (by decide) rfl ?_
                  refine r_goto (tgt := 48) C (dk oX10_silence 52 rfl) (by decide) ?_
                  refine V.sub [2, 3, 4, 5, 1, 0] rfl ?_
                  have hih := ih (f_ + 1) (by omega) (by omega)
                  rw [bS_s] at hih
                  exact hih
                · refine r_iconst C (dk oX10_silence 43 rfl) (v := nI 1) (by decide) ?_
                  refine r_topI (show nI 1 = b32 (decide (sPhi τ f_ 0 = nI 2 ∧ ¬ sPhi τ f_ 2 = nI t_)) from b32_dt ⟨hb65, hb76⟩) ?_
                  refine r_goto (tgt := 84) C (dk oX10_silence 44 rfl) (by decide) ?_
                  refine r_isi C Z (dk oX10_silence 46 rfl) cl_X10_109 st_X10_one (c_X10_one _ J _) rfl rfl (Nat.le_of_ble_eq_true rfl) ⟨Nat.le_of_ble_eq_true rfl, Nat.le_of_ble_eq_true rfl⟩ ⟨Nat.zero_le _, Nat.zero_le _⟩ (fun r84 I84 J84 h84 => ?_)
                  obtain ⟨h84, e1_, e2_⟩ := h84
                  have e1_ := e1_.symm
                  have e2_ := e2_.symm
                  subst e1_
                  subst e2_
                  subst h84
                  refine r_iload C 5 (dk oX10_silence 47 rfl) rfl ?_
                  refine r_ishl C (dk oX10_silence 48 rfl) ?_
                  refine r_ior C (dk oX10_silence 49 rfl) ?_
                  rw [or_b32 (by omega)]
                  refine r_istore (lo' := [(4, _), (0, _), (1, _), (2, _), (3, _), (5, _)]) C (dk oX10_silence 50 rfl) (by decide) rfl ?_
                  refine r_iinc (lo' := [(5, _), (4, _), (0, _), (1, _), (2, _), (3, _)]) C 5 (dk oX10_silence 51 rfl) rfl (by first | exact nI_inc _ | rfl) (by decide) rfl ?_
                  refine r_goto (tgt := 48) C (dk oX10_silence 52 rfl) (by decide) ?_
                  refine V.sub [2, 3, 4, 5, 1, 0] rfl ?_
                  have hih := ih (f_ + 1) (by omega) (by omega)
                  rw [bS_s] at hih
                  exact hih
        refine V.sub [3, 4, 5, 2, 1, 0] rfl ?_
        exact L48 13 0 (by omega) (Nat.zero_le _)
      · have hsu : (surF ((sCl τ).2.2 c_) (sPhi τ)) = -1 := surF_lt.mp (Int32.not_le.mp hb36)
        refine r_ldc C (dk oX10_silence 21 rfl) kn_X10_221 ?_
        refine hret (dk oX10_silence 22 rfl) rfl ?_
        refine ⟨?_, hMM.r hRf, hFf, rfl⟩
        unfold q_silence
        rw [if_pos ⟨vd_n h_c_ (by omega), vd_n h_t_ (by omega)⟩, cN_n (by omega), if_pos hsu]
    · rw [b32_0, decide_eq_false_iff_not] at hb12
      refine r_ldcw C (dk oX10_silence 7 rfl) kn_X10_264 ?_
      refine hret (dk oX10_silence 8 rfl) rfl ?_
      first
        | (refine ⟨?_, hMM, fun _ _ => rfl, rfl⟩; exact (if_neg (fun q => hb5 q.1)).symm)
        | (refine ⟨?_, hMM, fun _ _ => rfl, rfl⟩; exact (if_neg (fun q => hb12 q.2)).symm)

end MOD17
