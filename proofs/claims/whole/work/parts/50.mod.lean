section MOD19
variable {l : Launch} {n : Nat} {ad : Nat → Nat} {cA : Nat → ClassId} {D : va_G} {z : Zw}
theorem trN_sub {op : Nat} {sh : Nat → Nat} {s : Nat} : ∀ f, sub (trN op sh s f).2 op = true
  | 0 => by
    show sub 0 op = true
    unfold sub
    rw [Nat.zero_and]; rfl
  | f + 1 => by
    have ih := trN_sub (op := op) (sh := sh) (s := s) f
    cases h : op.testBit f
    · rw [trN_f h]; exact ih
    · rw [trN_t h]
      show sub (if _ then _ else _) op = true
      split
      · exact sub_or ih (sub_2p h)
      · exact ih
theorem MM.rd {I I' : MI} {τ : St} {f pl : Nat} (h : MM I τ) (h1 : MSl I' 0 τ.1) (hF : lo0 I I') (h17 : I' 117 17 = I 117 17) (h132 : I' 132 0 = I 132 0) (h134 : I' 134 = I 134) (h25 : I' 117 25 = nI 0) (h30 : I' 117 30 = if f = 0 then -1 else nI pl) (hz : MZs I') : MM I' (rdS τ f pl) := by
  obtain ⟨a1, a2, a3, a4, a5, a6⟩ := h
  exact ⟨h1, a2.u (τ' := rdS τ f pl) h17 h132 rfl rfl, fun i hi => ⟨by rw [h134]; exact (a3 i hi).1, fun hk => ⟨((a3 i hi).2 hk).1.hi (by omega) hF, by rw [hF 132 (by decide) (by decide) (i + 1) (by show 1 ≤ i + 1; omega)]; exact ((a3 i hi).2 hk).2⟩⟩, ⟨Nat.zero_le _, h25, fun j hj => absurd hj (Nat.not_lt_zero _)⟩, h30, hz⟩
theorem lo0.id {I I' : MI} (h : ∀ k, 117 < k → k < 134 → I' k = I k) : lo0 I I' := fun k a b j _ => by rw [h k a b]
set_option maxHeartbeats 1000000 in
set_option maxRecDepth 100000 in
theorem c_X10_trial (hn : 148 ≤ n) (I : MI) (J : MJ) (τ : St) (hMM : MM I τ) : Ci l n ad cA D z 4 yX10_trial cX10_trial 6 .int I J [.ref (ad 117)] (fun r I' J' => r = (q_trial τ).1 ∧ MM I' (q_trial τ).2 ∧ (∀ k, k < 117 → I' k = I k) ∧ J' = J) := by
  refine Ci.of (by decide) (Nat.le_of_ble_eq_true rfl) ?_
  intro p e s m args below meth c A C hin Z Q hret
  have hC0 := hMM.c0
  have hK0 := hMM.k0
  have hP0 := hMM.pap.zz
  have hok := hMM.ok
  have hnc : (sCl τ).1 ≤ 6 := hC0.1
  have hnp : (sPp τ).1 ≤ 10 := hP0.1
  have hnk : (sPk τ).1 ≤ 16 := hK0.1
  have hMT := hMM.2.2.2.1
  have hL := hMT.1
  have hop := @opN_lt (sPhi τ)
  have hB : brQ (sPk τ) < 65536 := brN_16 hnk
  refine r_aload_n C 0 (dk oX10_trial 0 rfl) rfl ?_
  refine r_iconst C (dk oX10_trial 1 rfl) (v := -1) (by decide) ?_
  refine r_ivv C Z (dk oX10_trial 2 rfl) cl_X10_247 ci_X10_hearAll rfl (km hn rfl) (c_X10_hear1 hn I J τ hMM) rfl rfl (Nat.le_of_ble_eq_true rfl) ⟨Nat.le_of_ble_eq_true rfl, Nat.le_of_ble_eq_true rfl⟩ ⟨Nat.zero_le _, Nat.zero_le _⟩ (fun I2 J2 h2 => ?_)
  obtain ⟨hM2, hSil2, hO2, e2_⟩ := h2
  have e2_ := e2_.symm
  subst e2_
  have hR2 := hO2.r
  have hF2 : ∀ k, k < 117 → I2 k = I k := fun k hk => hO2 k (by omega)
  refine r_aload_n C 0 (dk oX10_trial 3 rfl) rfl ?_
  refine r_ivi C Z (dk oX10_trial 4 rfl) cl_X10_278 ci_X10_openFacts rfl (km hn rfl) (c_X10_openFacts hn I2 J (sPhi τ) hM2 hok) rfl rfl (Nat.le_of_ble_eq_true rfl) ⟨Nat.le_of_ble_eq_true rfl, Nat.le_of_ble_eq_true rfl⟩ ⟨Nat.zero_le _, Nat.zero_le _⟩ (fun r6 I6 J6 h6 => ?_)
  obtain ⟨h6, e1_, e2_⟩ := h6
  have e1_ := e1_.symm
  have e2_ := e2_.symm
  subst e1_
  subst e2_
  subst h6
  refine r_istore_n (lo' := [(1, _), (0, _)]) C (dk oX10_trial 5 rfl) rfl (by decide) rfl ?_
  refine r_iconst C (dk oX10_trial 6 rfl) (v := nI 0) (by decide) ?_
  refine r_istore_n (lo' := [(2, _), (1, _), (0, _)]) C (dk oX10_trial 7 rfl) rfl (by decide) rfl ?_
  refine r_iconst C (dk oX10_trial 8 rfl) (v := nI 0) (by decide) ?_
  refine r_istore_n (lo' := [(3, _), (2, _), (1, _), (0, _)]) C (dk oX10_trial 9 rfl) rfl (by decide) rfl ?_
  have L14 : ∀ (d_ : Nat) (f_ : Nat) (I1 : MI), 12 - f_ < d_ → f_ ≤ 12 → MM I1 (stE τ (trN (opN (sPhi τ)) (shQ (sPk τ) (sPhi τ) (brQ (sPk τ))) (sSe τ) f_).1) → FcM I1 134 (sPhi τ) → (∀ k, k < 117 → I1 k = I k) → V p l e (rmL 4) s m args below meth c Q D A 6 0 0 n ad (mE cA ad I1 J) 14 [(0, .ref (ad 117)), (1, .int (nI (opN (sPhi τ)))), (2, .int (nI (trN (opN (sPhi τ)) (shQ (sPk τ) (sPhi τ) (brQ (sPk τ))) (sSe τ) f_).2)), (3, .int (nI f_))] [] := by
    intro d_
    induction d_ with
    | zero => intros; exact absurd (by assumption) (Nat.not_lt_zero _)
    | succ d_ ih => 
      intro f_ I1 hd_ hf hM1 hMf hFr
      have hse2 : sSe τ < 2 ^ 31 := hMM.1.2.2.2.2.1
      have htr := @trN_ok (opN (sPhi τ)) (shQ (sPk τ) (sPhi τ) (brQ (sPk τ))) (sSe τ) hse2 f_
      refine r_iload_n C 3 (dk oX10_trial 10 rfl) rfl ?_
      refine r_bipush C (dk oX10_trial 11 rfl) (v := nI 12) (by decide) ?_
      refine r_icmp_ge (tgt := 63) C (dk oX10_trial 12 rfl) (by decide) (fun hb17 => ?_) (fun hb17 => ?_)
      · simp (disch := omega) only [nI_leI, nI_ltI, nI_eq, nI_eq0] at hb17
        refine r_aload_n C 0 (dk oX10_trial 36 rfl) rfl ?_
        refine r_iload_n C 2 (dk oX10_trial 37 rfl) rfl ?_
        refine r_iconst C (dk oX10_trial 38 rfl) (v := nI 0) (by decide) ?_
        refine r_ivi C Z (dk oX10_trial 39 rfl) cl_X10_281 ci_X10_soBy rfl (km hn rfl) (c_X10_soBy hn I1 J (sPhi τ) hMf (trN (opN (sPhi τ)) (shQ (sPk τ) (sPhi τ) (brQ (sPk τ))) (sSe τ) f_).2 0 (Nat.lt_of_lt_of_le htr.2 (show 2 ^ f_ ≤ 2 ^ 12 from Nat.pow_le_pow_right (by decide) hf)) (by decide)) rfl rfl (Nat.le_of_ble_eq_true rfl) ⟨Nat.le_of_ble_eq_true rfl, Nat.le_of_ble_eq_true rfl⟩ ⟨Nat.zero_le _, Nat.zero_le _⟩ (fun r66 I66 J66 h66 => ?_)
        obtain ⟨h66, e1_, e2_⟩ := h66
        have e1_ := e1_.symm
        have e2_ := e2_.symm
        subst e1_
        subst e2_
        subst h66
        rw [soD_0 hok (trN_sub f_)]
        have hso : soN (sPhi τ) (trN (opN (sPhi τ)) (shQ (sPk τ) (sPhi τ) (brQ (sPk τ))) (sSe τ) f_).2 < 4096 := soN_lt (Nat.lt_of_lt_of_le htr.2 (show 2 ^ f_ ≤ 2 ^ 12 from Nat.pow_le_pow_right (by decide) hf))
        refine r_istore_n (lo' := [(3, _), (0, _), (1, _), (2, _)]) C (dk oX10_trial 40 rfl) rfl (by decide) rfl ?_
        refine r_iconst C (dk oX10_trial 41 rfl) (v := nI 0) (by decide) ?_
        refine r_istore (lo' := [(4, _), (3, _), (0, _), (1, _), (2, _)]) C (dk oX10_trial 42 rfl) (by decide) rfl ?_
        refine r_iconst C (dk oX10_trial 43 rfl) (v := nI 0) (by decide) ?_
        refine r_istore (lo' := [(5, _), (4, _), (3, _), (0, _), (1, _), (2, _)]) C (dk oX10_trial 44 rfl) (by decide) rfl ?_
        have L76 : ∀ (d_ : Nat) (c_ : Nat) (I3 : MI), (sCl τ).1 - c_ < d_ → c_ ≤ (sCl τ).1 → skF I1 I3 → V p l e (rmL 4) s m args below meth c Q D A 6 0 0 n ad (mE cA ad I3 J) 76 [(0, .ref (ad 117)), (3, .int (nI (soN (sPhi τ) (trN (opN (sPhi τ)) (shQ (sPk τ) (sPhi τ) (brQ (sPk τ))) (sSe τ) f_).2))), (4, .int (owS (sCl τ).2.1 (sCl τ).2.2 (soN (sPhi τ) (trN (opN (sPhi τ)) (shQ (sPk τ) (sPhi τ) (brQ (sPk τ))) (sSe τ) f_).2) c_)), (5, .int (nI c_))] [] := by
          intro d_
          induction d_ with
          | zero => intros; exact absurd (by assumption) (Nat.not_lt_zero _)
          | succ d_ ih => 
            intro c_ I3 hd2 hc hsk
            refine r_iload C 3 (dk oX10_trial 45 rfl) rfl ?_
            refine r_aload_n C 0 (dk oX10_trial 46 rfl) rfl ?_
            refine r_getR C (dk oX10_trial 47 rfl) fl_X10_7 rfl (km hn rfl) ?_
            refine r_iconst C (dk oX10_trial 48 rfl) (v := nI 0) (by decide) ?_
            refine r_iald C 0 (dk oX10_trial 49 rfl) rfl (km hn rfl) rfl (by decide) (by decide) ?_
            rw [show I3 118 0 = nI (sCl τ).1 from by rw [hsk.1 118 (by decide)]; exact hM1.c0.2.1]
            refine r_icmp_ge (tgt := 119) C (dk oX10_trial 50 rfl) (by decide) (fun hb84 => ?_) (fun hb84 => ?_)
            · simp (disch := omega) only [nI_leI, nI_ltI, nI_eq, nI_eq0] at hb84
              refine r_iload C 2 (dk oX10_trial 67 rfl) rfl ?_
              refine hret (dk oX10_trial 68 rfl) rfl ?_
              have h12 : f_ = 12 := by omega
              subst h12
              refine ⟨by rw [show c_ = (sCl τ).1 by omega]; rfl, hM1.r hsk.r, fun k hk => by rw [hsk.1 k (by omega)]; exact hFr k hk, rfl⟩
            · simp (disch := omega) only [nI_leI, nI_ltI, nI_eq, nI_eq0] at hb84
              refine r_iload C 2 (dk oX10_trial 51 rfl) rfl ?_
              refine r_aload_n C 0 (dk oX10_trial 52 rfl) rfl ?_
              refine r_iload C 3 (dk oX10_trial 53 rfl) rfl ?_
              refine r_iload_n C 1 (dk oX10_trial 54 rfl) rfl ?_
              refine r_ivi C Z (dk oX10_trial 55 rfl) cl_X10_275 ci_X10_asks rfl (km hn rfl) (c_X10_asks hn I3 J c_ (soN (sPhi τ) (trN (opN (sPhi τ)) (shQ (sPk τ) (sPhi τ) (brQ (sPk τ))) (sSe τ) f_).2) ((sCl τ).2.2 c_) (by omega) hso ((hM1.c0.2.2 c_ (by show c_ < (sCl τ).1; omega)).2.2.of (hsk.1 120 (by decide)) (hsk.1 121 (by decide)))) rfl rfl (Nat.le_of_ble_eq_true rfl) ⟨Nat.le_of_ble_eq_true rfl, Nat.le_of_ble_eq_true rfl⟩ ⟨Nat.zero_le _, Nat.zero_le _⟩ (fun r93 I93 J93 h93 => ?_)
              obtain ⟨e1_, hsk93, e2_⟩ := h93
              have e1_ := e1_.symm
              have e2_ := e2_.symm
              subst e1_
              subst e2_
              have hsk2 := hsk.trans hsk93
              refine r_if_eq (tgt := 109) C (dk oX10_trial 56 rfl) (by decide) (fun hb96 => ?_) (fun hb96 => ?_)
              · rw [b32_0] at hb96
                refine r_iconst C (dk oX10_trial 62 rfl) (v := nI 0) (by decide) ?_
                refine r_iadd C (dk oX10_trial 63 rfl) ?_
                refine r_istore (lo' := [(4, _), (0, _), (3, _), (5, _)]) C (dk oX10_trial 64 rfl) (by decide) rfl ?_
                refine r_iinc (lo' := [(5, _), (4, _), (0, _), (3, _)]) C 3 (dk oX10_trial 65 rfl) rfl (by first | exact nI_inc _ | rfl) (by decide) rfl ?_
                refine r_goto (tgt := 76) C (dk oX10_trial 66 rfl) (by decide) ?_
                refine V.sub [2, 3, 1, 0] rfl ?_
                have hih := ih (c_ + 1) I93 (by omega) (by omega) hsk2
                rw [show owS (sCl τ).2.1 (sCl τ).2.2 (soN (sPhi τ) (trN (opN (sPhi τ)) (shQ (sPk τ) (sPhi τ) (brQ (sPk τ))) (sSe τ) f_).2) (c_ + 1) = if evC ((sCl τ).2.2 c_) (soN (sPhi τ) (trN (opN (sPhi τ)) (shQ (sPk τ) (sPhi τ) (brQ (sPk τ))) (sSe τ) f_).2) = true then owS (sCl τ).2.1 (sCl τ).2.2 (soN (sPhi τ) (trN (opN (sPhi τ)) (shQ (sPk τ) (sPhi τ) (brQ (sPk τ))) (sSe τ) f_).2) c_ + (sCl τ).2.1 c_ else owS (sCl τ).2.1 (sCl τ).2.2 (soN (sPhi τ) (trN (opN (sPhi τ)) (shQ (sPk τ) (sPhi τ) (brQ (sPk τ))) (sSe τ) f_).2) c_ from rfl, hb96] at hih
                first
                  | (rw [if_pos rfl] at hih; exact hih)
                  | (rw [if_neg (by decide)] at hih
                     rw [show nI 0 = (0 : Int32) from rfl, Int32.add_zero]
                     exact hih)
              · rw [b32_n] at hb96
                refine r_aload_n C 0 (dk oX10_trial 57 rfl) rfl ?_
                refine r_getR C (dk oX10_trial 58 rfl) fl_X10_13 rfl (km hn rfl) ?_
                refine r_iload C 3 (dk oX10_trial 59 rfl) rfl ?_
                refine r_iald C _ (dk oX10_trial 60 rfl) rfl (km hn rfl) rfl (by omega) (by decide) ?_
                rw [show I93 119 c_ = (sCl τ).2.1 c_ from by rw [hsk2.1 119 (by decide)]; exact (hM1.c0.2.2 c_ (by show c_ < (sCl τ).1; omega)).1]
                refine r_goto (tgt := 110) C (dk oX10_trial 61 rfl) (by decide) ?_
                refine r_iadd C (dk oX10_trial 63 rfl) ?_
                refine r_istore (lo' := [(4, _), (0, _), (3, _), (5, _)]) C (dk oX10_trial 64 rfl) (by decide) rfl ?_
                refine r_iinc (lo' := [(5, _), (4, _), (0, _), (3, _)]) C 3 (dk oX10_trial 65 rfl) rfl (by first | exact nI_inc _ | rfl) (by decide) rfl ?_
                refine r_goto (tgt := 76) C (dk oX10_trial 66 rfl) (by decide) ?_
                refine V.sub [2, 3, 1, 0] rfl ?_
                have hih := ih (c_ + 1) I93 (by omega) (by omega) hsk2
                rw [show owS (sCl τ).2.1 (sCl τ).2.2 (soN (sPhi τ) (trN (opN (sPhi τ)) (shQ (sPk τ) (sPhi τ) (brQ (sPk τ))) (sSe τ) f_).2) (c_ + 1) = if evC ((sCl τ).2.2 c_) (soN (sPhi τ) (trN (opN (sPhi τ)) (shQ (sPk τ) (sPhi τ) (brQ (sPk τ))) (sSe τ) f_).2) = true then owS (sCl τ).2.1 (sCl τ).2.2 (soN (sPhi τ) (trN (opN (sPhi τ)) (shQ (sPk τ) (sPhi τ) (brQ (sPk τ))) (sSe τ) f_).2) c_ + (sCl τ).2.1 c_ else owS (sCl τ).2.1 (sCl τ).2.2 (soN (sPhi τ) (trN (opN (sPhi τ)) (shQ (sPk τ) (sPhi τ) (brQ (sPk τ))) (sSe τ) f_).2) c_ from rfl, hb96] at hih
                first
                  | (rw [if_pos rfl] at hih; exact hih)
                  | (rw [if_neg (by decide)] at hih
                     rw [show nI 0 = (0 : Int32) from rfl, Int32.add_zero]
                     exact hih)
        refine V.sub [3, 2, 1, 0] rfl ?_
        exact L76 ((sCl τ).1 + 1) 0 I1 (by omega) (Nat.zero_le _) (skF.rf I1)
      · simp (disch := omega) only [nI_leI, nI_ltI, nI_eq, nI_eq0] at hb17
        refine r_iload_n C 1 (dk oX10_trial 13 rfl) rfl ?_
        refine r_iload_n C 3 (dk oX10_trial 14 rfl) rfl ?_
        refine r_isi C Z (dk oX10_trial 15 rfl) cl_X10_231 st_X10_has (c_X10_has I1 J (opN (sPhi τ)) (f_) (by omega) (by omega)) rfl rfl (Nat.le_of_ble_eq_true rfl) ⟨Nat.le_of_ble_eq_true rfl, Nat.le_of_ble_eq_true rfl⟩ ⟨Nat.zero_le _, Nat.zero_le _⟩ (fun r22 I22 J22 h22 => ?_)
        obtain ⟨h22, e1_, e2_⟩ := h22
        have e1_ := e1_.symm
        have e2_ := e2_.symm
        subst e1_
        subst e2_
        subst h22
        refine r_if_eq (tgt := 57) C (dk oX10_trial 16 rfl) (by decide) (fun hb25 => ?_) (fun hb25 => ?_)
        · rw [b32_0] at hb25
          refine r_iinc (lo' := [(3, _), (0, _), (1, _), (2, _)]) C 3 (dk oX10_trial 34 rfl) rfl (by first | exact nI_inc _ | rfl) (by decide) rfl ?_
          refine r_goto (tgt := 14) C (dk oX10_trial 35 rfl) (by decide) ?_
          refine V.sub [1, 2, 3, 0] rfl ?_
          first
            | (have hih := ih (f_ + 1) I1 (by omega) (by omega) (by rw [trN_f hb25]; exact hM1) hMf hFr
               rw [trN_f hb25] at hih
               exact hih)
            | (have hih := ih (f_ + 1) (up2 I1 133 0 (nI (drS (trN (opN (sPhi τ)) (shQ (sPk τ) (sPhi τ) (brQ (sPk τ))) (sSe τ) f_).1))) (by omega) (by omega) (by rw [trN_t hb25]; exact hM1.se (drS_lt _)) (hMf.of (fun c a b => up2_ne (by omega))) (fun k hk => by rw [up2_ne (by omega)]; exact hFr k hk)
               rw [trN_t hb25] at hih
               exact hih)
        · rw [b32_n] at hb25
          refine r_iload_n C 2 (dk oX10_trial 17 rfl) rfl ?_
          refine r_aload_n C 0 (dk oX10_trial 18 rfl) rfl ?_
          refine r_sipush C (dk oX10_trial 19 rfl) (v := nI 1000) (by decide) ?_
          refine r_ivi C Z (dk oX10_trial 20 rfl) cl_X10_359 ci_X10_draw rfl (km hn rfl) (c_X10_draw hn I1 J (trN (opN (sPhi τ)) (shQ (sPk τ) (sPhi τ) (brQ (sPk τ))) (sSe τ) f_).1 hM1.1.2.2.2.1 htr.1) rfl rfl (Nat.le_of_ble_eq_true rfl) ⟨Nat.le_of_ble_eq_true rfl, Nat.le_of_ble_eq_true rfl⟩ ⟨Nat.zero_le _, Nat.zero_le _⟩ (fun r33 I33 J33 h33 => ?_)
          obtain ⟨e1_, e2_, e3_⟩ := h33
          have e1_ := e1_.symm
          have e2_ := e2_.symm
          have e3_ := e3_.symm
          subst e1_
          subst e2_
          subst e3_
          refine r_aload_n C 0 (dk oX10_trial 21 rfl) rfl ?_
          refine r_iload_n C 3 (dk oX10_trial 22 rfl) rfl ?_
          refine r_iconst C (dk oX10_trial 23 rfl) (v := nI 0) (by decide) ?_
          refine r_ivi C Z (dk oX10_trial 24 rfl) cl_X10_313 ci_X10_likelyBy rfl (km hn rfl) (c_X10_likelyBy hn (up2 I1 133 0 (nI (drS (trN (opN (sPhi τ)) (shQ (sPk τ) (sPhi τ) (brQ (sPk τ))) (sSe τ) f_).1))) J (sPhi τ) (hMf.of (fun c a b => up2_ne (by omega))) hok (sPk τ) ((hM1.k0 : MK0 I1 (sPk τ)).of (fun c a b => up2_ne (by omega))) f_ 0 (by omega) (by decide)) rfl rfl (Nat.le_of_ble_eq_true rfl) ⟨Nat.le_of_ble_eq_true rfl, Nat.le_of_ble_eq_true rfl⟩ ⟨Nat.zero_le _, Nat.zero_le _⟩ (fun r39 I39 J39 h39 => ?_)
          obtain ⟨h39, e1_, e2_⟩ := h39
          have e1_ := e1_.symm
          have e2_ := e2_.symm
          subst e1_
          subst e2_
          subst h39
          rw [Nat.or_zero]
          refine r_icmp_ge (tgt := 49) C (dk oX10_trial 25 rfl) (by decide) (fun hb42 => ?_) (fun hb42 => ?_)
          skip
          · have hs1 : (shQ (sPk τ) (sPhi τ) (brQ (sPk τ))) f_ ≤ 1000 := shF_le
            have hdv : drV (trN (opN (sPhi τ)) (shQ (sPk τ) (sPhi τ) (brQ (sPk τ))) (sSe τ) f_).1 < 1000 := Nat.mod_lt _ (by decide)
            simp (disch := omega) only [nI_leI, nI_ltI, nI_eq, nI_eq0] at hb42
            refine r_iconst C (dk oX10_trial 28 rfl) (v := nI 0) (by decide) ?_
            refine r_topI (show nI 0 = b32 (decide (drV (trN (opN (sPhi τ)) (shQ (sPk τ) (sPhi τ) (brQ (sPk τ))) (sSe τ) f_).1 < (shQ (sPk τ) (sPhi τ) (brQ (sPk τ))) f_)) from b32_df (by omega)) ?_
            refine r_isi C Z (dk oX10_trial 29 rfl) cl_X10_109 st_X10_one (c_X10_one _ J _) rfl rfl (Nat.le_of_ble_eq_true rfl) ⟨Nat.le_of_ble_eq_true rfl, Nat.le_of_ble_eq_true rfl⟩ ⟨Nat.zero_le _, Nat.zero_le _⟩ (fun r50 I50 J50 h50 => ?_)
            obtain ⟨h50, e1_, e2_⟩ := h50
            have e1_ := e1_.symm
            have e2_ := e2_.symm
            subst e1_
            subst e2_
            subst h50
            refine r_iload_n C 3 (dk oX10_trial 30 rfl) rfl ?_
            refine r_ishl C (dk oX10_trial 31 rfl) ?_
            refine r_ior C (dk oX10_trial 32 rfl) ?_
            rw [or_b32 (by omega)]
            simp only [decide_eq_true_eq]
            refine r_istore_n (lo' := [(2, _), (0, _), (1, _), (3, _)]) C (dk oX10_trial 33 rfl) rfl (by decide) rfl ?_
            refine r_iinc (lo' := [(3, _), (2, _), (0, _), (1, _)]) C 3 (dk oX10_trial 34 rfl) rfl (by first | exact nI_inc _ | rfl) (by decide) rfl ?_
            refine r_goto (tgt := 14) C (dk oX10_trial 35 rfl) (by decide) ?_
            refine V.sub [2, 3, 1, 0] rfl ?_
            first
              | (have hih := ih (f_ + 1) I1 (by omega) (by omega) (by rw [trN_f hb25]; exact hM1) hMf hFr
                 rw [trN_f hb25] at hih
                 exact hih)
              | (have hih := ih (f_ + 1) (up2 I1 133 0 (nI (drS (trN (opN (sPhi τ)) (shQ (sPk τ) (sPhi τ) (brQ (sPk τ))) (sSe τ) f_).1))) (by omega) (by omega) (by rw [trN_t hb25]; exact hM1.se (drS_lt _)) (hMf.of (fun c a b => up2_ne (by omega))) (fun k hk => by rw [up2_ne (by omega)]; exact hFr k hk)
                 rw [trN_t hb25] at hih
                 exact hih)
          · have hs1 : (shQ (sPk τ) (sPhi τ) (brQ (sPk τ))) f_ ≤ 1000 := shF_le
            have hdv : drV (trN (opN (sPhi τ)) (shQ (sPk τ) (sPhi τ) (brQ (sPk τ))) (sSe τ) f_).1 < 1000 := Nat.mod_lt _ (by decide)
            simp (disch := omega) only [nI_leI, nI_ltI, nI_eq, nI_eq0] at hb42
            refine r_iconst C (dk oX10_trial 26 rfl) (v := nI 1) (by decide) ?_
            refine r_topI (show nI 1 = b32 (decide (drV (trN (opN (sPhi τ)) (shQ (sPk τ) (sPhi τ) (brQ (sPk τ))) (sSe τ) f_).1 < (shQ (sPk τ) (sPhi τ) (brQ (sPk τ))) f_)) from b32_dt (by omega)) ?_
            refine r_goto (tgt := 50) C (dk oX10_trial 27 rfl) (by decide) ?_
            refine r_isi C Z (dk oX10_trial 29 rfl) cl_X10_109 st_X10_one (c_X10_one _ J _) rfl rfl (Nat.le_of_ble_eq_true rfl) ⟨Nat.le_of_ble_eq_true rfl, Nat.le_of_ble_eq_true rfl⟩ ⟨Nat.zero_le _, Nat.zero_le _⟩ (fun r50 I50 J50 h50 => ?_)
            obtain ⟨h50, e1_, e2_⟩ := h50
            have e1_ := e1_.symm
            have e2_ := e2_.symm
            subst e1_
            subst e2_
            subst h50
            refine r_iload_n C 3 (dk oX10_trial 30 rfl) rfl ?_
            refine r_ishl C (dk oX10_trial 31 rfl) ?_
            refine r_ior C (dk oX10_trial 32 rfl) ?_
            rw [or_b32 (by omega)]
            simp only [decide_eq_true_eq]
            refine r_istore_n (lo' := [(2, _), (0, _), (1, _), (3, _)]) C (dk oX10_trial 33 rfl) rfl (by decide) rfl ?_
            refine r_iinc (lo' := [(3, _), (2, _), (0, _), (1, _)]) C 3 (dk oX10_trial 34 rfl) rfl (by first | exact nI_inc _ | rfl) (by decide) rfl ?_
            refine r_goto (tgt := 14) C (dk oX10_trial 35 rfl) (by decide) ?_
            refine V.sub [2, 3, 1, 0] rfl ?_
            first
              | (have hih := ih (f_ + 1) I1 (by omega) (by omega) (by rw [trN_f hb25]; exact hM1) hMf hFr
                 rw [trN_f hb25] at hih
                 exact hih)
              | (have hih := ih (f_ + 1) (up2 I1 133 0 (nI (drS (trN (opN (sPhi τ)) (shQ (sPk τ) (sPhi τ) (brQ (sPk τ))) (sSe τ) f_).1))) (by omega) (by omega) (by rw [trN_t hb25]; exact hM1.se (drS_lt _)) (hMf.of (fun c a b => up2_ne (by omega))) (fun k hk => by rw [up2_ne (by omega)]; exact hFr k hk)
                 rw [trN_t hb25] at hih
                 exact hih)
  refine V.sub [3, 2, 1, 0] rfl ?_
  exact L14 13 0 I2 (by omega) (Nat.zero_le _) (hMM.r hR2) hM2 hF2

set_option maxHeartbeats 1000000 in
set_option maxRecDepth 100000 in
theorem c_X10_beginReading (hn : 148 ≤ n) (I : MI) (J : MJ) : Cv l n ad cA D z 0 yX10_beginReading cX10_beginReading 1 I J [.ref (ad 117)] (fun I' J' => I' = up2 (up2 (up2 I 117 26 (nI 0)) 117 29 (nI 0)) 117 30 (-1) ∧ J' = J) := by
  refine Cv.of (by decide) (Nat.le_of_ble_eq_true rfl) ?_
  intro p e s m args below meth c A C hin Z Q hret
  refine r_aload_n C 0 (dk oX10_beginReading 0 rfl) rfl ?_
  refine r_iconst C (dk oX10_beginReading 1 rfl) (v := nI 0) (by decide) ?_
  refine r_putI C (dk oX10_beginReading 2 rfl) fl_X10_142 ft_10_26 rfl (km hn rfl) ?_
  refine r_aload_n C 0 (dk oX10_beginReading 3 rfl) rfl ?_
  refine r_iconst C (dk oX10_beginReading 4 rfl) (v := nI 0) (by decide) ?_
  refine r_putI C (dk oX10_beginReading 5 rfl) fl_X10_145 ft_10_29 rfl (km hn rfl) ?_
  refine r_aload_n C 0 (dk oX10_beginReading 6 rfl) rfl ?_
  refine r_iconst C (dk oX10_beginReading 7 rfl) (v := -1) (by decide) ?_
  refine r_putI C (dk oX10_beginReading 8 rfl) fl_X10_83 ft_10_30 rfl (km hn rfl) ?_
  refine hret (dk oX10_beginReading 9 rfl) ?_
  exact ⟨rfl, rfl⟩

end MOD19
