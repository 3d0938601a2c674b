section PUB5
variable {l : Launch} {n : Nat} {ad : Nat → Nat} {cA : Nat → ClassId} {D : va_G} {z : Zw}
/-- the rest of the component, where only cells between a and b change, all of them proofs' -/
theorem CS.prf {I I' : MI} {J : MJ} {τ : St} {k : Prf} (h : CS I J τ) (hF : ∀ q, q < 33 ∨ 37 < q → I' q = I q) (hK : CPrf I' 8 k.1 k.2.1 k.2.2.1 k.2.2.2.1 k.2.2.2.2.1 k.2.2.2.2.2) : CS I' J (stK τ k) := by
  obtain ⟨⟨⟨c1, c2⟩, ⟨p1, p2⟩, k1, d1, d2, e1, e2⟩, h2, h3, h4, h5, h6⟩ := h
  refine ⟨⟨⟨c1.cp (smC.rf (fun q a b => hF q (by omega)) (fun _ _ _ => rfl)), c2⟩, ⟨p1.cp (smP.rf (fun q a b => hF q (by omega))), p2.rf (congrFun (hF _ (by decide)) 1)⟩, hK, by rw [hF 8 (by decide)]; exact d1, d2, by rw [hF 8 (by decide)]; exact e1, e2⟩, fun i hi => ⟨by rw [hF 116 (by decide)]; exact (h2 i hi).1, fun hk => ((h2 i hi).2 hk).rf (fun q a b => hF q (by omega)) (fun _ _ _ => rfl)⟩, ⟨fun f hf i hi => ?_, ?_, ?_, ?_⟩, fun p hp => ?_, ⟨h5.1, ?_, fun j hj => ?_⟩, ?_⟩
  · rw [hF (38 + 1 + i) (by omega)]; exact h3.1 f hf i hi
  · rw [hF 38 (by decide)]; exact h3.2.1
  · rw [hF 38 (by decide)]; exact h3.2.2.1
  · rw [hF 38 (by decide)]; exact h3.2.2.2
  · rw [hF 44 (by decide)]; exact h4 p hp
  · rw [hF 1 (by decide)]; exact h5.2.1
  · rw [hF 2 (by decide)]; exact h5.2.2 j hj
  · rw [hF 1 (by decide)]; exact h6
theorem bS_off {q r : Nat → Bool} {k : Nat} (h : ∀ i, i < k → q i = r i) (hk : q k = false) : bS q (k + 1) = bS r k := by
  show (if q k = true then _ else bS q k) = _
  rw [if_neg (by rw [hk]; decide)]
  exact bS_cong k h
set_option maxHeartbeats 1000000 in
set_option maxRecDepth 100000 in
theorem c_X9_proof (hn : 117 ≤ n) (I : MI) (J : MJ) (τ : St) (hCS : CS I J τ) (x f o c_x : Int32) : Ci l n ad cA D z 1 yX9_proof cX9_proof 5 .int I J [.ref (ad 0), .int x, .int f, .int o, .int c_x] (fun r I' J' => r = (q_proof τ x f o c_x).1 ∧ CS I' J' (q_proof τ x f o c_x).2 ∧ Fr I I' J J') := by
  refine Ci.of (by decide) (Nat.le_of_ble_eq_true rfl) ?_
  intro p e s m args below meth c A C hin Z Q hret
  have hCS0 := hCS
  obtain ⟨hS, hKp, hM, hSil, hT, h16⟩ := hCS0
  obtain ⟨⟨hC, hco⟩, ⟨hP, hZ⟩, hK, hdu, hdu2, hse, hse2⟩ := hS
  have hnc : (sCl τ).1 ≤ 6 := hC.1
  have hnp : (sPp τ).1 ≤ 10 := hP.1
  have hnk : (sPk τ).1 ≤ 16 := hK.1
  have hL := hT.1
  have hop := @opN_lt (sPhi τ)
  have h386 : I 38 6 = nI (opN (sPhi τ)) := hM.2.1
  refine r_iload_n C 1 (dk oX9_proof 0 rfl) rfl ?_
  refine r_isi C Z (dk oX9_proof 1 rfl) cl_X9_220 st_X9_isSide (c_X9_isSide I J x) rfl rfl (Nat.le_of_ble_eq_true rfl) ⟨Nat.le_of_ble_eq_true rfl, Nat.le_of_ble_eq_true rfl⟩ ⟨Nat.zero_le _, Nat.zero_le _⟩ (fun r1 I1 J1 h1 => ?_)
  obtain ⟨h1, e1_, e2_⟩ := h1
  have e1_ := e1_.symm
  have e2_ := e2_.symm
  subst e1_
  subst e2_
  subst h1
  refine r_if_eq (tgt := 14) C (dk oX9_proof 2 rfl) (by decide) (fun hb4 => ?_) (fun hb4 => ?_)
  · rw [b32_0, decide_eq_false_iff_not] at hb4
    refine r_ldc C (dk oX9_proof 6 rfl) kn_X9_143 ?_
    refine hret (dk oX9_proof 7 rfl) rfl ?_
    unfold q_proof
    first
      | (rw [if_pos (fun q => hb4 q.1)]; exact ⟨rfl, hCS, Fr.rf I J⟩)
      | (rw [if_pos (fun q => hb11 q.2)]; exact ⟨rfl, hCS, Fr.rf I J⟩)
  · rw [b32_n, decide_eq_true_eq] at hb4
    obtain ⟨s_, h_s_, hx_s_⟩ := vd_of (by decide) hb4
    subst hx_s_
    refine r_iload_n C 2 (dk oX9_proof 3 rfl) rfl ?_
    refine r_isi C Z (dk oX9_proof 4 rfl) cl_X9_139 st_X9_isFact (c_X9_isFact I J f) rfl rfl (Nat.le_of_ble_eq_true rfl) ⟨Nat.le_of_ble_eq_true rfl, Nat.le_of_ble_eq_true rfl⟩ ⟨Nat.zero_le _, Nat.zero_le _⟩ (fun r8 I8 J8 h8 => ?_)
    obtain ⟨h8, e1_, e2_⟩ := h8
    have e1_ := e1_.symm
    have e2_ := e2_.symm
    subst e1_
    subst e2_
    subst h8
    refine r_if_ne (tgt := 17) C (dk oX9_proof 5 rfl) (by decide) (fun hb11 => ?_) (fun hb11 => ?_)
    · rw [b32_n, decide_eq_true_eq] at hb11
      obtain ⟨f_, h_f_, hx_f_⟩ := vd_of (by decide) hb11
      subst hx_f_
      refine r_iload_n C 3 (dk oX9_proof 8 rfl) rfl ?_
      refine r_if_lt (tgt := 40) C (dk oX9_proof 9 rfl) (by decide) (fun hb18 => ?_) (fun hb18 => ?_)
      · refine r_ldc C (dk oX9_proof 18 rfl) kn_X9_70 ?_
        refine hret (dk oX9_proof 19 rfl) rfl ?_
        unfold q_proof
        rw [if_neg (Classical.not_not.mpr ⟨vd_n h_s_ (by decide), vd_n h_f_ (by decide)⟩), if_pos]
        · exact ⟨rfl, hCS, Fr.rf I J⟩
        · first
            | exact fun q => lt0_vd hb18 q.1
            | exact fun q => hi_vd (n := 1000) (by decide) (Int32.not_le.mpr hb25) q.1
            | exact fun q => lt0_vd hb30 q.2
            | exact fun q => hi_vd (n := 99) (by decide) hb37 q.2
      · refine r_iload_n C 3 (dk oX9_proof 10 rfl) rfl ?_
        refine r_sipush C (dk oX9_proof 11 rfl) (v := nI 1000) (by decide) ?_
        refine r_icmp_gt (tgt := 40) C (dk oX9_proof 12 rfl) (by decide) (fun hb25 => ?_) (fun hb25 => ?_)
        · refine r_ldc C (dk oX9_proof 18 rfl) kn_X9_70 ?_
          refine hret (dk oX9_proof 19 rfl) rfl ?_
          unfold q_proof
          rw [if_neg (Classical.not_not.mpr ⟨vd_n h_s_ (by decide), vd_n h_f_ (by decide)⟩), if_pos]
          · exact ⟨rfl, hCS, Fr.rf I J⟩
          · first
              | exact fun q => lt0_vd hb18 q.1
              | exact fun q => hi_vd (n := 1000) (by decide) (Int32.not_le.mpr hb25) q.1
              | exact fun q => lt0_vd hb30 q.2
              | exact fun q => hi_vd (n := 99) (by decide) hb37 q.2
        · have hb25 := Int32.not_lt.mp hb25
          refine r_iload C 4 (dk oX9_proof 13 rfl) rfl ?_
          refine r_if_lt (tgt := 40) C (dk oX9_proof 14 rfl) (by decide) (fun hb30 => ?_) (fun hb30 => ?_)
          · refine r_ldc C (dk oX9_proof 18 rfl) kn_X9_70 ?_
            refine hret (dk oX9_proof 19 rfl) rfl ?_
            unfold q_proof
            rw [if_neg (Classical.not_not.mpr ⟨vd_n h_s_ (by decide), vd_n h_f_ (by decide)⟩), if_pos]
            · exact ⟨rfl, hCS, Fr.rf I J⟩
            · first
                | exact fun q => lt0_vd hb18 q.1
                | exact fun q => hi_vd (n := 1000) (by decide) (Int32.not_le.mpr hb25) q.1
                | exact fun q => lt0_vd hb30 q.2
                | exact fun q => hi_vd (n := 99) (by decide) hb37 q.2
          · refine r_iload C 4 (dk oX9_proof 15 rfl) rfl ?_
            refine r_bipush C (dk oX9_proof 16 rfl) (v := nI 99) (by decide) ?_
            refine r_icmp_le (tgt := 43) C (dk oX9_proof 17 rfl) (by decide) (fun hb37 => ?_) (fun hb37 => ?_)
            · have hvo : vdN o 1001 := vd_hi (n := 1000) (by decide) hb18 hb25
              have hvc : vdN c_x 100 := vd_hi (n := 99) (by decide) hb30 hb37
              obtain ⟨o_, h_o_, hx_o_⟩ := vd_of (by decide) hvo
              obtain ⟨c_, h_c_, hx_c_⟩ := vd_of (by decide) hvc
              subst hx_o_
              subst hx_c_
              refine r_aload_n C 0 (dk oX9_proof 20 rfl) rfl ?_
              refine r_getR C (dk oX9_proof 21 rfl) fl_X9_33 rfl (kn hn rfl) ?_
              refine r_getR C (dk oX9_proof 22 rfl) fl_X9_128 rfl (kn hn rfl) ?_
              refine r_getI C (dk oX9_proof 23 rfl) fl_X9_132 rfl (kn hn rfl) ?_
              rw [show I 33 0 = nI (sPk τ).1 from hK.2.1]
              refine r_bipush C (dk oX9_proof 24 rfl) (v := nI 16) (by decide) ?_
              refine r_icmp_lt (tgt := 61) C (dk oX9_proof 25 rfl) (by decide) (fun hb55 => ?_) (fun hb55 => ?_)
              · simp (disch := omega) only [nI_leI, nI_ltI, nI_eq, nI_eq0] at hb55
                refine r_aload_n C 0 (dk oX9_proof 28 rfl) rfl ?_
                refine r_getR C (dk oX9_proof 29 rfl) fl_X9_33 rfl (kn hn rfl) ?_
                refine r_getR C (dk oX9_proof 30 rfl) fl_X9_128 rfl (kn hn rfl) ?_
                refine r_iload_n C 1 (dk oX9_proof 31 rfl) rfl ?_
                refine r_iload_n C 2 (dk oX9_proof 32 rfl) rfl ?_
                refine r_iload_n C 3 (dk oX9_proof 33 rfl) rfl ?_
                refine r_iload C 4 (dk oX9_proof 34 rfl) rfl ?_
                refine r_ivi C Z (dk oX9_proof 35 rfl) cl_X9_230 ci_X5_add rfl (kn hn rfl) (c_X5_add hn I J (sPk τ).1 (sPk τ).2.1 (sPk τ).2.2.1 (sPk τ).2.2.2.1 (sPk τ).2.2.2.2.1 (sPk τ).2.2.2.2.2 hK (by omega) s_ f_ o_ c_) rfl rfl (Nat.le_of_ble_eq_true rfl) ⟨Nat.le_of_ble_eq_true rfl, Nat.le_of_ble_eq_true rfl⟩ ⟨Nat.zero_le _, Nat.zero_le _⟩ (fun r73 I73 J73 h73 => ?_)
                obtain ⟨e1_, e2_, e3_⟩ := h73
                have e1_ := e1_.symm
                have e2_ := e2_.symm
                have e3_ := e3_.symm
                subst e1_
                subst e2_
                subst e3_
                refine hret (dk oX9_proof 36 rfl) rfl ?_
                unfold q_proof
                rw [if_neg (Classical.not_not.mpr ⟨vd_n h_s_ (by decide), vd_n h_f_ (by decide)⟩), if_neg (Classical.not_not.mpr ⟨hvo, hvc⟩), if_neg (by omega), cN_n (by omega), cN_n (by omega), cN_n (by omega), cN_n (by omega)]
                refine ⟨rfl, hCS.prf (fun q hq => ?_) ⟨by show (sPk τ).1 + 1 ≤ 16; omega, up2_at, ?_, fun k hk => ?_⟩, ⟨fun q hq => ?_, fun _ _ => rfl⟩⟩
                · rw [up2_ne (by omega), up2_ne (by omega), up2_ne (by omega), up2_ne (by omega), up2_ne (by omega)]
                · rw [up2_off (by decide), up2_ne (by decide), up2_ne (by decide), up2_ne (by decide), up2_ne (by decide)]
                  show I 33 1 = nI (bS (fun i => if i = (sPk τ).1 then false else (sPk τ).2.2.2.2.2 i) ((sPk τ).1 + 1))
                  rw [bS_off (q := fun i => if i = (sPk τ).1 then false else (sPk τ).2.2.2.2.2 i) (r := (sPk τ).2.2.2.2.2) (k := (sPk τ).1) (fun i hi => if_neg (by omega)) (if_pos rfl)]
                  exact hK.2.2.1
                · have hk2 : k < (sPk τ).1 + 1 := hk
                  show _ = nI (if k = (sPk τ).1 then s_ else (sPk τ).2.1 k) ∧ (if k = (sPk τ).1 then s_ else (sPk τ).2.1 k) < 2 ∧ _ = nI (if k = (sPk τ).1 then f_ else (sPk τ).2.2.1 k) ∧ (if k = (sPk τ).1 then f_ else (sPk τ).2.2.1 k) < 12 ∧ _ = nI (if k = (sPk τ).1 then o_ else (sPk τ).2.2.2.1 k) ∧ (if k = (sPk τ).1 then o_ else (sPk τ).2.2.2.1 k) ≤ 1000 ∧ _ = nI (if k = (sPk τ).1 then c_ else (sPk τ).2.2.2.2.1 k) ∧ (if k = (sPk τ).1 then c_ else (sPk τ).2.2.2.2.1 k) ≤ 99
                  by_cases e : k = (sPk τ).1
                  · subst e
                    simp only [if_pos]
                    refine ⟨?_, h_s_, ?_, h_f_, ?_, by omega, ?_, by omega⟩
                    · rw [up2_ne (by decide), up2_ne (by decide), up2_ne (by decide), up2_ne (by decide), up2_at]
                    · rw [up2_ne (by decide), up2_ne (by decide), up2_ne (by decide), up2_at]
                    · rw [up2_ne (by decide), up2_ne (by decide), up2_at]
                    · rw [up2_ne (by decide), up2_at]
                  · simp only [if_neg e]
                    have q := hK.2.2.2 k (by show k < (sPk τ).1; omega)
                    refine ⟨?_, q.2.1, ?_, q.2.2.2.1, ?_, q.2.2.2.2.2.1, ?_, q.2.2.2.2.2.2.2⟩
                    · rw [up2_ne (by decide), up2_ne (by decide), up2_ne (by decide), up2_ne (by decide), up2_off e]; exact q.1
                    · rw [up2_ne (by decide), up2_ne (by decide), up2_ne (by decide), up2_off e, up2_ne (by decide)]; exact q.2.2.1
                    · rw [up2_ne (by decide), up2_ne (by decide), up2_off e, up2_ne (by decide), up2_ne (by decide)]; exact q.2.2.2.2.1
                    · rw [up2_ne (by decide), up2_off e, up2_ne (by decide), up2_ne (by decide), up2_ne (by decide)]; exact q.2.2.2.2.2.2.1
                · rw [up2_ne (by omega), up2_ne (by omega), up2_ne (by omega), up2_ne (by omega), up2_ne (by omega)]
              · simp (disch := omega) only [nI_leI, nI_ltI, nI_eq, nI_eq0] at hb55
                refine r_ldc C (dk oX9_proof 26 rfl) kn_X9_75 ?_
                refine hret (dk oX9_proof 27 rfl) rfl ?_
                unfold q_proof
                rw [if_neg (Classical.not_not.mpr ⟨vd_n h_s_ (by decide), vd_n h_f_ (by decide)⟩), if_neg (Classical.not_not.mpr ⟨hvo, hvc⟩), if_pos (by omega)]
                exact ⟨rfl, hCS, Fr.rf I J⟩
            · refine r_ldc C (dk oX9_proof 18 rfl) kn_X9_70 ?_
              refine hret (dk oX9_proof 19 rfl) rfl ?_
              unfold q_proof
              rw [if_neg (Classical.not_not.mpr ⟨vd_n h_s_ (by decide), vd_n h_f_ (by decide)⟩), if_pos]
              · exact ⟨rfl, hCS, Fr.rf I J⟩
              · first
                  | exact fun q => lt0_vd hb18 q.1
                  | exact fun q => hi_vd (n := 1000) (by decide) (Int32.not_le.mpr hb25) q.1
                  | exact fun q => lt0_vd hb30 q.2
                  | exact fun q => hi_vd (n := 99) (by decide) hb37 q.2
    · rw [b32_0, decide_eq_false_iff_not] at hb11
      refine r_ldc C (dk oX9_proof 6 rfl) kn_X9_143 ?_
      refine hret (dk oX9_proof 7 rfl) rfl ?_
      unfold q_proof
      first
        | (rw [if_pos (fun q => hb4 q.1)]; exact ⟨rfl, hCS, Fr.rf I J⟩)
        | (rw [if_pos (fun q => hb11 q.2)]; exact ⟨rfl, hCS, Fr.rf I J⟩)

set_option maxHeartbeats 1000000 in
set_option maxRecDepth 100000 in
theorem c_X9_bring (hn : 117 ≤ n) (I : MI) (J : MJ) (τ : St) (hCS : CS I J τ) (x : Int32) (b : Bool) : Ci l n ad cA D z 1 yX9_bring cX9_bring 5 .int I J [.ref (ad 0), .int x, .int (b32 b)] (fun r I' J' => r = (q_bring τ x b).1 ∧ CS I' J' (q_bring τ x b).2 ∧ Fr I I' J J') := by
  refine Ci.of (by decide) (Nat.le_of_ble_eq_true rfl) ?_
  intro p e s m args below meth c A C hin Z Q hret
  have hCS0 := hCS
  obtain ⟨hS, hKp, hM, hSil, hT, h16⟩ := hCS0
  obtain ⟨⟨hC, hco⟩, ⟨hP, hZ⟩, hK, hdu, hdu2, hse, hse2⟩ := hS
  have hnc : (sCl τ).1 ≤ 6 := hC.1
  have hnp : (sPp τ).1 ≤ 10 := hP.1
  have hnk : (sPk τ).1 ≤ 16 := hK.1
  have hL := hT.1
  have hop := @opN_lt (sPhi τ)
  have h386 : I 38 6 = nI (opN (sPhi τ)) := hM.2.1
  have hB : brQ (sPk τ) < 65536 := brN_16 hnk
  refine r_aload_n C 0 (dk oX9_bring 0 rfl) rfl ?_
  refine r_iload_n C 1 (dk oX9_bring 1 rfl) rfl ?_
  refine r_ivi C Z (dk oX9_bring 2 rfl) cl_X9_233 ci_X9_isProof rfl (kn hn rfl) (c_X9_isProof hn I J (sPk τ).1 (by omega) hK.2.1 x) rfl rfl (Nat.le_of_ble_eq_true rfl) ⟨Nat.le_of_ble_eq_true rfl, Nat.le_of_ble_eq_true rfl⟩ ⟨Nat.zero_le _, Nat.zero_le _⟩ (fun r2 I2 J2 h2 => ?_)
  obtain ⟨h2, e1_, e2_⟩ := h2
  have e1_ := e1_.symm
  have e2_ := e2_.symm
  subst e1_
  subst e2_
  subst h2
  refine r_if_ne (tgt := 11) C (dk oX9_bring 3 rfl) (by decide) (fun hb5 => ?_) (fun hb5 => ?_)
  · rw [b32_n, decide_eq_true_eq] at hb5
    obtain ⟨k_, h_k_, hx_k_⟩ := vd_of (by omega) hb5
    subst hx_k_
    refine r_aload_n C 0 (dk oX9_bring 6 rfl) rfl ?_
    refine r_getR C (dk oX9_bring 7 rfl) fl_X9_33 rfl (kn hn rfl) ?_
    refine r_getR C (dk oX9_bring 8 rfl) fl_X9_128 rfl (kn hn rfl) ?_
    refine r_astore_n (lo' := [(3, _), (0, _), (1, _), (2, _)]) C (dk oX9_bring 9 rfl) rfl (by decide) rfl ?_
    refine r_aload_n C 0 (dk oX9_bring 10 rfl) rfl ?_
    refine r_getI C (dk oX9_bring 11 rfl) fl_X9_236 rfl (kn hn rfl) ?_
    rw [show I 33 1 = nI (brQ (sPk τ)) from hK.2.2.1]
    refine r_iload_n C 2 (dk oX9_bring 12 rfl) rfl ?_
    refine r_isi C Z (dk oX9_bring 13 rfl) cl_X9_180 st_X9_has (c_X9_has I J (brQ (sPk τ)) k_ (by omega) (by omega)) rfl rfl (Nat.le_of_ble_eq_true rfl) ⟨Nat.le_of_ble_eq_true rfl, Nat.le_of_ble_eq_true rfl⟩ ⟨Nat.zero_le _, Nat.zero_le _⟩ (fun r24 I24 J24 h24 => ?_)
    obtain ⟨h24, e1_, e2_⟩ := h24
    have e1_ := e1_.symm
    have e2_ := e2_.symm
    subst e1_
    subst e2_
    subst h24
    refine r_if_eq (tgt := 34) C (dk oX9_bring 14 rfl) (by decide) (fun hb27 => ?_) (fun hb27 => ?_)
    · rw [b32_0, bS_br h_k_] at hb27
      refine r_iconst C (dk oX9_bring 17 rfl) (v := nI 0) (by decide) ?_
      refine r_istore (lo' := [(4, _), (3, _), (0, _), (1, _), (2, _)]) C (dk oX9_bring 18 rfl) (by decide) rfl ?_
      refine r_aload_n C 1 (dk oX9_bring 19 rfl) rfl ?_
      refine r_iload_n C 4 (dk oX9_bring 20 rfl) rfl ?_
      refine r_if_eq (tgt := 53) C (dk oX9_bring 21 rfl) (by decide) (fun hb39 => ?_) (fun hb39 => ?_)
      · rw [b32_0] at hb39
        refine r_aload_n C 1 (dk oX9_bring 29 rfl) rfl ?_
        refine r_getI C (dk oX9_bring 30 rfl) fl_X9_236 rfl (kn hn rfl) ?_
        rw [show I 33 1 = nI (brQ (sPk τ)) from hK.2.2.1]
        refine r_iconst C (dk oX9_bring 31 rfl) (v := nI 1) (by decide) ?_
        refine r_iload_n C 3 (dk oX9_bring 32 rfl) rfl ?_
        refine r_ishl C (dk oX9_bring 33 rfl) ?_
        refine r_iconst C (dk oX9_bring 34 rfl) (v := -1) (by decide) ?_
        refine r_ixor C (dk oX9_bring 35 rfl) ?_
        refine r_iand C (dk oX9_bring 36 rfl) ?_
        rw [shl1 (by omega), nI_not (by omega), show anN (brQ (sPk τ)) (2 ^ k_) = bS (fun i => if i = k_ then false else (sPk τ).2.2.2.2.2 i) (sPk τ).1 from bS_clr _ h_k_]
        refine r_putI C (dk oX9_bring 37 rfl) fl_X9_236 ft_5_1 rfl (kn hn rfl) ?_
        refine r_iload C 0 (dk oX9_bring 38 rfl) rfl ?_
        refine hret (dk oX9_bring 39 rfl) rfl ?_
        unfold q_bring
        rw [if_pos (vd_n h_k_ (by omega)), cN_n (by omega), hb27]
        refine ⟨rfl, hCS.prf (fun q hq => up2_ne (by omega)) ⟨hnk, by rw [up2_off (by decide)]; exact hK.2.1, ?_, fun k hk => ?_⟩, ⟨fun q hq => up2_ne (by omega), fun _ _ => rfl⟩⟩
        · rw [up2_at, hb39]
        · rw [up2_ne (by decide), up2_ne (by decide), up2_ne (by decide), up2_ne (by decide)]
          exact hK.2.2.2 k hk
      · rw [b32_n] at hb39
        refine r_aload_n C 1 (dk oX9_bring 22 rfl) rfl ?_
        refine r_getI C (dk oX9_bring 23 rfl) fl_X9_236 rfl (kn hn rfl) ?_
        rw [show I 33 1 = nI (brQ (sPk τ)) from hK.2.2.1]
        refine r_iconst C (dk oX9_bring 24 rfl) (v := nI 1) (by decide) ?_
        refine r_iload_n C 3 (dk oX9_bring 25 rfl) rfl ?_
        refine r_ishl C (dk oX9_bring 26 rfl) ?_
        refine r_ior C (dk oX9_bring 27 rfl) ?_
        rw [or_bit (by omega), show brQ (sPk τ) ||| 2 ^ k_ = bS (fun i => if i = k_ then true else (sPk τ).2.2.2.2.2 i) (sPk τ).1 from bS_set _ h_k_]
        refine r_goto (tgt := 63) C (dk oX9_bring 28 rfl) (by decide) ?_
        refine r_putI C (dk oX9_bring 37 rfl) fl_X9_236 ft_5_1 rfl (kn hn rfl) ?_
        refine r_iload C 0 (dk oX9_bring 38 rfl) rfl ?_
        refine hret (dk oX9_bring 39 rfl) rfl ?_
        unfold q_bring
        rw [if_pos (vd_n h_k_ (by omega)), cN_n (by omega), hb27]
        refine ⟨rfl, hCS.prf (fun q hq => up2_ne (by omega)) ⟨hnk, by rw [up2_off (by decide)]; exact hK.2.1, ?_, fun k hk => ?_⟩, ⟨fun q hq => up2_ne (by omega), fun _ _ => rfl⟩⟩
        · rw [up2_at, hb39]
        · rw [up2_ne (by decide), up2_ne (by decide), up2_ne (by decide), up2_ne (by decide)]
          exact hK.2.2.2 k hk
    · rw [b32_n, bS_br h_k_] at hb27
      refine r_iconst C (dk oX9_bring 15 rfl) (v := nI 1) (by decide) ?_
      refine r_goto (tgt := 35) C (dk oX9_bring 16 rfl) (by decide) ?_
      refine r_istore (lo' := [(4, _), (3, _), (0, _), (1, _), (2, _)]) C (dk oX9_bring 18 rfl) (by decide) rfl ?_
      refine r_aload_n C 1 (dk oX9_bring 19 rfl) rfl ?_
      refine r_iload_n C 4 (dk oX9_bring 20 rfl) rfl ?_
      refine r_if_eq (tgt := 53) C (dk oX9_bring 21 rfl) (by decide) (fun hb39 => ?_) (fun hb39 => ?_)
      · rw [b32_0] at hb39
        refine r_aload_n C 1 (dk oX9_bring 29 rfl) rfl ?_
        refine r_getI C (dk oX9_bring 30 rfl) fl_X9_236 rfl (kn hn rfl) ?_
        rw [show I 33 1 = nI (brQ (sPk τ)) from hK.2.2.1]
        refine r_iconst C (dk oX9_bring 31 rfl) (v := nI 1) (by decide) ?_
        refine r_iload_n C 3 (dk oX9_bring 32 rfl) rfl ?_
        refine r_ishl C (dk oX9_bring 33 rfl) ?_
        refine r_iconst C (dk oX9_bring 34 rfl) (v := -1) (by decide) ?_
        refine r_ixor C (dk oX9_bring 35 rfl) ?_
        refine r_iand C (dk oX9_bring 36 rfl) ?_
        rw [shl1 (by omega), nI_not (by omega), show anN (brQ (sPk τ)) (2 ^ k_) = bS (fun i => if i = k_ then false else (sPk τ).2.2.2.2.2 i) (sPk τ).1 from bS_clr _ h_k_]
        refine r_putI C (dk oX9_bring 37 rfl) fl_X9_236 ft_5_1 rfl (kn hn rfl) ?_
        refine r_iload C 0 (dk oX9_bring 38 rfl) rfl ?_
        refine hret (dk oX9_bring 39 rfl) rfl ?_
        unfold q_bring
        rw [if_pos (vd_n h_k_ (by omega)), cN_n (by omega), hb27]
        refine ⟨rfl, hCS.prf (fun q hq => up2_ne (by omega)) ⟨hnk, by rw [up2_off (by decide)]; exact hK.2.1, ?_, fun k hk => ?_⟩, ⟨fun q hq => up2_ne (by omega), fun _ _ => rfl⟩⟩
        · rw [up2_at, hb39]
        · rw [up2_ne (by decide), up2_ne (by decide), up2_ne (by decide), up2_ne (by decide)]
          exact hK.2.2.2 k hk
      · rw [b32_n] at hb39
        refine r_aload_n C 1 (dk oX9_bring 22 rfl) rfl ?_
        refine r_getI C (dk oX9_bring 23 rfl) fl_X9_236 rfl (kn hn rfl) ?_
        rw [show I 33 1 = nI (brQ (sPk τ)) from hK.2.2.1]
        refine r_iconst C (dk oX9_bring 24 rfl) (v := nI 1) (by decide) ?_
        refine r_iload_n C 3 (dk oX9_bring 25 rfl) rfl ?_
        refine r_ishl C (dk oX9_bring 26 rfl) ?_
        refine r_ior C (dk oX9_bring 27 rfl) ?_
        rw [or_bit (by omega), show brQ (sPk τ) ||| 2 ^ k_ = bS (fun i => if i = k_ then true else (sPk τ).2.2.2.2.2 i) (sPk τ).1 from bS_set _ h_k_]
        refine r_goto (tgt := 63) C (dk oX9_bring 28 rfl) (by decide) ?_
        refine r_putI C (dk oX9_bring 37 rfl) fl_X9_236 ft_5_1 rfl (kn hn rfl) ?_
        refine r_iload C 0 (dk oX9_bring 38 rfl) rfl ?_
        refine hret (dk oX9_bring 39 rfl) rfl ?_
        unfold q_bring
        rw [if_pos (vd_n h_k_ (by omega)), cN_n (by omega), hb27]
        refine ⟨rfl, hCS.prf (fun q hq => up2_ne (by omega)) ⟨hnk, by rw [up2_off (by decide)]; exact hK.2.1, ?_, fun k hk => ?_⟩, ⟨fun q hq => up2_ne (by omega), fun _ _ => rfl⟩⟩
        · rw [up2_at, hb39]
        · rw [up2_ne (by decide), up2_ne (by decide), up2_ne (by decide), up2_ne (by decide)]
          exact hK.2.2.2 k hk
  · rw [b32_0, decide_eq_false_iff_not] at hb5
    refine r_ldc C (dk oX9_bring 4 rfl) kn_X9_143 ?_
    refine hret (dk oX9_bring 5 rfl) rfl ?_
    unfold q_bring
    rw [if_neg hb5]
    exact ⟨rfl, hCS, Fr.rf I J⟩

theorem CS.img {I I' : MI} {J J' : MJ} {τ : St} {i_ : Nat} (hi : i_ < 2) (h : CS I J τ) (hF : ∀ k, k ≠ 116 → k < 56 + 30 * i_ ∨ 85 + 30 * i_ < k → I' k = I k) (hJ : ∀ k, k < 56 + 30 * i_ ∨ 85 + 30 * i_ < k → J' k = J k) (h1 : CSu I' J' (56 + 30 * i_) τ.1) (hk : ∀ i, i < 2 → I' 116 i = if i = i_ then nI 1 else I 116 i) : CS I' J' (τ.1, (fun j => if j = i_ then τ.1 else sIm τ j), (fun j => if j = i_ then true else sKp τ j), τ.2.2.2) := by
  obtain ⟨a1, a2, a3, a4, a5, a6⟩ := h
  refine ⟨a1.rf (fun k a b => hF k (by omega) (by omega)) (fun k a b => hJ k (by omega)), fun i hi2 => ?_, ⟨fun f hf i hi2 => ?_, ?_, ?_, ?_⟩, fun p hp => ?_, ⟨a5.1, ?_, fun j hj => ?_⟩, ?_⟩
  · show _ = b32 (if i = i_ then true else sKp τ i) ∧ ((if i = i_ then true else sKp τ i) = true → CSu I' J' (56 + 30 * i) (if i = i_ then τ.1 else sIm τ i))
    by_cases e : i = i_
    · subst e
      rw [hk i hi2, if_pos rfl, if_pos rfl, if_pos rfl]
      exact ⟨rfl, fun _ => h1⟩
    · rw [hk i hi2, if_neg e, if_neg e, if_neg e]
      exact ⟨(a2 i hi2).1, fun hq => ((a2 i hi2).2 hq).rf (fun k a b => hF k (by omega) (by omega)) (fun k a b => hJ k (by omega))⟩
  · rw [hF (38 + 1 + i) (by omega) (by omega)]; exact a3.1 f hf i hi2
  · rw [hF 38 (by decide) (by omega)]; exact a3.2.1
  · rw [hF 38 (by decide) (by omega)]; exact a3.2.2.1
  · rw [hF 38 (by decide) (by omega)]; exact a3.2.2.2
  · rw [hF 44 (by decide) (by omega)]; exact a4 p hp
  · rw [hF 1 (by decide) (by omega)]; exact a5.2.1
  · rw [hF 2 (by decide) (by omega)]; exact a5.2.2 j hj
  · rw [hF 1 (by decide) (by omega)]; exact a6
theorem CS.bk {I I' : MI} {J J' : MJ} {τ : St} {i_ : Nat} (h : CS I J τ) (hF : ∀ k, k < 8 ∨ 37 < k → I' k = I k) (hJ : ∀ k, k < 8 ∨ 37 < k → J' k = J k) (h1 : CSu I' J' 8 (sIm τ i_)) : CS0 I' J' (sIm τ i_, τ.2) := by
  obtain ⟨a1, a2, a3, a4, a5, a6⟩ := h
  refine ⟨h1, fun i hi => ⟨by rw [hF 116 (by decide)]; exact (a2 i hi).1, fun hk => ((a2 i hi).2 hk).rf (fun k a b => hF k (by omega)) (fun k a b => hJ k (by omega))⟩, ⟨a5.1, ?_, fun j hj => ?_⟩, ?_⟩
  · rw [hF 1 (by decide)]; exact a5.2.1
  · rw [hF 2 (by decide)]; exact a5.2.2 j hj
  · rw [hF 1 (by decide)]; exact a6
set_option maxHeartbeats 1000000 in
set_option maxRecDepth 100000 in
theorem c_X9_keep_n (hn : 117 ≤ n) (I : MI) (J : MJ) (τ : St) (hCS : CS I J τ) (x : Int32) (hx : ¬ vdN x 2) : Ci l n ad cA D z 3 yX9_keep cX9_keep 2 .int I J [.ref (ad 0), .int x] (fun r I' J' => r = (q_keep τ x).1 ∧ CS I' J' (q_keep τ x).2 ∧ Fr I I' J J') := by
  refine Ci.of (by decide) (Nat.le_of_ble_eq_true rfl) ?_
  intro p e s m args below meth c A C hin Z Q hret
  have hCS0 := hCS
  obtain ⟨hS, hKp, hM, hSil, hT, h16⟩ := hCS0
  obtain ⟨⟨hC, hco⟩, ⟨hP, hZ⟩, hK, hdu, hdu2, hse, hse2⟩ := hS
  have hnc : (sCl τ).1 ≤ 6 := hC.1
  have hnp : (sPp τ).1 ≤ 10 := hP.1
  have hnk : (sPk τ).1 ≤ 16 := hK.1
  have hL := hT.1
  have hop := @opN_lt (sPhi τ)
  have h386 : I 38 6 = nI (opN (sPhi τ)) := hM.2.1
  refine r_iload_n C 1 (dk oX9_keep 0 rfl) rfl ?_
  refine r_isi C Z (dk oX9_keep 1 rfl) cl_X9_293 st_X9_isImage (c_X9_isImage I J x) rfl rfl (Nat.le_of_ble_eq_true rfl) ⟨Nat.le_of_ble_eq_true rfl, Nat.le_of_ble_eq_true rfl⟩ ⟨Nat.zero_le _, Nat.zero_le _⟩ (fun r1 I1 J1 h1 => ?_)
  obtain ⟨h1, e1_, e2_⟩ := h1
  have e1_ := e1_.symm
  have e2_ := e2_.symm
  subst e1_
  subst e2_
  subst h1
  refine r_if_ne (tgt := 10) C (dk oX9_keep 2 rfl) (by decide) (fun hb4 => absurd (by rw [b32_0, decide_eq_false_iff_not]; exact hx) hb4) (fun hb4 => ?_)
  refine r_ldc C (dk oX9_keep 3 rfl) kn_X9_143 ?_
  refine hret (dk oX9_keep 4 rfl) rfl ?_
  unfold q_keep
  rw [if_neg hx]
  exact ⟨rfl, hCS, Fr.rf I J⟩

set_option maxHeartbeats 1000000 in
set_option maxRecDepth 100000 in
theorem c_X9_goBack_n (hn : 117 ≤ n) (I : MI) (J : MJ) (τ : St) (hCS : CS I J τ) (x : Int32) (hx : ¬ vdN x 2) : Ci l n ad cA D z 4 yX9_goBack cX9_goBack 2 .int I J [.ref (ad 0), .int x] (fun r I' J' => r = (q_goBack τ x).1 ∧ CS I' J' (q_goBack τ x).2 ∧ Fr I I' J J') := by
  refine Ci.of (by decide) (Nat.le_of_ble_eq_true rfl) ?_
  intro p e s m args below meth c A C hin Z Q hret
  have hCS0 := hCS
  obtain ⟨hS, hKp, hM, hSil, hT, h16⟩ := hCS0
  obtain ⟨⟨hC, hco⟩, ⟨hP, hZ⟩, hK, hdu, hdu2, hse, hse2⟩ := hS
  have hnc : (sCl τ).1 ≤ 6 := hC.1
  have hnp : (sPp τ).1 ≤ 10 := hP.1
  have hnk : (sPk τ).1 ≤ 16 := hK.1
  have hL := hT.1
  have hop := @opN_lt (sPhi τ)
  have h386 : I 38 6 = nI (opN (sPhi τ)) := hM.2.1
  refine r_iload_n C 1 (dk oX9_goBack 0 rfl) rfl ?_
  refine r_isi C Z (dk oX9_goBack 1 rfl) cl_X9_293 st_X9_isImage (c_X9_isImage I J x) rfl rfl (Nat.le_of_ble_eq_true rfl) ⟨Nat.le_of_ble_eq_true rfl, Nat.le_of_ble_eq_true rfl⟩ ⟨Nat.zero_le _, Nat.zero_le _⟩ (fun r1 I1 J1 h1 => ?_)
  obtain ⟨h1, e1_, e2_⟩ := h1
  have e1_ := e1_.symm
  have e2_ := e2_.symm
  subst e1_
  subst e2_
  subst h1
  refine r_if_ne (tgt := 10) C (dk oX9_goBack 2 rfl) (by decide) (fun hb4 => absurd (by rw [b32_0, decide_eq_false_iff_not]; exact hx) hb4) (fun hb4 => ?_)
  refine r_ldc C (dk oX9_goBack 3 rfl) kn_X9_143 ?_
  refine hret (dk oX9_goBack 4 rfl) rfl ?_
  unfold q_goBack
  rw [if_neg hx]
  exact ⟨rfl, hCS, Fr.rf I J⟩

set_option maxHeartbeats 1000000 in
set_option maxRecDepth 100000 in
theorem c_X9_keep_0 (hn : 117 ≤ n) (I : MI) (J : MJ) (τ : St) (hCS : CS I J τ) : Ci l n ad cA D z 3 yX9_keep cX9_keep 2 .int I J [.ref (ad 0), .int (nI 0)] (fun r I' J' => r = (q_keep τ (nI 0)).1 ∧ CS I' J' (q_keep τ (nI 0)).2 ∧ Fr I I' J J') := by
  refine Ci.of (by decide) (Nat.le_of_ble_eq_true rfl) ?_
  intro p e s m args below meth c A C hin Z Q hret
  have hCS0 := hCS
  obtain ⟨hS, hKp, hM, hSil, hT, h16⟩ := hCS0
  obtain ⟨⟨hC, hco⟩, ⟨hP, hZ⟩, hK, hdu, hdu2, hse, hse2⟩ := hS
  have hnc : (sCl τ).1 ≤ 6 := hC.1
  have hnp : (sPp τ).1 ≤ 10 := hP.1
  have hnk : (sPk τ).1 ≤ 16 := hK.1
  have hL := hT.1
  have hop := @opN_lt (sPhi τ)
  have h386 : I 38 6 = nI (opN (sPhi τ)) := hM.2.1
  refine r_iload_n C 1 (dk oX9_keep 0 rfl) rfl ?_
  refine r_isi C Z (dk oX9_keep 1 rfl) cl_X9_293 st_X9_isImage (c_X9_isImage I J (nI 0)) rfl rfl (Nat.le_of_ble_eq_true rfl) ⟨Nat.le_of_ble_eq_true rfl, Nat.le_of_ble_eq_true rfl⟩ ⟨Nat.zero_le _, Nat.zero_le _⟩ (fun r1 I1 J1 h1 => ?_)
  obtain ⟨h1, e1_, e2_⟩ := h1
  have e1_ := e1_.symm
  have e2_ := e2_.symm
  subst e1_
  subst e2_
  subst h1
  refine r_if_ne (tgt := 10) C (dk oX9_keep 2 rfl) (by decide) (fun hb4 => ?_) (fun hb4 => absurd hb4 (by decide))
  refine r_aload_n C 0 (dk oX9_keep 5 rfl) rfl ?_
  refine r_getR C (dk oX9_keep 6 rfl) fl_X9_54 rfl (kn hn rfl) ?_
  refine r_iload_n C 1 (dk oX9_keep 7 rfl) rfl ?_
  refine r_aald C 0 (dk oX9_keep 8 rfl) rfl (by decide) (kn hn rfl) rfl (by decide) (by decide) ?_
  refine r_aload_n C 0 (dk oX9_keep 9 rfl) rfl ?_
  refine r_getR C (dk oX9_keep 10 rfl) fl_X9_33 rfl (kn hn rfl) ?_
  refine r_ivv C Z (dk oX9_keep 11 rfl) cl_X9_296 ci_X7_copyFrom rfl (kn hn rfl) (c56_8_X7_copyFrom hn I J τ.1 hCS.1) rfl rfl (Nat.le_of_ble_eq_true rfl) ⟨Nat.le_of_ble_eq_true rfl, Nat.le_of_ble_eq_true rfl⟩ ⟨Nat.zero_le _, Nat.zero_le _⟩ (fun I20 J20 h20 => ?_)
  obtain ⟨h20, hF20, hJ20⟩ := h20
  refine r_aload_n C 0 (dk oX9_keep 12 rfl) rfl ?_
  refine r_getR C (dk oX9_keep 13 rfl) fl_X9_58 rfl (kn hn rfl) ?_
  refine r_iload_n C 1 (dk oX9_keep 14 rfl) rfl ?_
  refine r_iconst C (dk oX9_keep 15 rfl) (v := nI 1) (by decide) ?_
  refine r_zast C 0 (dk oX9_keep 16 rfl) rfl (kn hn rfl) rfl (by decide) (by decide) (by first | exact Or.inl rfl | exact Or.inr rfl | assumption) ?_
  refine r_iconst C (dk oX9_keep 17 rfl) (v := nI 1) (by decide) ?_
  refine hret (dk oX9_keep 18 rfl) rfl ?_
  unfold q_keep
  rw [if_pos (by decide), cN_n (by decide)]
  refine ⟨rfl, hCS.img (i_ := 0) (by decide) (fun k hk hk2 => by rw [up2_ne hk]; exact hF20 k (by omega)) (fun k hk2 => hJ20 k (by omega)) (h20.rf (fun k a b => up2_ne (by omega)) (fun _ _ _ => rfl)) (fun i hi => ?_), ⟨fun k hk => by rw [up2_ne (by omega)]; exact hF20 k (by omega), fun k hk => hJ20 k (by omega)⟩⟩
  by_cases e : i = 0
  · subst e; rw [up2_at]; rfl
  · rw [up2_off e, if_neg e, hF20 116 (by decide)]

set_option maxHeartbeats 1000000 in
set_option maxRecDepth 100000 in
theorem c_X9_goBack_0 (hn : 117 ≤ n) (I : MI) (J : MJ) (τ : St) (hCS : CS I J τ) : Ci l n ad cA D z 4 yX9_goBack cX9_goBack 2 .int I J [.ref (ad 0), .int (nI 0)] (fun r I' J' => r = (q_goBack τ (nI 0)).1 ∧ CS I' J' (q_goBack τ (nI 0)).2 ∧ Fr I I' J J') := by
  refine Ci.of (by decide) (Nat.le_of_ble_eq_true rfl) ?_
  intro p e s m args below meth c A C hin Z Q hret
  have hCS0 := hCS
  obtain ⟨hS, hKp, hM, hSil, hT, h16⟩ := hCS0
  obtain ⟨⟨hC, hco⟩, ⟨hP, hZ⟩, hK, hdu, hdu2, hse, hse2⟩ := hS
  have hnc : (sCl τ).1 ≤ 6 := hC.1
  have hnp : (sPp τ).1 ≤ 10 := hP.1
  have hnk : (sPk τ).1 ≤ 16 := hK.1
  have hL := hT.1
  have hop := @opN_lt (sPhi τ)
  have h386 : I 38 6 = nI (opN (sPhi τ)) := hM.2.1
  refine r_iload_n C 1 (dk oX9_goBack 0 rfl) rfl ?_
  refine r_isi C Z (dk oX9_goBack 1 rfl) cl_X9_293 st_X9_isImage (c_X9_isImage I J (nI 0)) rfl rfl (Nat.le_of_ble_eq_true rfl) ⟨Nat.le_of_ble_eq_true rfl, Nat.le_of_ble_eq_true rfl⟩ ⟨Nat.zero_le _, Nat.zero_le _⟩ (fun r1 I1 J1 h1 => ?_)
  obtain ⟨h1, e1_, e2_⟩ := h1
  have e1_ := e1_.symm
  have e2_ := e2_.symm
  subst e1_
  subst e2_
  subst h1
  refine r_if_ne (tgt := 10) C (dk oX9_goBack 2 rfl) (by decide) (fun hb4 => ?_) (fun hb4 => absurd hb4 (by decide))
  refine r_aload_n C 0 (dk oX9_goBack 5 rfl) rfl ?_
  refine r_getR C (dk oX9_goBack 6 rfl) fl_X9_58 rfl (kn hn rfl) ?_
  refine r_iload_n C 1 (dk oX9_goBack 7 rfl) rfl ?_
  refine r_zald C 0 (dk oX9_goBack 8 rfl) rfl (kn hn rfl) rfl (by decide) (by decide) ?_
  rw [(hKp 0 (by decide)).1]
  refine r_if_ne (tgt := 22) C (dk oX9_goBack 9 rfl) (by decide) (fun hb16 => ?_) (fun hb16 => ?_)
  · rw [b32_n] at hb16
    have hIm := (hKp 0 (by decide)).2 hb16
    refine r_aload_n C 0 (dk oX9_goBack 12 rfl) rfl ?_
    refine r_getR C (dk oX9_goBack 13 rfl) fl_X9_33 rfl (kn hn rfl) ?_
    refine r_aload_n C 0 (dk oX9_goBack 14 rfl) rfl ?_
    refine r_getR C (dk oX9_goBack 15 rfl) fl_X9_54 rfl (kn hn rfl) ?_
    refine r_iload_n C 1 (dk oX9_goBack 16 rfl) rfl ?_
    refine r_aald C 0 (dk oX9_goBack 17 rfl) rfl (by decide) (kn hn rfl) rfl (by decide) (by decide) ?_
    refine r_ivv C Z (dk oX9_goBack 18 rfl) cl_X9_296 ci_X7_copyFrom rfl (kn hn rfl) (c8_56_X7_copyFrom hn I J (sIm τ 0) hIm) rfl rfl (Nat.le_of_ble_eq_true rfl) ⟨Nat.le_of_ble_eq_true rfl, Nat.le_of_ble_eq_true rfl⟩ ⟨Nat.zero_le _, Nat.zero_le _⟩ (fun I32 J32 h32 => ?_)
    obtain ⟨h32, hF32, hJ32⟩ := h32
    have hC0 := hCS.bk (i_ := 0) hF32 hJ32 h32
    refine r_aload_n C 0 (dk oX9_goBack 19 rfl) rfl ?_
    refine r_getR C (dk oX9_goBack 20 rfl) fl_X9_40 rfl (kn hn rfl) ?_
    refine r_aload_n C 0 (dk oX9_goBack 21 rfl) rfl ?_
    refine r_getR C (dk oX9_goBack 22 rfl) fl_X9_33 rfl (kn hn rfl) ?_
    refine r_getR C (dk oX9_goBack 23 rfl) fl_X9_62 rfl (kn hn rfl) ?_
    refine r_iconst C (dk oX9_goBack 24 rfl) (v := -1) (by decide) ?_
    refine r_ivv C Z (dk oX9_goBack 25 rfl) cl_X9_66 ci_X2_replay rfl (kn hn rfl) (c38_X2_replay hn I32 J32 (sIm τ 0).2.1.1 (sIm τ 0).2.1.2.1 (sIm τ 0).2.1.2.2.1 (sIm τ 0).2.1.2.2.2 hC0.pp (-1)) rfl rfl (Nat.le_of_ble_eq_true rfl) ⟨Nat.le_of_ble_eq_true rfl, Nat.le_of_ble_eq_true rfl⟩ ⟨Nat.zero_le _, Nat.zero_le _⟩ (fun I47 J47 h47 => ?_)
    obtain ⟨hM2, hS2, hF47, e2_⟩ := h47
    have e2_ := e2_.symm
    subst e2_
    have hCS2 := hC0.rp hM2 hS2 hF47
    refine r_iconst C (dk oX9_goBack 26 rfl) (v := nI 1) (by decide) ?_
    refine hret (dk oX9_goBack 27 rfl) rfl ?_
    unfold q_goBack
    rw [if_pos (by decide), cN_n (by decide), if_pos hb16]
    exact ⟨rfl, hCS2, Fr.trans ⟨fun k hk => hF32 k (by omega), fun k hk => hJ32 k (by omega)⟩ hF47.fr⟩
  · rw [b32_0] at hb16
    refine r_ldc C (dk oX9_goBack 10 rfl) kn_X9_80 ?_
    refine hret (dk oX9_goBack 11 rfl) rfl ?_
    unfold q_goBack
    rw [if_pos (by decide), cN_n (by decide), if_neg (by rw [hb16]; decide)]
    exact ⟨rfl, hCS, Fr.rf I J⟩

set_option maxHeartbeats 1000000 in
set_option maxRecDepth 100000 in
theorem c_X9_keep_1 (hn : 117 ≤ n) (I : MI) (J : MJ) (τ : St) (hCS : CS I J τ) : Ci l n ad cA D z 3 yX9_keep cX9_keep 2 .int I J [.ref (ad 0), .int (nI 1)] (fun r I' J' => r = (q_keep τ (nI 1)).1 ∧ CS I' J' (q_keep τ (nI 1)).2 ∧ Fr I I' J J') := by
  refine Ci.of (by decide) (Nat.le_of_ble_eq_true rfl) ?_
  intro p e s m args below meth c A C hin Z Q hret
  have hCS0 := hCS
  obtain ⟨hS, hKp, hM, hSil, hT, h16⟩ := hCS0
  obtain ⟨⟨hC, hco⟩, ⟨hP, hZ⟩, hK, hdu, hdu2, hse, hse2⟩ := hS
  have hnc : (sCl τ).1 ≤ 6 := hC.1
  have hnp : (sPp τ).1 ≤ 10 := hP.1
  have hnk : (sPk τ).1 ≤ 16 := hK.1
  have hL := hT.1
  have hop := @opN_lt (sPhi τ)
  have h386 : I 38 6 = nI (opN (sPhi τ)) := hM.2.1
  refine r_iload_n C 1 (dk oX9_keep 0 rfl) rfl ?_
  refine r_isi C Z (dk oX9_keep 1 rfl) cl_X9_293 st_X9_isImage (c_X9_isImage I J (nI 1)) rfl rfl (Nat.le_of_ble_eq_true rfl) ⟨Nat.le_of_ble_eq_true rfl, Nat.le_of_ble_eq_true rfl⟩ ⟨Nat.zero_le _, Nat.zero_le _⟩ (fun r1 I1 J1 h1 => ?_)
  obtain ⟨h1, e1_, e2_⟩ := h1
  have e1_ := e1_.symm
  have e2_ := e2_.symm
  subst e1_
  subst e2_
  subst h1
  refine r_if_ne (tgt := 10) C (dk oX9_keep 2 rfl) (by decide) (fun hb4 => ?_) (fun hb4 => absurd hb4 (by decide))
  refine r_aload_n C 0 (dk oX9_keep 5 rfl) rfl ?_
  refine r_getR C (dk oX9_keep 6 rfl) fl_X9_54 rfl (kn hn rfl) ?_
  refine r_iload_n C 1 (dk oX9_keep 7 rfl) rfl ?_
  refine r_aald C 1 (dk oX9_keep 8 rfl) rfl (by decide) (kn hn rfl) rfl (by decide) (by decide) ?_
  refine r_aload_n C 0 (dk oX9_keep 9 rfl) rfl ?_
  refine r_getR C (dk oX9_keep 10 rfl) fl_X9_33 rfl (kn hn rfl) ?_
  refine r_ivv C Z (dk oX9_keep 11 rfl) cl_X9_296 ci_X7_copyFrom rfl (kn hn rfl) (c86_8_X7_copyFrom hn I J τ.1 hCS.1) rfl rfl (Nat.le_of_ble_eq_true rfl) ⟨Nat.le_of_ble_eq_true rfl, Nat.le_of_ble_eq_true rfl⟩ ⟨Nat.zero_le _, Nat.zero_le _⟩ (fun I20 J20 h20 => ?_)
  obtain ⟨h20, hF20, hJ20⟩ := h20
  refine r_aload_n C 0 (dk oX9_keep 12 rfl) rfl ?_
  refine r_getR C (dk oX9_keep 13 rfl) fl_X9_58 rfl (kn hn rfl) ?_
  refine r_iload_n C 1 (dk oX9_keep 14 rfl) rfl ?_
  refine r_iconst C (dk oX9_keep 15 rfl) (v := nI 1) (by decide) ?_
  refine r_zast C 1 (dk oX9_keep 16 rfl) rfl (kn hn rfl) rfl (by decide) (by decide) (by first | exact Or.inl rfl | exact Or.inr rfl | assumption) ?_
  refine r_iconst C (dk oX9_keep 17 rfl) (v := nI 1) (by decide) ?_
  refine hret (dk oX9_keep 18 rfl) rfl ?_
  unfold q_keep
  rw [if_pos (by decide), cN_n (by decide)]
  refine ⟨rfl, hCS.img (i_ := 1) (by decide) (fun k hk hk2 => by rw [up2_ne hk]; exact hF20 k (by omega)) (fun k hk2 => hJ20 k (by omega)) (h20.rf (fun k a b => up2_ne (by omega)) (fun _ _ _ => rfl)) (fun i hi => ?_), ⟨fun k hk => by rw [up2_ne (by omega)]; exact hF20 k (by omega), fun k hk => hJ20 k (by omega)⟩⟩
  by_cases e : i = 1
  · subst e; rw [up2_at]; rfl
  · rw [up2_off e, if_neg e, hF20 116 (by decide)]

set_option maxHeartbeats 1000000 in
set_option maxRecDepth 100000 in
theorem c_X9_goBack_1 (hn : 117 ≤ n) (I : MI) (J : MJ) (τ : St) (hCS : CS I J τ) : Ci l n ad cA D z 4 yX9_goBack cX9_goBack 2 .int I J [.ref (ad 0), .int (nI 1)] (fun r I' J' => r = (q_goBack τ (nI 1)).1 ∧ CS I' J' (q_goBack τ (nI 1)).2 ∧ Fr I I' J J') := by
  refine Ci.of (by decide) (Nat.le_of_ble_eq_true rfl) ?_
  intro p e s m args below meth c A C hin Z Q hret
  have hCS0 := hCS
  obtain ⟨hS, hKp, hM, hSil, hT, h16⟩ := hCS0
  obtain ⟨⟨hC, hco⟩, ⟨hP, hZ⟩, hK, hdu, hdu2, hse, hse2⟩ := hS
  have hnc : (sCl τ).1 ≤ 6 := hC.1
  have hnp : (sPp τ).1 ≤ 10 := hP.1
  have hnk : (sPk τ).1 ≤ 16 := hK.1
  have hL := hT.1
  have hop := @opN_lt (sPhi τ)
  have h386 : I 38 6 = nI (opN (sPhi τ)) := hM.2.1
  refine r_iload_n C 1 (dk oX9_goBack 0 rfl) rfl ?_
  refine r_isi C Z (dk oX9_goBack 1 rfl) cl_X9_293 st_X9_isImage (c_X9_isImage I J (nI 1)) rfl rfl (Nat.le_of_ble_eq_true rfl) ⟨Nat.le_of_ble_eq_true rfl, Nat.le_of_ble_eq_true rfl⟩ ⟨Nat.zero_le _, Nat.zero_le _⟩ (fun r1 I1 J1 h1 => ?_)
  obtain ⟨h1, e1_, e2_⟩ := h1
  have e1_ := e1_.symm
  have e2_ := e2_.symm
  subst e1_
  subst e2_
  subst h1
  refine r_if_ne (tgt := 10) C (dk oX9_goBack 2 rfl) (by decide) (fun hb4 => ?_) (fun hb4 => absurd hb4 (by decide))
  refine r_aload_n C 0 (dk oX9_goBack 5 rfl) rfl ?_
  refine r_getR C (dk oX9_goBack 6 rfl) fl_X9_58 rfl (kn hn rfl) ?_
  refine r_iload_n C 1 (dk oX9_goBack 7 rfl) rfl ?_
  refine r_zald C 1 (dk oX9_goBack 8 rfl) rfl (kn hn rfl) rfl (by decide) (by decide) ?_
  rw [(hKp 1 (by decide)).1]
  refine r_if_ne (tgt := 22) C (dk oX9_goBack 9 rfl) (by decide) (fun hb16 => ?_) (fun hb16 => ?_)
  · rw [b32_n] at hb16
    have hIm := (hKp 1 (by decide)).2 hb16
    refine r_aload_n C 0 (dk oX9_goBack 12 rfl) rfl ?_
    refine r_getR C (dk oX9_goBack 13 rfl) fl_X9_33 rfl (kn hn rfl) ?_
    refine r_aload_n C 0 (dk oX9_goBack 14 rfl) rfl ?_
    refine r_getR C (dk oX9_goBack 15 rfl) fl_X9_54 rfl (kn hn rfl) ?_
    refine r_iload_n C 1 (dk oX9_goBack 16 rfl) rfl ?_
    refine r_aald C 1 (dk oX9_goBack 17 rfl) rfl (by decide) (kn hn rfl) rfl (by decide) (by decide) ?_
    refine r_ivv C Z (dk oX9_goBack 18 rfl) cl_X9_296 ci_X7_copyFrom rfl (kn hn rfl) (c8_86_X7_copyFrom hn I J (sIm τ 1) hIm) rfl rfl (Nat.le_of_ble_eq_true rfl) ⟨Nat.le_of_ble_eq_true rfl, Nat.le_of_ble_eq_true rfl⟩ ⟨Nat.zero_le _, Nat.zero_le _⟩ (fun I32 J32 h32 => ?_)
    obtain ⟨h32, hF32, hJ32⟩ := h32
    have hC0 := hCS.bk (i_ := 1) hF32 hJ32 h32
    refine r_aload_n C 0 (dk oX9_goBack 19 rfl) rfl ?_
    refine r_getR C (dk oX9_goBack 20 rfl) fl_X9_40 rfl (kn hn rfl) ?_
    refine r_aload_n C 0 (dk oX9_goBack 21 rfl) rfl ?_
    refine r_getR C (dk oX9_goBack 22 rfl) fl_X9_33 rfl (kn hn rfl) ?_
    refine r_getR C (dk oX9_goBack 23 rfl) fl_X9_62 rfl (kn hn rfl) ?_
    refine r_iconst C (dk oX9_goBack 24 rfl) (v := -1) (by decide) ?_
    refine r_ivv C Z (dk oX9_goBack 25 rfl) cl_X9_66 ci_X2_replay rfl (kn hn rfl) (c38_X2_replay hn I32 J32 (sIm τ 1).2.1.1 (sIm τ 1).2.1.2.1 (sIm τ 1).2.1.2.2.1 (sIm τ 1).2.1.2.2.2 hC0.pp (-1)) rfl rfl (Nat.le_of_ble_eq_true rfl) ⟨Nat.le_of_ble_eq_true rfl, Nat.le_of_ble_eq_true rfl⟩ ⟨Nat.zero_le _, Nat.zero_le _⟩ (fun I47 J47 h47 => ?_)
    obtain ⟨hM2, hS2, hF47, e2_⟩ := h47
    have e2_ := e2_.symm
    subst e2_
    have hCS2 := hC0.rp hM2 hS2 hF47
    refine r_iconst C (dk oX9_goBack 26 rfl) (v := nI 1) (by decide) ?_
    refine hret (dk oX9_goBack 27 rfl) rfl ?_
    unfold q_goBack
    rw [if_pos (by decide), cN_n (by decide), if_pos hb16]
    exact ⟨rfl, hCS2, Fr.trans ⟨fun k hk => hF32 k (by omega), fun k hk => hJ32 k (by omega)⟩ hF47.fr⟩
  · rw [b32_0] at hb16
    refine r_ldc C (dk oX9_goBack 10 rfl) kn_X9_80 ?_
    refine hret (dk oX9_goBack 11 rfl) rfl ?_
    unfold q_goBack
    rw [if_pos (by decide), cN_n (by decide), if_neg (by rw [hb16]; decide)]
    exact ⟨rfl, hCS, Fr.rf I J⟩

theorem c_X9_keep (hn : 117 ≤ n) (I : MI) (J : MJ) (τ : St) (hCS : CS I J τ) (x : Int32) : Ci l n ad cA D z 3 yX9_keep cX9_keep 2 .int I J [.ref (ad 0), .int x] (fun r I' J' => r = (q_keep τ x).1 ∧ CS I' J' (q_keep τ x).2 ∧ Fr I I' J J') := by
  by_cases hx : vdN x 2
  · obtain ⟨i_, hi, rfl⟩ := vd_of (by decide) hx
    rcases (by omega : i_ = 0 ∨ i_ = 1) with rfl | rfl
    · exact c_X9_keep_0 hn I J τ hCS
    · exact c_X9_keep_1 hn I J τ hCS
  · exact c_X9_keep_n hn I J τ hCS x hx
theorem c_X9_goBack (hn : 117 ≤ n) (I : MI) (J : MJ) (τ : St) (hCS : CS I J τ) (x : Int32) : Ci l n ad cA D z 4 yX9_goBack cX9_goBack 2 .int I J [.ref (ad 0), .int x] (fun r I' J' => r = (q_goBack τ x).1 ∧ CS I' J' (q_goBack τ x).2 ∧ Fr I I' J J') := by
  by_cases hx : vdN x 2
  · obtain ⟨i_, hi, rfl⟩ := vd_of (by decide) hx
    rcases (by omega : i_ = 0 ∨ i_ = 1) with rfl | rfl
    · exact c_X9_goBack_0 hn I J τ hCS
    · exact c_X9_goBack_1 hn I J τ hCS
  · exact c_X9_goBack_n hn I J τ hCS x hx
set_option maxHeartbeats 1000000 in
set_option maxRecDepth 100000 in
theorem c_X9_paper (hn : 117 ≤ n) (I : MI) (J : MJ) (τ : St) (hCS : CS I J τ) (x : Int32) : Ci l n ad cA D z 9 yX9_paper cX9_paper 4 .int I J [.ref (ad 0), .int x] (fun r I' J' => ∃ τ', q_paper τ x r τ' ∧ CS I' J' τ' ∧ Fr I I' J J') := by
  refine Ci.of (by decide) (Nat.le_of_ble_eq_true rfl) ?_
  intro p e s m args below meth c A C hin Z Q hret
  have hCS0 := hCS
  obtain ⟨hS, hKp, hM, hSil, hT, h16⟩ := hCS0
  obtain ⟨⟨hC, hco⟩, ⟨hP, hZ⟩, hK, hdu, hdu2, hse, hse2⟩ := hS
  have hnc : (sCl τ).1 ≤ 6 := hC.1
  have hnp : (sPp τ).1 ≤ 10 := hP.1
  have hnk : (sPk τ).1 ≤ 16 := hK.1
  have hL := hT.1
  have hop := @opN_lt (sPhi τ)
  have h386 : I 38 6 = nI (opN (sPhi τ)) := hM.2.1
  refine r_aload_n C 0 (dk oX9_paper 0 rfl) rfl ?_
  refine r_getR C (dk oX9_paper 1 rfl) fl_X9_33 rfl (kn hn rfl) ?_
  refine r_getR C (dk oX9_paper 2 rfl) fl_X9_62 rfl (kn hn rfl) ?_
  refine r_astore_n (lo' := [(2, _), (0, _), (1, _)]) C (dk oX9_paper 3 rfl) rfl (by decide) rfl ?_
  refine r_iload_n C 2 (dk oX9_paper 4 rfl) rfl ?_
  refine r_if_lt (tgt := 19) C (dk oX9_paper 5 rfl) (by decide) (fun hb9 => ?_) (fun hb9 => ?_)
  · refine r_ldc C (dk oX9_paper 9 rfl) kn_X9_70 ?_
    refine hret (dk oX9_paper 10 rfl) rfl ?_
    refine ⟨τ, ?_, hCS, Fr.rf I J⟩
    unfold q_paper
    rw [if_pos]
    · exact ⟨rfl, rfl⟩
    · first
        | exact fun q => lt0_vd hb9 q
        | exact fun q => hi_vd (n := 999) (by decide) hb16 q
  · refine r_iload_n C 2 (dk oX9_paper 6 rfl) rfl ?_
    refine r_sipush C (dk oX9_paper 7 rfl) (v := nI 999) (by decide) ?_
    refine r_icmp_le (tgt := 22) C (dk oX9_paper 8 rfl) (by decide) (fun hb16 => ?_) (fun hb16 => ?_)
    · have hvx : vdN x 1000 := vd_hi (n := 999) (by decide) hb9 hb16
      obtain ⟨d_, h_d_, hx_d_⟩ := vd_of (by decide) hvx
      subst hx_d_
      have hvd := vd_n h_d_ (by decide)
      have hld : ldN (sPp τ) < 1000 := by
        unfold ldN
        split
        · decide
        · exact (hP.2.2 _ (by show (sPp τ).1 - 1 < (sPp τ).1; omega)).2.1
      refine r_iload_n C 2 (dk oX9_paper 11 rfl) rfl ?_
      refine r_aload_n C 0 (dk oX9_paper 12 rfl) rfl ?_
      refine r_ivi C Z (dk oX9_paper 13 rfl) cl_X9_105 ci_X4_lastDay rfl (kn hn rfl) (c_X4_lastDay hn I J (sPp τ).1 (sPp τ).2.1 (sPp τ).2.2.1 (sPp τ).2.2.2 hP) rfl rfl (Nat.le_of_ble_eq_true rfl) ⟨Nat.le_of_ble_eq_true rfl, Nat.le_of_ble_eq_true rfl⟩ ⟨Nat.zero_le _, Nat.zero_le _⟩ (fun r24 I24 J24 h24 => ?_)
      obtain ⟨h24, e1_, e2_⟩ := h24
      have e1_ := e1_.symm
      have e2_ := e2_.symm
      subst e1_
      subst e2_
      subst h24
      refine r_icmp_ge (tgt := 33) C (dk oX9_paper 14 rfl) (by decide) (fun hb27 => ?_) (fun hb27 => ?_)
      · rw [show (if (sPp τ).1 = 0 then 0 else (sPp τ).2.1 ((sPp τ).1 - 1)) = ldN (sPp τ) from rfl] at hb27
        simp (disch := omega) only [nI_leI, nI_ltI, nI_eq, nI_eq0] at hb27
        refine r_aload_n C 0 (dk oX9_paper 17 rfl) rfl ?_
        refine r_getI C (dk oX9_paper 18 rfl) fl_X9_111 rfl (kn hn rfl) ?_
        rw [show I 19 0 = nI (sPp τ).1 from hP.2.1]
        refine r_bipush C (dk oX9_paper 19 rfl) (v := nI 10) (by decide) ?_
        refine r_icmp_lt (tgt := 45) C (dk oX9_paper 20 rfl) (by decide) (fun hb39 => ?_) (fun hb39 => ?_)
        · simp (disch := omega) only [nI_leI, nI_ltI, nI_eq, nI_eq0] at hb39
          refine r_aload_n C 1 (dk oX9_paper 23 rfl) rfl ?_
          refine r_getR C (dk oX9_paper 24 rfl) fl_X9_26 rfl (kn hn rfl) ?_
          refine r_aload_n C 1 (dk oX9_paper 25 rfl) rfl ?_
          refine r_getR C (dk oX9_paper 26 rfl) fl_X9_10 rfl (kn hn rfl) ?_
          refine r_aload_n C 1 (dk oX9_paper 27 rfl) rfl ?_
          refine r_getR C (dk oX9_paper 28 rfl) fl_X9_40 rfl (kn hn rfl) ?_
          refine r_aload_n C 0 (dk oX9_paper 29 rfl) rfl ?_
          refine r_getI C (dk oX9_paper 30 rfl) fl_X9_111 rfl (kn hn rfl) ?_
          rw [show I 19 0 = nI (sPp τ).1 from hP.2.1]
          refine r_iconst C (dk oX9_paper 31 rfl) (v := nI 2) (by decide) ?_
          refine r_irem C (dk oX9_paper 32 rfl) (by decide) ?_
          rw [mod2 (by omega)]
          refine r_ivv C Z (dk oX9_paper 33 rfl) cl_X9_112 ci_X3_read rfl (kn hn rfl) (c_X3_read hn I J (sT τ) (sL τ) hT (sPp τ).1 (by omega) (sPhi τ) hM.1) rfl rfl (Nat.le_of_ble_eq_true rfl) ⟨Nat.le_of_ble_eq_true rfl, Nat.le_of_ble_eq_true rfl⟩ ⟨Nat.zero_le _, Nat.zero_le _⟩ (fun I63 J63 h63 => ?_)
          obtain ⟨e2_, hg, fn, pl, a_, hPP, h5, h6f, hAc⟩ := h63
          have e2_ := e2_.symm
          subst e2_
          have hfn := hPP.1
          refine r_aload_n C 1 (dk oX9_paper 34 rfl) rfl ?_
          refine r_getR C (dk oX9_paper 35 rfl) fl_X9_10 rfl (kn hn rfl) ?_
          refine r_iconst C (dk oX9_paper 36 rfl) (v := nI 0) (by decide) ?_
          refine r_putI C (dk oX9_paper 37 rfl) fl_X9_71 ft_8_1 rfl (kn hn rfl) ?_
          have hF2 : ∀ k, k ≠ 1 → k ≠ 2 → k ≠ 3 → k ≠ 4 → k ≠ 6 → k ≠ 7 → up2 I63 1 1 (nI 0) k = I k := fun k a _ _ _ b c => by rw [up2_ne a]; exact hg.1 k a b c
          have hCS2 := hCS.rd (f := fn) (pl := pl) hF2 up2_at (by rw [up2_off (by decide)]; exact h6f)
          have h5f : up2 I63 1 1 (nI 0) 1 5 = nI fn := by rw [up2_off (by decide)]; exact h5
          refine r_aload_n C 1 (dk oX9_paper 38 rfl) rfl ?_
          refine r_getR C (dk oX9_paper 39 rfl) fl_X9_10 rfl (kn hn rfl) ?_
          refine r_ivi C Z (dk oX9_paper 40 rfl) cl_X9_94 ci_X8_isSound rfl (kn hn rfl) (c_X8_isSound hn (up2 I63 1 1 (nI 0)) J fn (by omega) h5f) rfl rfl (Nat.le_of_ble_eq_true rfl) ⟨Nat.le_of_ble_eq_true rfl, Nat.le_of_ble_eq_true rfl⟩ ⟨Nat.zero_le _, Nat.zero_le _⟩ (fun r78 I78 J78 h78 => ?_)
          obtain ⟨h78, e1_, e2_⟩ := h78
          have e1_ := e1_.symm
          have e2_ := e2_.symm
          subst e1_
          subst e2_
          subst h78
          refine r_if_ne (tgt := 95) C (dk oX9_paper 41 rfl) (by decide) (fun hb81 => ?_) (fun hb81 => ?_)
          · rw [b32_n, decide_eq_true_eq] at hb81
            subst hb81
            have hPP0 := hPP
            have hAc2 := hAc rfl
            refine r_aload_n C 0 (dk oX9_paper 48 rfl) rfl ?_
            refine r_iload_n C 2 (dk oX9_paper 49 rfl) rfl ?_
            refine r_aload_n C 1 (dk oX9_paper 50 rfl) rfl ?_
            refine r_getR C (dk oX9_paper 51 rfl) fl_X9_33 rfl (kn hn rfl) ?_
            refine r_getI C (dk oX9_paper 52 rfl) fl_X9_115 rfl (kn hn rfl) ?_
            rw [hF2 8 (by decide) (by decide) (by decide) (by decide) (by decide) (by decide), hdu]
            refine r_aload_n C 1 (dk oX9_paper 53 rfl) rfl ?_
            refine r_getR C (dk oX9_paper 54 rfl) fl_X9_26 rfl (kn hn rfl) ?_
            refine r_getR C (dk oX9_paper 55 rfl) fl_X9_118 rfl (kn hn rfl) ?_
            obtain ⟨X_, hX1, hX2⟩ := hCS2.zz.1.2.1.2
            refine r_ivi C Z (dk oX9_paper 56 rfl) cl_X9_122 ci_X4_add rfl (kn hn rfl) (c_X4_add hn (up2 I63 1 1 (nI 0)) J (sPp τ).1 (sPp τ).2.1 (sPp τ).2.2.1 (sPp τ).2.2.2 hCS2.zz.pp X_ hX1 hX2 d_ (sDu τ) h_d_ hdu2 (by omega) (by exact Nat.not_lt.mp (Nat.not_lt.mpr hb27)) hld) rfl rfl (Nat.le_of_ble_eq_true rfl) ⟨Nat.le_of_ble_eq_true rfl, Nat.le_of_ble_eq_true rfl⟩ ⟨Nat.zero_le _, Nat.zero_le _⟩ (fun r111 I111 J111 h111 => ?_)
            obtain ⟨e1_, e2_, e3_⟩ := h111
            have e1_ := e1_.symm
            have e2_ := e2_.symm
            subst e1_
            subst e2_
            have hX : I111 = up2 (cpA (up2 (up2 (up2 I63 1 1 (nI 0)) 19 1 (nI (ltS X_ (sPp τ).1 (decide (0 < (sPp τ).1 ∧ sDu τ < d_ - (sPp τ).2.1 ((sPp τ).1 - 1)))))) 20 (sPp τ).1 (nI d_)) 7 (23 + (sPp τ).1) 12) 19 0 (nI ((sPp τ).1 + 1)) := e3_
            have hF3 : ∀ k, k ≠ 19 → k ≠ 20 → k ≠ 21 → k ≠ 23 + (sPp τ).1 → I111 k = up2 I63 1 1 (nI 0) k := fun k a b _ d => by rw [hX, up2_ne a, cpA_ne d, up2_ne b, up2_ne a]
            have hY : I111 19 1 = nI (ltS X_ (sPp τ).1 (decide (0 < (sPp τ).1 ∧ sDu τ < d_ - (sPp τ).2.1 ((sPp τ).1 - 1)))) := by rw [hX, up2_off (by decide), cpA_ne (by omega), up2_ne (by decide), up2_at]
            have hY1 : ltS X_ (sPp τ).1 (decide (0 < (sPp τ).1 ∧ sDu τ < d_ - (sPp τ).2.1 ((sPp τ).1 - 1))) < 1024 := ltS_lt hX1 (by omega)
            have hC0 : CS0 I111 J (stP (rdS τ 0 pl) (adP (sPp τ) d_ (sDu τ) a_)) := by
              obtain ⟨⟨⟨c1, c2⟩, ⟨p1, p2⟩, k1, d1, d2, e1, e2⟩, h2, h3, h4, h5, h6⟩ := hCS2
              refine ⟨⟨⟨c1.cp (smC.rf (fun k a b => hF3 k (by omega) (by omega) (by omega) (by omega)) (fun _ _ _ => rfl)), c2⟩, ⟨⟨by show (sPp τ).1 + 1 ≤ 10; omega, by rw [hX, up2_at]; rfl, fun p hp => ?_⟩, ⟨_, hY1, hY⟩⟩, k1.cp (smK.rf (fun k a b => hF3 k (by omega) (by omega) (by omega) (by omega))), by rw [hF3 8 (by decide) (by decide) (by decide) (by omega)]; exact d1, d2, by rw [hF3 8 (by decide) (by decide) (by decide) (by omega)]; exact e1, e2⟩, fun i hi => ⟨by rw [hF3 116 (by decide) (by decide) (by decide) (by omega)]; exact (h2 i hi).1, fun hk => ((h2 i hi).2 hk).rf (fun k a b => hF3 k (by omega) (by omega) (by omega) (by omega)) (fun _ _ _ => rfl)⟩, ⟨h5.1, ?_, fun j hj => absurd hj (Nat.not_lt_zero _)⟩, ?_⟩
              · have hp2 : p < (sPp τ).1 + 1 := hp
                show _ = nI (if p = (sPp τ).1 then d_ else (sPp τ).2.1 p) ∧ (if p = (sPp τ).1 then d_ else (sPp τ).2.1 p) < 1000 ∧ ltOK I111 8 p (if p = (sPp τ).1 then decide (0 < (sPp τ).1 ∧ sDu τ < d_ - (sPp τ).2.1 ((sPp τ).1 - 1)) else (sPp τ).2.2.1 p) ∧ ∀ f, f < 12 → _ = nI ((if p = (sPp τ).1 then a_ else (sPp τ).2.2.2 p) f) ∧ (if p = (sPp τ).1 then a_ else (sPp τ).2.2.2 p) f ≤ 6
                by_cases e : p = (sPp τ).1
                · subst e
                  simp only [if_pos]
                  refine ⟨?_, h_d_, ?_, fun f hf => ⟨?_, hPP0.sm f⟩⟩
                  · rw [hX, up2_ne (by decide), cpA_ne (by omega), up2_at]
                  · exact ⟨_, hY1, hY, ltS_at⟩
                  · rw [hX, up2_ne (by omega), show 8 + 15 + (sPp τ).1 = 23 + (sPp τ).1 by omega, cpA_at hf, up2_ne (by decide), up2_ne (by decide), up2_ne (by decide)]
                    exact hAc2 f hf
                · simp only [if_neg e]
                  have q := p1.2.2 p (by show p < (sPp τ).1; omega)
                  refine ⟨?_, q.2.1, ?_, fun f hf => ⟨?_, (q.2.2.2 f hf).2⟩⟩
                  · rw [hX, up2_ne (by decide), cpA_ne (by omega), up2_off e, up2_ne (by decide)]; exact q.1
                  · exact ⟨_, hY1, hY, (ltS_ne e).trans (ltW.ok q.2.2.1 hX1 hX2)⟩
                  · rw [hF3 _ (by omega) (by omega) (by omega) (by omega)]; exact (q.2.2.2 f hf).1
              · rw [hF3 1 (by decide) (by decide) (by decide) (by omega)]; exact h5.2.1
              · rw [hF3 1 (by decide) (by decide) (by decide) (by omega)]; exact h6
            refine r_istore_n (lo' := [(3, _), (2, _), (0, _), (1, _)]) C (dk oX9_paper 57 rfl) rfl (by decide) rfl ?_
            refine r_aload_n C 2 (dk oX9_paper 58 rfl) rfl ?_
            refine r_getR C (dk oX9_paper 59 rfl) fl_X9_40 rfl (kn hn rfl) ?_
            refine r_aload_n C 1 (dk oX9_paper 60 rfl) rfl ?_
            refine r_iconst C (dk oX9_paper 61 rfl) (v := -1) (by decide) ?_
            refine r_ivv C Z (dk oX9_paper 62 rfl) cl_X9_66 ci_X2_replay rfl (kn hn rfl) (c38_X2_replay hn I111 J ((sPp τ).1 + 1) (adP (sPp τ) d_ (sDu τ) a_).2.1 (adP (sPp τ) d_ (sDu τ) a_).2.2.1 (adP (sPp τ) d_ (sDu τ) a_).2.2.2 hC0.pp (-1)) rfl rfl (Nat.le_of_ble_eq_true rfl) ⟨Nat.le_of_ble_eq_true rfl, Nat.le_of_ble_eq_true rfl⟩ ⟨Nat.zero_le _, Nat.zero_le _⟩ (fun I121 J121 h121 => ?_)
            obtain ⟨hM2, hS2, hF121, e2_⟩ := h121
            have e2_ := e2_.symm
            subst e2_
            have hCS3 := hC0.rp hM2 hS2 hF121
            refine r_iload_n C 0 (dk oX9_paper 63 rfl) rfl ?_
            refine hret (dk oX9_paper 64 rfl) rfl ?_
            exact ⟨stP (rdS τ 0 pl) (adP (sPp τ) d_ (sDu τ) a_), (by unfold q_paper; rw [if_neg (Classical.not_not.mpr hvd), cN_n (by omega), if_neg (by omega), if_neg (by omega)]; exact ⟨0, pl, a_, hPP0, by rw [if_pos rfl]; exact ⟨rfl, rfl⟩⟩), hCS3, Fr.trans ⟨fun k hk => by rw [hF3 k (by omega) (by omega) (by omega) (by omega)]; exact hF2 k (by omega) (by omega) (by omega) (by omega) (by omega) (by omega), fun _ _ => rfl⟩ hF121.fr⟩
          · rw [b32_0, decide_eq_false_iff_not] at hb81
            refine r_bipush C (dk oX9_paper 42 rfl) (v := -10) (by decide) ?_
            refine r_aload_n C 1 (dk oX9_paper 43 rfl) rfl ?_
            refine r_getR C (dk oX9_paper 44 rfl) fl_X9_10 rfl (kn hn rfl) ?_
            refine r_getI C (dk oX9_paper 45 rfl) fl_X9_98 rfl (kn hn rfl) ?_
            rw [h5f]
            refine r_isub C (dk oX9_paper 46 rfl) ?_
            refine hret (dk oX9_paper 47 rfl) rfl ?_
            exact ⟨rdS τ fn pl, (by unfold q_paper; rw [if_neg (Classical.not_not.mpr hvd), cN_n (by omega), if_neg (by omega), if_neg (by omega)]; exact ⟨fn, pl, a_, hPP, by rw [if_neg hb81]; exact ⟨rfl, rfl⟩⟩), hCS2, ⟨fun k hk => hF2 k (by omega) (by omega) (by omega) (by omega) (by omega) (by omega), fun _ _ => rfl⟩⟩
        · simp (disch := omega) only [nI_leI, nI_ltI, nI_eq, nI_eq0] at hb39
          refine r_ldc C (dk oX9_paper 21 rfl) kn_X9_75 ?_
          refine hret (dk oX9_paper 22 rfl) rfl ?_
          exact ⟨τ, (by unfold q_paper; rw [if_neg (Classical.not_not.mpr hvd), cN_n (by omega), if_neg (by omega), if_pos (by omega)]; exact ⟨rfl, rfl⟩), hCS, Fr.rf I J⟩
      · rw [show (if (sPp τ).1 = 0 then 0 else (sPp τ).2.1 ((sPp τ).1 - 1)) = ldN (sPp τ) from rfl] at hb27
        simp (disch := omega) only [nI_leI, nI_ltI, nI_eq, nI_eq0] at hb27
        refine r_ldc C (dk oX9_paper 15 rfl) kn_X9_80 ?_
        refine hret (dk oX9_paper 16 rfl) rfl ?_
        exact ⟨τ, (by unfold q_paper; rw [if_neg (Classical.not_not.mpr hvd), cN_n (by omega), if_pos (by omega)]; exact ⟨rfl, rfl⟩), hCS, Fr.rf I J⟩
    · refine r_ldc C (dk oX9_paper 9 rfl) kn_X9_70 ?_
      refine hret (dk oX9_paper 10 rfl) rfl ?_
      refine ⟨τ, ?_, hCS, Fr.rf I J⟩
      unfold q_paper
      rw [if_pos]
      · exact ⟨rfl, rfl⟩
      · first
          | exact fun q => lt0_vd hb9 q
          | exact fun q => hi_vd (n := 999) (by decide) hb16 q

end PUB5
