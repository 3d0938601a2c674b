section PUB3
variable {l : Launch} {n : Nat} {ad : Nat → Nat} {cA : Nat → ClassId} {D : va_G} {z : Zw}
/-- all but the facts -/
def CS0 (I : MI) (J : MJ) (τ : St) : Prop := CSu I J 8 τ.1 ∧ (∀ i, i < 2 → I 116 i = b32 (sKp τ i) ∧ (sKp τ i = true → CSu I J (56 + 30 * i) (sIm τ i))) ∧ Tx I (sT τ) (sL τ) ∧ I 1 6 = sF τ
theorem CS.zz {I : MI} {J : MJ} {τ : St} (h : CS I J τ) : CS0 I J τ := ⟨h.1, h.2.1, h.2.2.2.2.1, h.2.2.2.2.2⟩
theorem CS0.pp {I : MI} {J : MJ} {τ : St} (h : CS0 I J τ) : CPap I 8 (sPp τ).1 (sPp τ).2.1 (sPp τ).2.2.1 (sPp τ).2.2.2 := h.1.2.1.1
/-- the facts are heard anew -/
theorem CS0.rp {I I' : MI} {J : MJ} {τ : St} (h : CS0 I J τ) (h1 : Fc I' 38 (fun f => stF (sPp τ).2.2.2 (ltX (sPp τ).2.2.1 (-1)) f (sPp τ).1)) (h2 : ∀ p, p < (sPp τ).1 → I' 44 p = nI (silF (sPp τ).2.2.2 (ltX (sPp τ).2.2.1 (-1)) p)) (hF : faO I I' 38) : CS I' J τ := by
  have hnp : (sPp τ).1 ≤ 10 := h.pp.1
  have hx : ∀ p, p < (sPp τ).1 → ltX (sPp τ).2.2.1 (-1) p = (sPp τ).2.2.1 p := fun p hp => ltX_n (by omega)
  refine ⟨h.1.rf (fun k a b => hF k (by omega)) (fun _ _ _ => rfl), fun i hi => ⟨by rw [hF 116 (by decide)]; exact (h.2.1 i hi).1, fun hk => ((h.2.1 i hi).2 hk).rf (fun k a b => hF k (by omega)) (fun _ _ _ => rfl)⟩, h1.cong (fun f _ => stF_cong _ (fun j hj => ⟨hx j hj, rfl⟩)), fun p hp => ?_, ⟨h.2.2.1.1, ?_, fun j hj => ?_⟩, ?_⟩
  · rw [h2 p hp, silF_cong (fun j hj => ⟨hx j (by omega), fun _ _ => rfl⟩)]
  · rw [hF 1 (by decide)]; exact h.2.2.1.2.1
  · rw [hF 2 (by decide)]; exact h.2.2.1.2.2 j hj
  · rw [hF 1 (by decide)]; exact h.2.2.2
theorem faO.fr {I I' : MI} {J : MJ} (h : faO I I' 38) : Fr I I' J J := ⟨fun k hk => h k (by omega), fun _ _ => rfl⟩
theorem Fr.trans {I I1 I2 : MI} {J J1 J2 : MJ} (h1 : Fr I I1 J J1) (h2 : Fr I1 I2 J1 J2) : Fr I I2 J J2 := ⟨fun k hk => (h2.1 k hk).trans (h1.1 k hk), fun k hk => (h2.2 k hk).trans (h1.2 k hk)⟩
theorem Fr.up {I I1 : MI} {J J1 : MJ} (h : Fr I I1 J J1) {k i : Nat} {v : Int32} (hk : k < 117) : Fr I (up2 I1 k i v) J J1 := ⟨fun q hq => by rw [up2_ne (by omega)]; exact h.1 q hq, h.2⟩
theorem dr_1 {a : Nat} (h : a < 2 ^ 31) : (((nI a).toInt64 * 1103515245 + 12345) &&& 2147483647).toInt32 = nI (drS a) := by
  rw [nI_l h, show (1103515245 : Int64) = lN 1103515245 from rfl, show (12345 : Int64) = lN 12345 from rfl, show (2147483647 : Int64) = lN (2 ^ 31 - 1) from rfl, lN_mul, lN_add, fb_maskL, lN_i]
  rfl
theorem add_lt2 {a b c : Nat} (h : a + b ≤ c) (hc : c < 2 ^ 31) : nI a + nI b = nI (a + b) := nI_add a b
set_option maxHeartbeats 1000000 in
set_option maxRecDepth 100000 in
theorem c_X7_draw (hn : 117 ≤ n) (I : MI) (J : MJ) (se : Nat) (hse : I 8 4 = nI se) (hse2 : se < 2 ^ 31) : Ci l n ad cA D z 0 yX7_draw cX7_draw 2 .int I J [.ref (ad 8), .int (nI 1000)] (fun r I' J' => r = nI (drV se) ∧ I' = up2 I 8 4 (nI (drS se)) ∧ J' = J) := by
  refine Ci.of (by decide) (Nat.le_of_ble_eq_true rfl) ?_
  intro p e s m args below meth c A C hin Z Q hret
  refine r_aload_n C 0 (dk oX7_draw 0 rfl) rfl ?_
  refine r_aload_n C 0 (dk oX7_draw 1 rfl) rfl ?_
  refine r_getI C (dk oX7_draw 2 rfl) fl_X7_36 rfl (kn hn rfl) ?_
  rw [hse]
  refine r_i2l C (dk oX7_draw 3 rfl) ?_
  refine r_ldc2 C (dk oX7_draw 4 rfl) kn_X7_39 ?_
  refine r_lmul C (dk oX7_draw 5 rfl) ?_
  refine r_ldc2 C (dk oX7_draw 6 rfl) kn_X7_41 ?_
  refine r_ladd C (dk oX7_draw 7 rfl) ?_
  refine r_ldc2 C (dk oX7_draw 8 rfl) kn_X7_43 ?_
  refine r_land C (dk oX7_draw 9 rfl) ?_
  refine r_l2i C (dk oX7_draw 10 rfl) ?_
  rw [dr_1 hse2]
  have hdr := drS_lt se
  refine r_putI C (dk oX7_draw 11 rfl) fl_X7_36 ft_7_4 rfl (kn hn rfl) ?_
  refine r_iload_n C 1 (dk oX7_draw 12 rfl) rfl ?_
  refine r_iconst C (dk oX7_draw 13 rfl) (v := nI 1) (by decide) ?_
  refine r_icmp_ge (tgt := 31) C (dk oX7_draw 14 rfl) (by decide) (fun hb24 => ?_) (fun hb24 => absurd (by decide) hb24)
  refine r_aload_n C 0 (dk oX7_draw 17 rfl) rfl ?_
  refine r_getI C (dk oX7_draw 18 rfl) fl_X7_36 rfl (kn hn rfl) ?_
  rw [up2_at]
  refine r_ldc C (dk oX7_draw 19 rfl) kn_X7_45 ?_
  refine r_idiv C (dk oX7_draw 20 rfl) (by decide) ?_
  rw [show (65536 : Int32) = nI 65536 from rfl, pk_div (by omega) (by decide) (by decide)]
  have hdd : drS se / 65536 < 2 ^ 31 := by omega
  refine r_iload_n C 1 (dk oX7_draw 21 rfl) rfl ?_
  refine r_irem C (dk oX7_draw 22 rfl) (by decide) ?_
  rw [pk_rem (by omega) (by decide) (by decide)]
  refine hret (dk oX7_draw 23 rfl) rfl ?_
  exact ⟨rfl, rfl, rfl⟩

set_option maxHeartbeats 1000000 in
set_option maxRecDepth 100000 in
theorem c_X9_due (hn : 117 ≤ n) (I : MI) (J : MJ) (τ : St) (hCS : CS I J τ) (x : Int32) : Ci l n ad cA D z 0 yX9_due cX9_due 3 .int I J [.ref (ad 0), .int x] (fun r I' J' => r = (q_due τ x).1 ∧ CS I' J' (q_due τ x).2 ∧ Fr I I' J J') := by
  refine Ci.of (by decide) (Nat.le_of_ble_eq_true rfl) ?_
  intro p e s m args below meth c A C hin Z Q hret
  have hCS0 := hCS
  obtain ⟨hS, hKp, hM, hSil, hT, h16⟩ := hCS0
  obtain ⟨⟨hC, hco⟩, ⟨hP, hZ⟩, hK, hdu, hdu2, hse, hse2⟩ := hS
  have hnc : (sCl τ).1 ≤ 6 := hC.1
  have hnp : (sPp τ).1 ≤ 10 := hP.1
  have hnk : (sPk τ).1 ≤ 16 := hK.1
  have hL := hT.1
  have hop := @opN_lt (sPhi τ)
  have h386 : I 38 6 = nI (opN (sPhi τ)) := hM.2.1
  refine r_iload_n C 1 (dk oX9_due 0 rfl) rfl ?_
  refine r_iconst C (dk oX9_due 1 rfl) (v := nI 1) (by decide) ?_
  refine r_icmp_lt (tgt := 11) C (dk oX9_due 2 rfl) (by decide) (fun hb2 => ?_) (fun hb2 => ?_)
  · refine r_ldc C (dk oX9_due 6 rfl) kn_X9_70 ?_
    refine hret (dk oX9_due 7 rfl) rfl ?_
    have hq : x < nI 1 ∨ nI 99 < x := by
      first
        | exact Or.inl hb2
        | exact Or.inr (Int32.not_le.mp hb8)
    unfold q_due
    rw [if_pos hq]
    exact ⟨rfl, hCS, Fr.rf I J⟩
  · refine r_iload_n C 1 (dk oX9_due 3 rfl) rfl ?_
    refine r_bipush C (dk oX9_due 4 rfl) (v := nI 99) (by decide) ?_
    refine r_icmp_le (tgt := 14) C (dk oX9_due 5 rfl) (by decide) (fun hb8 => ?_) (fun hb8 => ?_)
    · have hq : ¬ (x < nI 1 ∨ nI 99 < x) := not_or_of hb2 (Int32.not_lt.mpr hb8)
      have hv : vdN x 100 := vd_hi (n := 99) (by decide) (fun q => hb2 (fa_trans q (show (0 : Int32) ≤ nI 1 by decide))) hb8
      obtain ⟨v_, h_v_, hx_v_⟩ := vd_of (by decide) hv
      subst hx_v_
      refine r_aload_n C 0 (dk oX9_due 8 rfl) rfl ?_
      refine r_getR C (dk oX9_due 9 rfl) fl_X9_33 rfl (kn hn rfl) ?_
      refine r_getI C (dk oX9_due 10 rfl) fl_X9_115 rfl (kn hn rfl) ?_
      rw [hdu]
      refine r_istore_n (lo' := [(2, _), (0, _), (1, _)]) C (dk oX9_due 11 rfl) rfl (by decide) rfl ?_
      refine r_aload_n C 1 (dk oX9_due 12 rfl) rfl ?_
      refine r_getR C (dk oX9_due 13 rfl) fl_X9_33 rfl (kn hn rfl) ?_
      refine r_iload_n C 2 (dk oX9_due 14 rfl) rfl ?_
      refine r_putI C (dk oX9_due 15 rfl) fl_X9_115 ft_7_3 rfl (kn hn rfl) ?_
      refine r_iload_n C 0 (dk oX9_due 16 rfl) rfl ?_
      refine hret (dk oX9_due 17 rfl) rfl ?_
      unfold q_due
      rw [if_neg hq, cN_n (by omega)]
      refine ⟨rfl, ⟨⟨⟨hC.cp (smC.rf (fun k a b => up2_ne (by omega)) (fun _ _ _ => rfl)), hco⟩, ⟨hP.cp (smP.rf (fun k a b => up2_ne (by omega))), hZ.rf (congrFun (up2_ne (by decide)) 1)⟩, hK.cp (smK.rf (fun k a b => up2_ne (by omega))), up2_at, h_v_, by rw [up2_off (by decide)]; exact hse, hse2⟩, fun i hi => ⟨by rw [up2_ne (by decide)]; exact (hKp i hi).1, fun hk => ((hKp i hi).2 hk).rf (fun k a b => up2_ne (by omega)) (fun _ _ _ => rfl)⟩, ⟨fun f hf i hi => by rw [up2_ne (by omega)]; exact hM.1 f hf i hi, by rw [up2_ne (by decide)]; exact hM.2.1, by rw [up2_ne (by decide)]; exact hM.2.2.1, by rw [up2_ne (by decide)]; exact hM.2.2.2⟩, fun p hp => by rw [up2_ne (by decide)]; exact hSil p hp, ⟨hT.1, by rw [up2_ne (by decide)]; exact hT.2.1, fun j hj => by rw [up2_ne (by decide)]; exact hT.2.2 j hj⟩, by rw [up2_ne (by decide)]; exact h16⟩, (Fr.rf I J).up (by decide)⟩
    · refine r_ldc C (dk oX9_due 6 rfl) kn_X9_70 ?_
      refine hret (dk oX9_due 7 rfl) rfl ?_
      have hq : x < nI 1 ∨ nI 99 < x := by
        first
          | exact Or.inl hb2
          | exact Or.inr (Int32.not_le.mp hb8)
      unfold q_due
      rw [if_pos hq]
      exact ⟨rfl, hCS, Fr.rf I J⟩

/-- another seed -/
theorem CS.se {I : MI} {J : MJ} {τ : St} {v : Nat} (hCS : CS I J τ) (hv : v < 2 ^ 31) : CS (up2 I 8 4 (nI v)) J (stE τ v) := by
  have hCS0 := hCS
  obtain ⟨hS, hKp, hM, hSil, hT, h16⟩ := hCS0
  obtain ⟨⟨hC, hco⟩, ⟨hP, hZ⟩, hK, hdu, hdu2, hse, hse2⟩ := hS
  have hnc : (sCl τ).1 ≤ 6 := hC.1
  have hnp : (sPp τ).1 ≤ 10 := hP.1
  have hnk : (sPk τ).1 ≤ 16 := hK.1
  have hL := hT.1
  have hop := @opN_lt (sPhi τ)
  have h386 : I 38 6 = nI (opN (sPhi τ)) := hM.2.1
  exact ⟨⟨⟨hC.cp (smC.rf (fun k a b => up2_ne (by omega)) (fun _ _ _ => rfl)), hco⟩, ⟨hP.cp (smP.rf (fun k a b => up2_ne (by omega))), hZ.rf (congrFun (up2_ne (by decide)) 1)⟩, hK.cp (smK.rf (fun k a b => up2_ne (by omega))), by rw [up2_off (by decide)]; exact hdu, hdu2, up2_at, hv⟩, fun i hi => ⟨by rw [up2_ne (by decide)]; exact (hKp i hi).1, fun hk => ((hKp i hi).2 hk).rf (fun k a b => up2_ne (by omega)) (fun _ _ _ => rfl)⟩, ⟨fun f hf i hi => by rw [up2_ne (by omega)]; exact hM.1 f hf i hi, by rw [up2_ne (by decide)]; exact hM.2.1, by rw [up2_ne (by decide)]; exact hM.2.2.1, by rw [up2_ne (by decide)]; exact hM.2.2.2⟩, fun p hp => by rw [up2_ne (by decide)]; exact hSil p hp, ⟨hT.1, by rw [up2_ne (by decide)]; exact hT.2.1, fun j hj => by rw [up2_ne (by decide)]; exact hT.2.2 j hj⟩, by rw [up2_ne (by decide)]; exact h16⟩
set_option maxHeartbeats 1000000 in
set_option maxRecDepth 100000 in
theorem c_X9_seed (hn : 117 ≤ n) (I : MI) (J : MJ) (τ : St) (hCS : CS I J τ) (x : Int32) : Ci l n ad cA D z 0 yX9_seed cX9_seed 3 .int I J [.ref (ad 0), .int x] (fun r I' J' => r = (q_seed τ x).1 ∧ CS I' J' (q_seed τ x).2 ∧ Fr I I' J J') := by
  refine Ci.of (by decide) (Nat.le_of_ble_eq_true rfl) ?_
  intro p e s m args below meth c A C hin Z Q hret
  have hCS0 := hCS
  obtain ⟨hS, hKp, hM, hSil, hT, h16⟩ := hCS0
  obtain ⟨⟨hC, hco⟩, ⟨hP, hZ⟩, hK, hdu, hdu2, hse, hse2⟩ := hS
  have hnc : (sCl τ).1 ≤ 6 := hC.1
  have hnp : (sPp τ).1 ≤ 10 := hP.1
  have hnk : (sPk τ).1 ≤ 16 := hK.1
  have hL := hT.1
  have hop := @opN_lt (sPhi τ)
  have h386 : I 38 6 = nI (opN (sPhi τ)) := hM.2.1
  refine r_iload_n C 1 (dk oX9_seed 0 rfl) rfl ?_
  refine r_if_ge (tgt := 7) C (dk oX9_seed 1 rfl) (by decide) (fun hb1 => ?_) (fun hb1 => ?_)
  · obtain ⟨v_, h_v_, hx_v_⟩ : ∃ v, v < 2 ^ 31 ∧ x = nI v := by
      have h0 := hb1
      rw [fa_le] at h0
      have h0 : 0 ≤ x.toInt := h0
      have h1 := Int32.toInt_lt x
      refine ⟨x.toInt.toNat, by omega, ?_⟩
      rw [fa_eq, nI_toI (by omega)]
      omega
    have hb1c := hb1
    subst hx_v_
    refine r_aload_n C 0 (dk oX9_seed 4 rfl) rfl ?_
    refine r_getR C (dk oX9_seed 5 rfl) fl_X9_33 rfl (kn hn rfl) ?_
    refine r_getI C (dk oX9_seed 6 rfl) fl_X9_284 rfl (kn hn rfl) ?_
    rw [hse]
    refine r_istore_n (lo' := [(2, _), (0, _), (1, _)]) C (dk oX9_seed 7 rfl) rfl (by decide) rfl ?_
    refine r_aload_n C 1 (dk oX9_seed 8 rfl) rfl ?_
    refine r_getR C (dk oX9_seed 9 rfl) fl_X9_33 rfl (kn hn rfl) ?_
    refine r_iload_n C 2 (dk oX9_seed 10 rfl) rfl ?_
    refine r_putI C (dk oX9_seed 11 rfl) fl_X9_284 ft_7_4 rfl (kn hn rfl) ?_
    refine r_iload_n C 0 (dk oX9_seed 12 rfl) rfl ?_
    refine hret (dk oX9_seed 13 rfl) rfl ?_
    unfold q_seed
    rw [if_neg (Int32.not_lt.mpr hb1c), cN_n h_v_]
    exact ⟨rfl, hCS.se h_v_, (Fr.rf I J).up (by decide)⟩
  · refine r_ldc C (dk oX9_seed 2 rfl) kn_X9_70 ?_
    refine hret (dk oX9_seed 3 rfl) rfl ?_
    unfold q_seed
    rw [if_pos (Int32.not_le.mp hb1)]
    exact ⟨rfl, hCS, Fr.rf I J⟩

theorem trN_t {op : Nat} {sh : Nat → Nat} {s f : Nat} (h : op.testBit f = true) : trN op sh s (f + 1) = (drS (trN op sh s f).1, if drV (trN op sh s f).1 < sh f then (trN op sh s f).2 ||| 2 ^ f else (trN op sh s f).2) := by
  conv => lhs; unfold trN
  rw [if_pos h]
theorem trN_f {op : Nat} {sh : Nat → Nat} {s f : Nat} (h : op.testBit f = false) : trN op sh s (f + 1) = trN op sh s f := by
  conv => lhs; unfold trN
  rw [if_neg (by rw [h]; decide)]
theorem stE_se (τ : St) (a : Nat) : sSe (stE τ a) = a := rfl
set_option maxHeartbeats 1000000 in
set_option maxRecDepth 100000 in
theorem c_X9_trial (hn : 117 ≤ n) (I : MI) (J : MJ) (τ : St) (hCS : CS I J τ) : Ci l n ad cA D z 3 yX9_trial cX9_trial 3 .int I J [.ref (ad 0)] (fun r I' J' => r = (q_trial τ).1 ∧ CS I' J' (q_trial τ).2 ∧ Fr I I' J J') := by
  refine Ci.of (by decide) (Nat.le_of_ble_eq_true rfl) ?_
  intro p e s m args below meth c A C hin Z Q hret
  have hCS0 := hCS
  obtain ⟨hS, hKp, hM, hSil, hT, h16⟩ := hCS0
  obtain ⟨⟨hC, hco⟩, ⟨hP, hZ⟩, hK, hdu, hdu2, hse, hse2⟩ := hS
  have hnc : (sCl τ).1 ≤ 6 := hC.1
  have hnp : (sPp τ).1 ≤ 10 := hP.1
  have hnk : (sPk τ).1 ≤ 16 := hK.1
  have hL := hT.1
  have hop := @opN_lt (sPhi τ)
  have h386 : I 38 6 = nI (opN (sPhi τ)) := hM.2.1
  refine r_aload_n C 0 (dk oX9_trial 0 rfl) rfl ?_
  refine r_getR C (dk oX9_trial 1 rfl) fl_X9_50 rfl (kn hn rfl) ?_
  refine r_aload_n C 0 (dk oX9_trial 2 rfl) rfl ?_
  refine r_getR C (dk oX9_trial 3 rfl) fl_X9_33 rfl (kn hn rfl) ?_
  refine r_getR C (dk oX9_trial 4 rfl) fl_X9_128 rfl (kn hn rfl) ?_
  refine r_aload_n C 0 (dk oX9_trial 5 rfl) rfl ?_
  refine r_getR C (dk oX9_trial 6 rfl) fl_X9_40 rfl (kn hn rfl) ?_
  refine r_aload_n C 0 (dk oX9_trial 7 rfl) rfl ?_
  refine r_getR C (dk oX9_trial 8 rfl) fl_X9_33 rfl (kn hn rfl) ?_
  refine r_getR C (dk oX9_trial 9 rfl) fl_X9_128 rfl (kn hn rfl) ?_
  refine r_getI C (dk oX9_trial 10 rfl) fl_X9_236 rfl (kn hn rfl) ?_
  rw [show I 33 1 = nI (brQ (sPk τ)) from hK.2.2.1]
  refine r_ivv C Z (dk oX9_trial 11 rfl) cl_X9_254 ci_X6_weighFacts rfl (kn hn rfl) (c38_X6_weighFacts hn I J (sPk τ) hK (sPhi τ) hM.1 (brQ (sPk τ)) (brN_16 hnk)) rfl rfl (Nat.le_of_ble_eq_true rfl) ⟨Nat.le_of_ble_eq_true rfl, Nat.le_of_ble_eq_true rfl⟩ ⟨Nat.zero_le _, Nat.zero_le _⟩ (fun I25 J25 h25 => ?_)
  obtain ⟨e2_, hF25, hV25⟩ := h25
  have e2_ := e2_.symm
  subst e2_
  have hF25 : ∀ k, k ≠ 53 → k ≠ 54 → I25 k = I k := fun k a _ => hF25 k a
  have hCS25 := hCS.q (qF.of hF25)
  refine r_iconst C (dk oX9_trial 12 rfl) (v := nI 0) (by decide) ?_
  refine r_istore_n (lo' := [(1, _), (0, _)]) C (dk oX9_trial 13 rfl) rfl (by decide) rfl ?_
  refine r_iconst C (dk oX9_trial 14 rfl) (v := nI 0) (by decide) ?_
  refine r_istore_n (lo' := [(2, _), (1, _), (0, _)]) C (dk oX9_trial 15 rfl) rfl (by decide) rfl ?_
  have L32 : ∀ (d_ : Nat) (f_ : Nat) (I1 : MI), 12 - f_ < d_ → f_ ≤ 12 → CS I1 J (stE τ (trN (opN (sPhi τ)) (shQ (sPk τ) (sPhi τ) (brQ (sPk τ))) (sSe τ) f_).1) → (∀ f, f < 12 → I1 53 f = nI (shQ (sPk τ) (sPhi τ) (brQ (sPk τ)) f)) → (∀ k, 117 ≤ k → I1 k = I k) → V p l e (rmL 3) s m args below meth c Q D A 3 0 0 n ad (mE cA ad I1 J) 32 [(0, .ref (ad 0)), (1, .int (nI (trN (opN (sPhi τ)) (shQ (sPk τ) (sPhi τ) (brQ (sPk τ))) (sSe τ) f_).2)), (2, .int (nI f_))] [] := by
    intro d_
    induction d_ with
    | zero => intros; exact absurd (by assumption) (Nat.not_lt_zero _)
    | succ d_ ih => 
      intro f_ I1 hd_ hf hCS1 hsh hFr
      have htr := @trN_ok (opN (sPhi τ)) (shQ (sPk τ) (sPhi τ) (brQ (sPk τ))) (sSe τ) hse2 f_
      refine r_iload_n C 2 (dk oX9_trial 16 rfl) rfl ?_
      refine r_bipush C (dk oX9_trial 17 rfl) (v := nI 12) (by decide) ?_
      refine r_icmp_ge (tgt := 86) C (dk oX9_trial 18 rfl) (by decide) (fun hb35 => ?_) (fun hb35 => ?_)
      · simp (disch := omega) only [nI_leI, nI_ltI, nI_eq, nI_eq0] at hb35
        refine r_aload_n C 0 (dk oX9_trial 43 rfl) rfl ?_
        refine r_getR C (dk oX9_trial 44 rfl) fl_X9_33 rfl (kn hn rfl) ?_
        refine r_getR C (dk oX9_trial 45 rfl) fl_X9_81 rfl (kn hn rfl) ?_
        refine r_aload_n C 0 (dk oX9_trial 46 rfl) rfl ?_
        refine r_getR C (dk oX9_trial 47 rfl) fl_X9_40 rfl (kn hn rfl) ?_
        refine r_iload_n C 1 (dk oX9_trial 48 rfl) rfl ?_
        refine r_ivi C Z (dk oX9_trial 49 rfl) cl_X9_193 ci_X2_soBy rfl (kn hn rfl) (c38_X2_soBy hn I1 J (trN (opN (sPhi τ)) (shQ (sPk τ) (sPhi τ) (brQ (sPk τ))) (sSe τ) f_).2 (bS (fun f => asB (sPhi τ f)) 12) (bS (fun f => onB (sPhi τ f)) 12) hCS1.2.2.1.2.2.2 hCS1.2.2.1.2.2.1) rfl rfl (Nat.le_of_ble_eq_true rfl) ⟨Nat.le_of_ble_eq_true rfl, Nat.le_of_ble_eq_true rfl⟩ ⟨Nat.zero_le _, Nat.zero_le _⟩ (fun r98 I98 J98 h98 => ?_)
        obtain ⟨h98, e1_, e2_⟩ := h98
        have e1_ := e1_.symm
        have e2_ := e2_.symm
        subst e1_
        subst e2_
        subst h98
        refine r_ivi C Z (dk oX9_trial 50 rfl) cl_X9_290 ci_X1_coinsOwed rfl (kn hn rfl) (c_X1_coinsOwed hn I1 J (soN (sPhi τ) (trN (opN (sPhi τ)) (shQ (sPk τ) (sPhi τ) (brQ (sPk τ))) (sSe τ) f_).2) (soN_lt (Nat.lt_of_lt_of_le htr.2 (show 2 ^ f_ ≤ 2 ^ 12 from Nat.pow_le_pow_right (by decide) hf))) (sCl τ).1 (sCl τ).2.1 (sCl τ).2.2 hCS1.1.1.1) rfl rfl (Nat.le_of_ble_eq_true rfl) ⟨Nat.le_of_ble_eq_true rfl, Nat.le_of_ble_eq_true rfl⟩ ⟨Nat.zero_le _, Nat.zero_le _⟩ (fun r101 I101 J101 h101 => ?_)
        obtain ⟨h101, e1_, e2_⟩ := h101
        have e1_ := e1_.symm
        have e2_ := e2_.symm
        subst e1_
        subst e2_
        subst h101
        refine hret (dk oX9_trial 51 rfl) rfl ?_
        have h12 : f_ = 12 := by omega
        subst h12
        exact ⟨rfl, hCS1, hFr, fun _ _ => rfl⟩
      · simp (disch := omega) only [nI_leI, nI_ltI, nI_eq, nI_eq0] at hb35
        refine r_aload_n C 0 (dk oX9_trial 19 rfl) rfl ?_
        refine r_getR C (dk oX9_trial 20 rfl) fl_X9_40 rfl (kn hn rfl) ?_
        refine r_getI C (dk oX9_trial 21 rfl) fl_X9_190 rfl (kn hn rfl) ?_
        rw [show I1 38 6 = nI (opN (sPhi τ)) from hCS1.2.2.1.2.1]
        refine r_iload_n C 2 (dk oX9_trial 22 rfl) rfl ?_
        refine r_isi C Z (dk oX9_trial 23 rfl) cl_X9_180 st_X9_has (c_X9_has I1 J (opN (sPhi τ)) f_ (by omega) (by omega)) rfl rfl (Nat.le_of_ble_eq_true rfl) ⟨Nat.le_of_ble_eq_true rfl, Nat.le_of_ble_eq_true rfl⟩ ⟨Nat.zero_le _, Nat.zero_le _⟩ (fun r46 I46 J46 h46 => ?_)
        obtain ⟨h46, e1_, e2_⟩ := h46
        have e1_ := e1_.symm
        have e2_ := e2_.symm
        subst e1_
        subst e2_
        subst h46
        refine r_if_eq (tgt := 80) C (dk oX9_trial 24 rfl) (by decide) (fun hb49 => ?_) (fun hb49 => ?_)
        · rw [b32_0] at hb49
          refine r_iinc (lo' := [(2, _), (0, _), (1, _)]) C 2 (dk oX9_trial 41 rfl) rfl (by first | exact nI_inc _ | rfl) (by decide) rfl ?_
          refine r_goto (tgt := 32) C (dk oX9_trial 42 rfl) (by decide) ?_
          refine V.sub [1, 2, 0] rfl ?_
          first
            | (have hih := ih (f_ + 1) I1 (by omega) (by omega) (by rw [trN_f hb49]; exact hCS1) hsh hFr
               rw [trN_f hb49] at hih
               exact hih)
            | (have hih := ih (f_ + 1) (up2 I1 8 4 (nI (drS (trN (opN (sPhi τ)) (shQ (sPk τ) (sPhi τ) (brQ (sPk τ))) (sSe τ) f_).1))) (by omega) (by omega) (by rw [trN_t hb49]; exact hCS1.se (drS_lt _)) (fun f hf => by rw [up2_ne (by decide)]; exact hsh f hf) (fun k hk => by rw [up2_ne (by omega)]; exact hFr k hk)
               rw [trN_t hb49] at hih
               first
                 | rw [if_neg (Nat.not_lt.mpr hb71)] at hih
                 | rw [if_pos (Nat.not_le.mp hb71)] at hih
               exact hih)
        · rw [b32_n] at hb49
          refine r_aload_n C 0 (dk oX9_trial 25 rfl) rfl ?_
          refine r_getR C (dk oX9_trial 26 rfl) fl_X9_33 rfl (kn hn rfl) ?_
          refine r_sipush C (dk oX9_trial 27 rfl) (v := nI 1000) (by decide) ?_
          refine r_ivi C Z (dk oX9_trial 28 rfl) cl_X9_287 ci_X7_draw rfl (kn hn rfl) (c_X7_draw hn I1 J (trN (opN (sPhi τ)) (shQ (sPk τ) (sPhi τ) (brQ (sPk τ))) (sSe τ) f_).1 hCS1.1.2.2.2.2.2.1 htr.1) rfl rfl (Nat.le_of_ble_eq_true rfl) ⟨Nat.le_of_ble_eq_true rfl, Nat.le_of_ble_eq_true rfl⟩ ⟨Nat.zero_le _, Nat.zero_le _⟩ (fun r59 I59 J59 h59 => ?_)
          obtain ⟨e1_, e2_, e3_⟩ := h59
          have e1_ := e1_.symm
          have e2_ := e2_.symm
          have e3_ := e3_.symm
          subst e1_
          subst e2_
          subst e3_
          refine r_aload_n C 0 (dk oX9_trial 29 rfl) rfl ?_
          refine r_getR C (dk oX9_trial 30 rfl) fl_X9_50 rfl (kn hn rfl) ?_
          refine r_getR C (dk oX9_trial 31 rfl) fl_X9_258 rfl (kn hn rfl) ?_
          refine r_iload_n C 2 (dk oX9_trial 32 rfl) rfl ?_
          refine r_iald C _ (dk oX9_trial 33 rfl) rfl (kn hn rfl) rfl (by omega) (by decide) ?_
          rw [show up2 I1 8 4 (nI (drS (trN (opN (sPhi τ)) (shQ (sPk τ) (sPhi τ) (brQ (sPk τ))) (sSe τ) f_).1)) 53 f_ = nI (shQ (sPk τ) (sPhi τ) (brQ (sPk τ)) f_) from by rw [up2_ne (by decide)]; exact hsh f_ (by omega)]
          have hs1 : shQ (sPk τ) (sPhi τ) (brQ (sPk τ)) f_ ≤ 1000 := shF_le
          have hdv : drV (trN (opN (sPhi τ)) (shQ (sPk τ) (sPhi τ) (brQ (sPk τ))) (sSe τ) f_).1 < 1000 := Nat.mod_lt _ (by decide)
          refine r_icmp_ge (tgt := 80) C (dk oX9_trial 34 rfl) (by decide) (fun hb71 => ?_) (fun hb71 => ?_)
          · simp (disch := omega) only [nI_leI, nI_ltI, nI_eq, nI_eq0] at hb71
            refine r_iinc (lo' := [(2, _), (0, _), (1, _)]) C 2 (dk oX9_trial 41 rfl) rfl (by first | exact nI_inc _ | rfl) (by decide) rfl ?_
            refine r_goto (tgt := 32) C (dk oX9_trial 42 rfl) (by decide) ?_
            refine V.sub [1, 2, 0] rfl ?_
            first
              | (have hih := ih (f_ + 1) I1 (by omega) (by omega) (by rw [trN_f hb49]; exact hCS1) hsh hFr
                 rw [trN_f hb49] at hih
                 exact hih)
              | (have hih := ih (f_ + 1) (up2 I1 8 4 (nI (drS (trN (opN (sPhi τ)) (shQ (sPk τ) (sPhi τ) (brQ (sPk τ))) (sSe τ) f_).1))) (by omega) (by omega) (by rw [trN_t hb49]; exact hCS1.se (drS_lt _)) (fun f hf => by rw [up2_ne (by decide)]; exact hsh f hf) (fun k hk => by rw [up2_ne (by omega)]; exact hFr k hk)
                 rw [trN_t hb49] at hih
                 first
                   | rw [if_neg (Nat.not_lt.mpr hb71)] at hih
                   | rw [if_pos (Nat.not_le.mp hb71)] at hih
                 exact hih)
          · simp (disch := omega) only [nI_leI, nI_ltI, nI_eq, nI_eq0] at hb71
            refine r_iload_n C 1 (dk oX9_trial 35 rfl) rfl ?_
            refine r_iconst C (dk oX9_trial 36 rfl) (v := nI 1) (by decide) ?_
            refine r_iload_n C 2 (dk oX9_trial 37 rfl) rfl ?_
            refine r_ishl C (dk oX9_trial 38 rfl) ?_
            refine r_ior C (dk oX9_trial 39 rfl) ?_
            rw [or_bit (by omega)]
            refine r_istore_n (lo' := [(1, _), (0, _), (2, _)]) C (dk oX9_trial 40 rfl) rfl (by decide) rfl ?_
            refine r_iinc (lo' := [(2, _), (1, _), (0, _)]) C 2 (dk oX9_trial 41 rfl) rfl (by first | exact nI_inc _ | rfl) (by decide) rfl ?_
            refine r_goto (tgt := 32) C (dk oX9_trial 42 rfl) (by decide) ?_
            refine V.sub [2, 1, 0] rfl ?_
            first
              | (have hih := ih (f_ + 1) I1 (by omega) (by omega) (by rw [trN_f hb49]; exact hCS1) hsh hFr
                 rw [trN_f hb49] at hih
                 exact hih)
              | (have hih := ih (f_ + 1) (up2 I1 8 4 (nI (drS (trN (opN (sPhi τ)) (shQ (sPk τ) (sPhi τ) (brQ (sPk τ))) (sSe τ) f_).1))) (by omega) (by omega) (by rw [trN_t hb49]; exact hCS1.se (drS_lt _)) (fun f hf => by rw [up2_ne (by decide)]; exact hsh f hf) (fun k hk => by rw [up2_ne (by omega)]; exact hFr k hk)
                 rw [trN_t hb49] at hih
                 first
                   | rw [if_neg (Nat.not_lt.mpr hb71)] at hih
                   | rw [if_pos (Nat.not_le.mp hb71)] at hih
                 exact hih)
  refine V.sub [2, 1, 0] rfl ?_
  exact L32 13 0 I25 (by omega) (Nat.zero_le _) hCS25 hV25 (fun k hk => hF25 k (by omega) (by omega))

set_option maxHeartbeats 1000000 in
set_option maxRecDepth 100000 in
theorem c_X9_without (hn : 117 ≤ n) (I : MI) (J : MJ) (τ : St) (hCS : CS I J τ) (x : Int32) : Ci l n ad cA D z 16 yX9_without cX9_without 2 .int I J [.ref (ad 0), .int x] (fun r I' J' => r = q_without τ x ∧ CS I' J' τ ∧ Fr I I' J J') := by
  refine Ci.of (by decide) (Nat.le_of_ble_eq_true rfl) ?_
  intro p e s m args below meth c A C hin Z Q hret
  have hCS0 := hCS
  obtain ⟨hS, hKp, hM, hSil, hT, h16⟩ := hCS0
  obtain ⟨⟨hC, hco⟩, ⟨hP, hZ⟩, hK, hdu, hdu2, hse, hse2⟩ := hS
  have hnc : (sCl τ).1 ≤ 6 := hC.1
  have hnp : (sPp τ).1 ≤ 10 := hP.1
  have hnk : (sPk τ).1 ≤ 16 := hK.1
  have hL := hT.1
  have hop := @opN_lt (sPhi τ)
  have h386 : I 38 6 = nI (opN (sPhi τ)) := hM.2.1
  refine r_aload_n C 0 (dk oX9_without 0 rfl) rfl ?_
  refine r_iload_n C 1 (dk oX9_without 1 rfl) rfl ?_
  refine r_ivi C Z (dk oX9_without 2 rfl) cl_X9_171 ci_X9_isPaper rfl (kn hn rfl) (c_X9_isPaper hn I J (sPp τ).1 (by omega) hP.2.1 x) rfl rfl (Nat.le_of_ble_eq_true rfl) ⟨Nat.le_of_ble_eq_true rfl, Nat.le_of_ble_eq_true rfl⟩ ⟨Nat.zero_le _, Nat.zero_le _⟩ (fun r2 I2 J2 h2 => ?_)
  obtain ⟨h2, e1_, e2_⟩ := h2
  have e1_ := e1_.symm
  have e2_ := e2_.symm
  subst e1_
  subst e2_
  subst h2
  refine r_if_ne (tgt := 11) C (dk oX9_without 3 rfl) (by decide) (fun hb5 => ?_) (fun hb5 => ?_)
  · rw [b32_n, decide_eq_true_eq] at hb5
    refine r_aload_n C 0 (dk oX9_without 6 rfl) rfl ?_
    refine r_getR C (dk oX9_without 7 rfl) fl_X9_44 rfl (kn hn rfl) ?_
    refine r_aload_n C 0 (dk oX9_without 8 rfl) rfl ?_
    refine r_getR C (dk oX9_without 9 rfl) fl_X9_33 rfl (kn hn rfl) ?_
    refine r_getR C (dk oX9_without 10 rfl) fl_X9_62 rfl (kn hn rfl) ?_
    refine r_iload_n C 1 (dk oX9_without 11 rfl) rfl ?_
    refine r_ivv C Z (dk oX9_without 12 rfl) cl_X9_66 ci_X2_replay rfl (kn hn rfl) (c45_X2_replay hn I J (sPp τ).1 (sPp τ).2.1 (sPp τ).2.2.1 (sPp τ).2.2.2 hP x) rfl rfl (Nat.le_of_ble_eq_true rfl) ⟨Nat.le_of_ble_eq_true rfl, Nat.le_of_ble_eq_true rfl⟩ ⟨Nat.zero_le _, Nat.zero_le _⟩ (fun I23 J23 h23 => ?_)
    obtain ⟨hM2, _, hF23, e2_⟩ := h23
    have e2_ := e2_.symm
    subst e2_
    refine r_aload_n C 0 (dk oX9_without 13 rfl) rfl ?_
    refine r_getR C (dk oX9_without 14 rfl) fl_X9_50 rfl (kn hn rfl) ?_
    refine r_aload_n C 0 (dk oX9_without 15 rfl) rfl ?_
    refine r_getR C (dk oX9_without 16 rfl) fl_X9_33 rfl (kn hn rfl) ?_
    refine r_aload_n C 0 (dk oX9_without 17 rfl) rfl ?_
    refine r_getR C (dk oX9_without 18 rfl) fl_X9_44 rfl (kn hn rfl) ?_
    refine r_aload_n C 0 (dk oX9_without 19 rfl) rfl ?_
    refine r_getR C (dk oX9_without 20 rfl) fl_X9_33 rfl (kn hn rfl) ?_
    refine r_getR C (dk oX9_without 21 rfl) fl_X9_128 rfl (kn hn rfl) ?_
    refine r_getI C (dk oX9_without 22 rfl) fl_X9_236 rfl (kn hn rfl) ?_
    rw [show I23 33 1 = nI (brQ (sPk τ)) from by rw [hF23 33 (by decide)]; exact hK.2.2.1]
    refine r_ivi C Z (dk oX9_without 23 rfl) cl_X9_261 ci_X6_weighClaims rfl (kn hn rfl) (c45_X6_weighClaims hn I23 J (sCl τ) (hC.cp (smC.rf (fun k a b => hF23 k (by omega)) (fun _ _ _ => rfl))) (sPk τ) (hK.cp (smK.rf (fun k a b => hF23 k (by omega)))) (fun f => stF (sPp τ).2.2.2 (ltX (sPp τ).2.2.1 x) f (sPp τ).1) hM2 (brQ (sPk τ)) (brN_16 hnk)) rfl rfl (Nat.le_of_ble_eq_true rfl) ⟨Nat.le_of_ble_eq_true rfl, Nat.le_of_ble_eq_true rfl⟩ ⟨Nat.zero_le _, Nat.zero_le _⟩ (fun r48 I48 J48 h48 => ?_)
    obtain ⟨e1_, e2_, hF48, _, _⟩ := h48
    have e1_ := e1_.symm
    have e2_ := e2_.symm
    subst e1_
    subst e2_
    have hq : qF I I48 := fun k hk => (hF48 k (by omega) (by omega)).trans (hF23 k (by omega))
    refine hret (dk oX9_without 24 rfl) rfl ?_
    exact ⟨(if_pos hb5).symm, hCS.q hq, hq.fr⟩
  · rw [b32_0, decide_eq_false_iff_not] at hb5
    refine r_ldc C (dk oX9_without 4 rfl) kn_X9_143 ?_
    refine hret (dk oX9_without 5 rfl) rfl ?_
    exact ⟨(if_neg hb5).symm, hCS, Fr.rf I J⟩

set_option maxHeartbeats 1000000 in
set_option maxRecDepth 100000 in
theorem c_X9_strike (hn : 117 ≤ n) (I : MI) (J : MJ) (τ : St) (hCS : CS I J τ) : Ci l n ad cA D z 4 yX9_strike cX9_strike 1 .int I J [.ref (ad 0)] (fun r I' J' => r = (q_strike τ).1 ∧ CS I' J' (q_strike τ).2 ∧ Fr I I' J J') := by
  refine Ci.of (by decide) (Nat.le_of_ble_eq_true rfl) ?_
  intro p e s m args below meth c A C hin Z Q hret
  have hCS0 := hCS
  obtain ⟨hS, hKp, hM, hSil, hT, h16⟩ := hCS0
  obtain ⟨⟨hC, hco⟩, ⟨hP, hZ⟩, hK, hdu, hdu2, hse, hse2⟩ := hS
  have hnc : (sCl τ).1 ≤ 6 := hC.1
  have hnp : (sPp τ).1 ≤ 10 := hP.1
  have hnk : (sPk τ).1 ≤ 16 := hK.1
  have hL := hT.1
  have hop := @opN_lt (sPhi τ)
  have h386 : I 38 6 = nI (opN (sPhi τ)) := hM.2.1
  refine r_aload_n C 0 (dk oX9_strike 0 rfl) rfl ?_
  refine r_getR C (dk oX9_strike 1 rfl) fl_X9_33 rfl (kn hn rfl) ?_
  refine r_getR C (dk oX9_strike 2 rfl) fl_X9_62 rfl (kn hn rfl) ?_
  refine r_getI C (dk oX9_strike 3 rfl) fl_X9_111 rfl (kn hn rfl) ?_
  rw [show I 19 0 = nI (sPp τ).1 from hP.2.1]
  refine r_iconst C (dk oX9_strike 4 rfl) (v := nI 1) (by decide) ?_
  refine r_icmp_ge (tgt := 17) C (dk oX9_strike 5 rfl) (by decide) (fun hb11 => ?_) (fun hb11 => ?_)
  · simp (disch := omega) only [nI_leI, nI_ltI, nI_eq, nI_eq0] at hb11
    refine r_aload_n C 0 (dk oX9_strike 8 rfl) rfl ?_
    refine r_getR C (dk oX9_strike 9 rfl) fl_X9_33 rfl (kn hn rfl) ?_
    refine r_getR C (dk oX9_strike 10 rfl) fl_X9_62 rfl (kn hn rfl) ?_
    refine r_dup C (dk oX9_strike 11 rfl) rfl ?_
    refine r_getI C (dk oX9_strike 12 rfl) fl_X9_111 rfl (kn hn rfl) ?_
    rw [show I 19 0 = nI (sPp τ).1 from hP.2.1]
    refine r_iconst C (dk oX9_strike 13 rfl) (v := nI 1) (by decide) ?_
    refine r_isub C (dk oX9_strike 14 rfl) ?_
    rw [pk_sub (by omega)]
    refine r_putI C (dk oX9_strike 15 rfl) fl_X9_111 ft_4_0 rfl (kn hn rfl) ?_
    have hC0 : CS0 (up2 I 19 0 (nI ((sPp τ).1 - 1))) J (stP τ ((sPp τ).1 - 1, (sPp τ).2)) := by
      refine ⟨⟨⟨hC.cp (smC.rf (fun k a b => up2_ne (by omega)) (fun _ _ _ => rfl)), hco⟩, ⟨⟨by show (sPp τ).1 - 1 ≤ 10; omega, up2_at, fun p hp => ?_⟩, hZ.rf (up2_off (by decide))⟩, hK.cp (smK.rf (fun k a b => up2_ne (by omega))), by rw [up2_ne (by decide)]; exact hdu, hdu2, by rw [up2_ne (by decide)]; exact hse, hse2⟩, fun i hi => ⟨by rw [up2_ne (by decide)]; exact (hKp i hi).1, fun hk => ((hKp i hi).2 hk).rf (fun k a b => up2_ne (by omega)) (fun _ _ _ => rfl)⟩, ⟨hT.1, by rw [up2_ne (by decide)]; exact hT.2.1, fun j hj => by rw [up2_ne (by decide)]; exact hT.2.2 j hj⟩, by rw [up2_ne (by decide)]; exact h16⟩
      have hp2 : p < (sPp τ).1 := by
        have hp3 : p < (sPp τ).1 - 1 := hp
        omega
      have q := hP.2.2 p hp2
      exact ⟨by rw [up2_ne (by decide)]; exact q.1, q.2.1, q.2.2.1.rf (up2_off (by decide)), fun f hf => ⟨by rw [up2_ne (by omega)]; exact (q.2.2.2 f hf).1, (q.2.2.2 f hf).2⟩⟩
    refine r_aload_n C 0 (dk oX9_strike 16 rfl) rfl ?_
    refine r_getR C (dk oX9_strike 17 rfl) fl_X9_40 rfl (kn hn rfl) ?_
    refine r_aload_n C 0 (dk oX9_strike 18 rfl) rfl ?_
    refine r_getR C (dk oX9_strike 19 rfl) fl_X9_33 rfl (kn hn rfl) ?_
    refine r_getR C (dk oX9_strike 20 rfl) fl_X9_62 rfl (kn hn rfl) ?_
    refine r_iconst C (dk oX9_strike 21 rfl) (v := -1) (by decide) ?_
    refine r_ivv C Z (dk oX9_strike 22 rfl) cl_X9_66 ci_X2_replay rfl (kn hn rfl) (c38_X2_replay hn (up2 I 19 0 (nI ((sPp τ).1 - 1))) J ((sPp τ).1 - 1) (sPp τ).2.1 (sPp τ).2.2.1 (sPp τ).2.2.2 hC0.pp (-1)) rfl rfl (Nat.le_of_ble_eq_true rfl) ⟨Nat.le_of_ble_eq_true rfl, Nat.le_of_ble_eq_true rfl⟩ ⟨Nat.zero_le _, Nat.zero_le _⟩ (fun I45 J45 h45 => ?_)
    obtain ⟨hM2, hS2, hF45, e2_⟩ := h45
    have e2_ := e2_.symm
    subst e2_
    have hCS2 := hC0.rp hM2 hS2 hF45
    refine r_aload_n C 0 (dk oX9_strike 23 rfl) rfl ?_
    refine r_getR C (dk oX9_strike 24 rfl) fl_X9_33 rfl (kn hn rfl) ?_
    refine r_getR C (dk oX9_strike 25 rfl) fl_X9_62 rfl (kn hn rfl) ?_
    refine r_getI C (dk oX9_strike 26 rfl) fl_X9_111 rfl (kn hn rfl) ?_
    rw [hF45 19 (by decide), up2_at]
    refine hret (dk oX9_strike 27 rfl) rfl ?_
    unfold q_strike
    rw [if_neg (by omega)]
    exact ⟨rfl, hCS2, ((Fr.rf I J).up (by decide)).trans hF45.fr⟩
  · simp (disch := omega) only [nI_leI, nI_ltI, nI_eq, nI_eq0] at hb11
    refine r_ldc C (dk oX9_strike 6 rfl) kn_X9_80 ?_
    refine hret (dk oX9_strike 7 rfl) rfl ?_
    unfold q_strike
    rw [if_pos (by omega)]
    exact ⟨rfl, hCS, Fr.rf I J⟩

end PUB3
