section PUB4
variable {l : Launch} {n : Nat} {ad : Nat → Nat} {cA : Nat → ClassId} {D : va_G} {z : Zw}
theorem fd_1 {X : Int64} {i : Nat} (hi : i < 8) : (((X.toUInt64 >>> ((nI 8 * nI i).toInt64.toUInt64 &&& Int64.toUInt64 63)).toInt64).toInt32 &&& nI 255) = nI (fdB X i) := by
  obtain ⟨m, hm, rfl⟩ := wb_of X
  rw [pk_mul, wb_shr hm (by omega), lN_i, show (255 : Nat) = 2 ^ 8 - 1 from rfl, fa_mask]
  unfold fdB
  rw [wb_tn hm]
theorem fdB_lt {X : Int64} {i : Nat} : fdB X i < 256 := Nat.mod_lt _ (by decide)
/-- the text grows by one -/
theorem CS.ap {I : MI} {J : MJ} {τ : St} {v : Nat} {t : Nat → Nat} {L : Nat} {q : Su} {im : Nat → Su} {kp : Nat → Bool} {fl : Int32} (h : CS I J (q, im, kp, t, L, fl)) (hv : v < 256) (hL : L < 160) : CS (up2 (up2 I 2 L (nI v)) 1 1 (nI (L + 1))) J (q, im, kp, (fun j => if j = L then v else t j), L + 1, fl) := by
  obtain ⟨h1, h2, h3, h4, h5, h6⟩ := h
  have hF : ∀ k, 2 < k → up2 (up2 I 2 L (nI v)) 1 1 (nI (L + 1)) k = I k := fun k hk => by rw [up2_ne (by omega), up2_ne (by omega)]
  refine ⟨h1.rf (fun k a b => hF k (by omega)) (fun _ _ _ => rfl), fun i hi => ⟨by rw [hF 116 (by decide)]; exact (h2 i hi).1, fun hk => ((h2 i hi).2 hk).rf (fun k a b => hF k (by omega)) (fun _ _ _ => rfl)⟩, ⟨fun f hf i hi => ?_, ?_, ?_, ?_⟩, fun p hp => ?_, ⟨by show L + 1 ≤ 160; omega, up2_at, fun j hj => ?_⟩, ?_⟩
  · rw [hF (38 + 1 + i) (by omega)]; exact h3.1 f hf i hi
  · rw [hF 38 (by decide)]; exact h3.2.1
  · rw [hF 38 (by decide)]; exact h3.2.2.1
  · rw [hF 38 (by decide)]; exact h3.2.2.2
  · rw [hF 44 (by decide)]; exact h4 p hp
  · show (if j = L then v else t j) < 256 ∧ _ = nI (if j = L then v else t j)
    rw [up2_ne (by decide)]
    by_cases e : j = L
    · rw [if_pos e, e, up2_at]; exact ⟨hv, rfl⟩
    · have hj2 : j < L + 1 := hj
      rw [if_neg e, up2_off e]; exact h5.2.2 j (by show j < L; omega)
  · rw [up2_off (by decide), up2_ne (by decide)]; exact h6
/-- the text behind i of k bytes -/
def fdU (τ : St) (k : Nat) (X : Int64) (i : Nat) : Nat → Nat := fun j => if j < sL τ ∨ sL τ + i ≤ j then sT τ j else fdB X (k - 1 - (j - sL τ))
theorem fdU_0 (τ : St) (k : Nat) (X : Int64) : fdU τ k X 0 = sT τ := by
  funext j
  unfold fdU
  rw [if_pos (by omega)]
theorem fdU_s (τ : St) (k : Nat) (X : Int64) (i : Nat) : (fun j => if j = sL τ + i then fdB X (k - 1 - i) else fdU τ k X i j) = fdU τ k X (i + 1) := by
  funext j
  show (if j = sL τ + i then _ else fdU τ k X i j) = _
  unfold fdU
  by_cases e : j = sL τ + i
  · rw [if_pos e, if_neg (by omega), show j - sL τ = i by omega]
  · rw [if_neg e]
    by_cases e2 : j < sL τ ∨ sL τ + i ≤ j
    · rw [if_pos e2, if_pos (by omega)]
    · rw [if_neg e2, if_neg (by omega)]
theorem CS.tc {I : MI} {J : MJ} {q : Su} {im : Nat → Su} {kp : Nat → Bool} {t t' : Nat → Nat} {L : Nat} {fl : Int32} (h : CS I J (q, im, kp, t, L, fl)) (e : ∀ j, j < L → t j = t' j) : CS I J (q, im, kp, t', L, fl) := by
  obtain ⟨h1, h2, h3, h4, h5, h6⟩ := h
  refine ⟨h1, h2, h3, h4, ⟨h5.1, h5.2.1, fun j hj => ?_⟩, h6⟩
  show t' j < 256 ∧ _ = nI (t' j)
  rw [← e j hj]
  exact h5.2.2 j hj
set_option maxHeartbeats 1000000 in
set_option maxRecDepth 100000 in
theorem c_X9_feed (hn : 117 ≤ n) (I : MI) (J : MJ) (τ : St) (hCS : CS I J τ) (x : Int32) (X : Int64) : Ci l n ad cA D z 1 yX9_feed cX9_feed 5 .int I J [.ref (ad 0), .int x, .long X] (fun r I' J' => r = (q_feed τ x X).1 ∧ CS I' J' (q_feed τ x X).2 ∧ Fr I I' J J') := by
  refine Ci.of (by decide) (Nat.le_of_ble_eq_true rfl) ?_
  intro p e s m args below meth c A C hin Z Q hret
  have hCS0 := hCS
  obtain ⟨hS, hKp, hM, hSil, hT, h16⟩ := hCS0
  obtain ⟨⟨hC, hco⟩, ⟨hP, hZ⟩, hK, hdu, hdu2, hse, hse2⟩ := hS
  have hnc : (sCl τ).1 ≤ 6 := hC.1
  have hnp : (sPp τ).1 ≤ 10 := hP.1
  have hnk : (sPk τ).1 ≤ 16 := hK.1
  have hL := hT.1
  have hop := @opN_lt (sPhi τ)
  have h386 : I 38 6 = nI (opN (sPhi τ)) := hM.2.1
  refine r_iload_n C 1 (dk oX9_feed 0 rfl) rfl ?_
  refine r_iconst C (dk oX9_feed 1 rfl) (v := nI 1) (by decide) ?_
  refine r_icmp_lt (tgt := 11) C (dk oX9_feed 2 rfl) (by decide) (fun hb2 => ?_) (fun hb2 => ?_)
  · refine r_ldc C (dk oX9_feed 6 rfl) kn_X9_70 ?_
    refine hret (dk oX9_feed 7 rfl) rfl ?_
    have hq : x < nI 1 ∨ nI 8 < x := by
      first
        | exact Or.inl hb2
        | exact Or.inr (Int32.not_le.mp hb8)
    unfold q_feed
    rw [if_pos hq]
    exact ⟨rfl, hCS, Fr.rf I J⟩
  · refine r_iload_n C 1 (dk oX9_feed 3 rfl) rfl ?_
    refine r_bipush C (dk oX9_feed 4 rfl) (v := nI 8) (by decide) ?_
    refine r_icmp_le (tgt := 14) C (dk oX9_feed 5 rfl) (by decide) (fun hb8 => ?_) (fun hb8 => ?_)
    · have hq : ¬ (x < nI 1 ∨ nI 8 < x) := not_or_of hb2 (Int32.not_lt.mpr hb8)
      have hv : vdN x 9 := vd_hi (n := 8) (by decide) (fun q => hb2 (fa_trans q (show (0 : Int32) ≤ nI 1 by decide))) hb8
      obtain ⟨k_, h_k_, hx_k_⟩ := vd_of (by decide) hv
      subst hx_k_
      have hk1 : 1 ≤ k_ := by
        have h0 := hb2
        simp (disch := omega) only [nI_ltI] at h0
        omega
      refine r_aload_n C 0 (dk oX9_feed 8 rfl) rfl ?_
      refine r_getR C (dk oX9_feed 9 rfl) fl_X9_10 rfl (kn hn rfl) ?_
      refine r_getI C (dk oX9_feed 10 rfl) fl_X9_71 rfl (kn hn rfl) ?_
      rw [hT.2.1]
      refine r_iload_n C 1 (dk oX9_feed 11 rfl) rfl ?_
      refine r_iadd C (dk oX9_feed 12 rfl) ?_
      rw [nI_add]
      refine r_sipush C (dk oX9_feed 13 rfl) (v := nI 160) (by decide) ?_
      refine r_icmp_le (tgt := 32) C (dk oX9_feed 14 rfl) (by decide) (fun hb26 => ?_) (fun hb26 => ?_)
      · simp (disch := omega) only [nI_leI, nI_ltI, nI_eq, nI_eq0] at hb26
        refine r_iload_n C 1 (dk oX9_feed 17 rfl) rfl ?_
        refine r_iconst C (dk oX9_feed 18 rfl) (v := nI 1) (by decide) ?_
        refine r_isub C (dk oX9_feed 19 rfl) ?_
        rw [show nI k_ - nI 1 = nI k_ + Int32.ofInt (-1) from by rw [nI_dec (by omega), pk_sub (by omega)]]
        refine r_istore (lo' := [(4, _), (0, _), (1, _), (2, _)]) C (dk oX9_feed 20 rfl) (by decide) rfl ?_
        have L37 : ∀ (d_ : Nat) (j_ : Nat) (I1 : MI), j_ < d_ → j_ ≤ k_ → CS I1 J (τ.1, sIm τ, sKp τ, fdU τ k_ X (k_ - j_), sL τ + (k_ - j_), sF τ) → (∀ k, 117 ≤ k → I1 k = I k) → V p l e (rmL 1) s m args below meth c Q D A 5 0 0 n ad (mE cA ad I1 J) 37 [(0, .ref (ad 0)), (1, .int (nI k_)), (2, .long X), (4, .int (nI j_ + Int32.ofInt (-1)))] [] := by
          intro d_
          induction d_ with
          | zero => intros; exact absurd (by assumption) (Nat.not_lt_zero _)
          | succ d_ ih => 
            intro j_ I1 hd_ hj hCS1 hFr
            refine r_iload C 3 (dk oX9_feed 21 rfl) rfl ?_
            refine r_if_lt (tgt := 67) C (dk oX9_feed 22 rfl) (by decide) (fun hb39 => ?_) (fun hb39 => ?_)
            · rw [dec_lt (by omega)] at hb39
              refine r_aload_n C 0 (dk oX9_feed 36 rfl) rfl ?_
              refine r_getR C (dk oX9_feed 37 rfl) fl_X9_10 rfl (kn hn rfl) ?_
              refine r_getI C (dk oX9_feed 38 rfl) fl_X9_71 rfl (kn hn rfl) ?_
              rw [hCS1.2.2.2.2.1.2.1]
              refine hret (dk oX9_feed 39 rfl) rfl ?_
              unfold q_feed
              rw [if_neg hq, cN_n (by omega), if_neg (by omega)]
              subst hb39
              refine ⟨rfl, hCS1.tc (fun j hj => ?_), hFr, fun _ _ => rfl⟩
              have hj2 : j < sL τ + (k_ - 0) := hj
              show fdU τ k_ X (k_ - 0) j = if j < sL τ then _ else _
              unfold fdU
              by_cases e : j < sL τ
              · rw [if_pos (Or.inl e), if_pos e]
              · rw [if_neg (by omega), if_neg e]
            · rw [dec_lt (by omega)] at hb39
              rw [nI_dec (by omega)]
              refine r_aload_n C 0 (dk oX9_feed 23 rfl) rfl ?_
              refine r_getR C (dk oX9_feed 24 rfl) fl_X9_10 rfl (kn hn rfl) ?_
              refine r_lload_n C 2 (dk oX9_feed 25 rfl) rfl ?_
              refine r_bipush C (dk oX9_feed 26 rfl) (v := nI 8) (by decide) ?_
              refine r_iload C 3 (dk oX9_feed 27 rfl) rfl ?_
              refine r_imul C (dk oX9_feed 28 rfl) ?_
              refine r_lushr C (dk oX9_feed 29 rfl) ?_
              refine r_l2i C (dk oX9_feed 30 rfl) ?_
              refine r_sipush C (dk oX9_feed 31 rfl) (v := nI 255) (by decide) ?_
              refine r_iand C (dk oX9_feed 32 rfl) ?_
              rw [fd_1 (by omega)]
              refine r_ivv C Z (dk oX9_feed 33 rfl) cl_X9_76 ci_X8_append rfl (kn hn rfl) (c_X8_append hn I1 J (fdU τ k_ X (k_ - j_)) (sL τ + (k_ - j_)) (fdB X (j_ - 1)) hCS1.2.2.2.2.1 (by omega)) rfl rfl (Nat.le_of_ble_eq_true rfl) ⟨Nat.le_of_ble_eq_true rfl, Nat.le_of_ble_eq_true rfl⟩ ⟨Nat.zero_le _, Nat.zero_le _⟩ (fun I58 J58 h58 => ?_)
              obtain ⟨e1_, e2_⟩ := h58
              have e1_ := e1_.symm
              have e2_ := e2_.symm
              subst e1_
              subst e2_
              refine r_iinc (lo' := [(4, _), (0, _), (1, _), (2, _)]) C 3 (dk oX9_feed 34 rfl) rfl rfl (by decide) rfl ?_
              refine r_goto (tgt := 37) C (dk oX9_feed 35 rfl) (by decide) ?_
              refine V.sub [1, 2, 3, 0] rfl ?_
              refine ih (j_ - 1) _ (by omega) (by omega) ?_ (fun k hk => by rw [up2_ne (by omega), up2_ne (by omega)]; exact hFr k hk)
              have h2 := hCS1.ap (τ := τ) (v := fdB X (j_ - 1)) fdB_lt (show sL τ + (k_ - j_) < 160 by omega)
              rw [show k_ - (j_ - 1) = (k_ - j_) + 1 by omega, ← fdU_s]
              rw [show k_ - 1 - (k_ - j_) = j_ - 1 by omega]
              exact h2
        refine V.sub [1, 2, 3, 0] rfl ?_
        refine L37 (k_ + 1) k_ I (by omega) (Nat.le_refl _) ?_ (fun _ _ => rfl)
        rw [Nat.sub_self, fdU_0]
        exact hCS
      · simp (disch := omega) only [nI_leI, nI_ltI, nI_eq, nI_eq0] at hb26
        refine r_ldc C (dk oX9_feed 15 rfl) kn_X9_75 ?_
        refine hret (dk oX9_feed 16 rfl) rfl ?_
        unfold q_feed
        rw [if_neg hq, cN_n (by omega), if_pos (by omega)]
        exact ⟨rfl, hCS, Fr.rf I J⟩
    · refine r_ldc C (dk oX9_feed 6 rfl) kn_X9_70 ?_
      refine hret (dk oX9_feed 7 rfl) rfl ?_
      have hq : x < nI 1 ∨ nI 8 < x := by
        first
          | exact Or.inl hb2
          | exact Or.inr (Int32.not_le.mp hb8)
      unfold q_feed
      rw [if_pos hq]
      exact ⟨rfl, hCS, Fr.rf I J⟩

theorem cHd_le {t : Nat → Nat} {L : Nat} (h : (cHd t L).1 = 0) : (cHd t L).2 ≤ L ∧ nmV t L (cP1 t L) ≤ 999 := by
  have h0 : sk t L 0 ≤ L := sk_le (Nat.zero_le _)
  unfold cHd at h ⊢
  split at h
  · rename_i h1
    rw [if_pos h1]
    have h3 : sk t L 0 + 3 ≤ L := by
      rcases h1 with h1 | h1
      · exact isW_lt (w := sWd 0) h0 h1
      · exact isW_lt (w := sWd 1) h0 h1
    have hp1 : cP1 t L ≤ L := sk_le h3
    have hp2 : cP2 t L ≤ L := sk_le (nE_le hp1)
    split at h
    · rename_i h4
      rw [if_pos h4]
      split at h
      · rename_i h5
        rw [if_pos h5]
        exact ⟨sk_le (isW_lt (w := sWd 2) hp2 h5), (nmF_fig h4).2.2.2.1⟩
      · cases h
    · rename_i h4
      exact absurd h h4
  · cases h
theorem PR.ok {t : Nat → Nat} {L pl : Nat} {C : List Nat} (h : PR t L 0 pl C) (hL : L ≤ 120) : cdOK C ∧ coOK (cCo t L) := by
  obtain ⟨_, h2⟩ := h
  by_cases e : (cHd t L).1 = 0
  · rw [if_pos e, if_pos rfl] at h2
    obtain ⟨q, hq⟩ := h2
    have hle := cHd_le e
    have h0 : mOK L (0, (cHd t L).2, [], []) := ⟨hle.1, Nat.zero_le _, trivial, Nat.zero_le _, (fun x hx => absurd hx (List.not_mem_nil)), fun _ => rfl, fun e => absurd e (show ¬ (0 : Nat) = 1 by decide), fun e => absurd e (show ¬ (0 : Nat) = 2 by decide)⟩
    have h3 := rch_ok h0 hq
    refine ⟨⟨?_, (h3.2.2.2.2.2.2.2 rfl).2, h3.2.2.2.2.1⟩, ?_⟩
    · have a := h3.1
      have b := h3.2.1
      simp only at a b
      omega
    · unfold cCo
      split
      · exact ⟨_, hle.2, Or.inr rfl⟩
      · exact ⟨_, hle.2, Or.inl rfl⟩
  · rw [if_neg e] at h2
    exact absurd h2.1.symm e
/-- what reading a text leaves alone -/
theorem CS.rd {I I' : MI} {J : MJ} {τ : St} {f pl : Nat} (h : CS I J τ) (hF : ∀ k, k ≠ 1 → k ≠ 2 → k ≠ 3 → k ≠ 4 → k ≠ 6 → k ≠ 7 → I' k = I k) (h1 : I' 1 1 = nI 0) (h2 : I' 1 6 = if f = 0 then -1 else nI pl) : CS I' J (rdS τ f pl) := by
  obtain ⟨a1, a2, a3, a4, a5, a6⟩ := h
  have hF' : ∀ k, 7 < k → I' k = I k := fun k hk => hF k (by omega) (by omega) (by omega) (by omega) (by omega) (by omega)
  refine ⟨a1.rf (fun k a b => hF' k (by omega)) (fun _ _ _ => rfl), fun i hi => ⟨by rw [hF' 116 (by decide)]; exact (a2 i hi).1, fun hk => ((a2 i hi).2 hk).rf (fun k a b => hF' k (by omega)) (fun _ _ _ => rfl)⟩, ⟨fun f hf i hi => ?_, ?_, ?_, ?_⟩, fun p hp => ?_, ⟨Nat.zero_le _, h1, fun j hj => absurd hj (Nat.not_lt_zero _)⟩, h2⟩
  · rw [hF' (38 + 1 + i) (by omega)]; exact a3.1 f hf i hi
  · rw [hF' 38 (by decide)]; exact a3.2.1
  · rw [hF' 38 (by decide)]; exact a3.2.2.1
  · rw [hF' 38 (by decide)]; exact a3.2.2.2
  · rw [hF' 44 (by decide)]; exact a4 p hp
theorem ten_sub (f : Nat) : Int32.ofInt (-10) - nI f = -10 - nI f := rfl
set_option maxHeartbeats 1000000 in
set_option maxRecDepth 100000 in
theorem c_X9_claim (hn : 117 ≤ n) (I : MI) (J : MJ) (τ : St) (hCS : CS I J τ) : Ci l n ad cA D z 34 yX9_claim cX9_claim 1 .int I J [.ref (ad 0)] (fun r I' J' => ∃ τ', q_claim τ r τ' ∧ CS I' J' τ' ∧ Fr I I' J J') := by
  refine Ci.of (by decide) (Nat.le_of_ble_eq_true rfl) ?_
  intro p e s m args below meth c A C hin Z Q hret
  have hCS0 := hCS
  obtain ⟨hS, hKp, hM, hSil, hT, h16⟩ := hCS0
  obtain ⟨⟨hC, hco⟩, ⟨hP, hZ⟩, hK, hdu, hdu2, hse, hse2⟩ := hS
  have hnc : (sCl τ).1 ≤ 6 := hC.1
  have hnp : (sPp τ).1 ≤ 10 := hP.1
  have hnk : (sPk τ).1 ≤ 16 := hK.1
  have hL := hT.1
  have hop := @opN_lt (sPhi τ)
  have h386 : I 38 6 = nI (opN (sPhi τ)) := hM.2.1
  refine r_aload_n C 0 (dk oX9_claim 0 rfl) rfl ?_
  refine r_getR C (dk oX9_claim 1 rfl) fl_X9_10 rfl (kn hn rfl) ?_
  refine r_getI C (dk oX9_claim 2 rfl) fl_X9_71 rfl (kn hn rfl) ?_
  rw [hT.2.1]
  refine r_bipush C (dk oX9_claim 3 rfl) (v := nI 120) (by decide) ?_
  refine r_icmp_le (tgt := 15) C (dk oX9_claim 4 rfl) (by decide) (fun hb9 => ?_) (fun hb9 => ?_)
  · simp (disch := omega) only [nI_leI, nI_ltI, nI_eq, nI_eq0] at hb9
    refine r_aload_n C 0 (dk oX9_claim 7 rfl) rfl ?_
    refine r_getR C (dk oX9_claim 8 rfl) fl_X9_33 rfl (kn hn rfl) ?_
    refine r_getR C (dk oX9_claim 9 rfl) fl_X9_81 rfl (kn hn rfl) ?_
    refine r_getI C (dk oX9_claim 10 rfl) fl_X9_85 rfl (kn hn rfl) ?_
    rw [show I 9 0 = nI (sCl τ).1 from hC.2.1]
    refine r_bipush C (dk oX9_claim 11 rfl) (v := nI 6) (by decide) ?_
    refine r_icmp_lt (tgt := 33) C (dk oX9_claim 12 rfl) (by decide) (fun hb27 => ?_) (fun hb27 => ?_)
    · simp (disch := omega) only [nI_leI, nI_ltI, nI_eq, nI_eq0] at hb27
      refine r_aload_n C 0 (dk oX9_claim 15 rfl) rfl ?_
      refine r_getR C (dk oX9_claim 16 rfl) fl_X9_19 rfl (kn hn rfl) ?_
      refine r_aload_n C 0 (dk oX9_claim 17 rfl) rfl ?_
      refine r_getR C (dk oX9_claim 18 rfl) fl_X9_10 rfl (kn hn rfl) ?_
      refine r_ivv C Z (dk oX9_claim 19 rfl) cl_X9_90 ci_X0_read rfl (kn hn rfl) (c_X0_read hn I J (sT τ) (sL τ) hT (by omega)) rfl rfl (Nat.le_of_ble_eq_true rfl) ⟨Nat.le_of_ble_eq_true rfl, Nat.le_of_ble_eq_true rfl⟩ ⟨Nat.zero_le _, Nat.zero_le _⟩ (fun I41 J41 h41 => ?_)
      obtain ⟨e2_, hg, fn, pl, Cc, hPR, h5, h6f, hCd⟩ := h41
      have e2_ := e2_.symm
      subst e2_
      have hfn := hPR.1
      refine r_aload_n C 0 (dk oX9_claim 20 rfl) rfl ?_
      refine r_getR C (dk oX9_claim 21 rfl) fl_X9_10 rfl (kn hn rfl) ?_
      refine r_iconst C (dk oX9_claim 22 rfl) (v := nI 0) (by decide) ?_
      refine r_putI C (dk oX9_claim 23 rfl) fl_X9_71 ft_8_1 rfl (kn hn rfl) ?_
      have hF2 : ∀ k, k ≠ 1 → k ≠ 2 → k ≠ 3 → k ≠ 4 → k ≠ 6 → k ≠ 7 → up2 I41 1 1 (nI 0) k = I k := fun k a b c d _ _ => by rw [up2_ne a]; exact hg.1 k a c d
      have hCS2 := hCS.rd (f := fn) (pl := pl) hF2 up2_at (by rw [up2_off (by decide)]; exact h6f)
      have h5f : up2 I41 1 1 (nI 0) 1 5 = nI fn := by rw [up2_off (by decide)]; exact h5
      refine r_aload_n C 0 (dk oX9_claim 24 rfl) rfl ?_
      refine r_getR C (dk oX9_claim 25 rfl) fl_X9_10 rfl (kn hn rfl) ?_
      refine r_ivi C Z (dk oX9_claim 26 rfl) cl_X9_94 ci_X8_isSound rfl (kn hn rfl) (c_X8_isSound hn (up2 I41 1 1 (nI 0)) J fn (by omega) h5f) rfl rfl (Nat.le_of_ble_eq_true rfl) ⟨Nat.le_of_ble_eq_true rfl, Nat.le_of_ble_eq_true rfl⟩ ⟨Nat.zero_le _, Nat.zero_le _⟩ (fun r56 I56 J56 h56 => ?_)
      obtain ⟨h56, e1_, e2_⟩ := h56
      have e1_ := e1_.symm
      have e2_ := e2_.symm
      subst e1_
      subst e2_
      subst h56
      refine r_if_ne (tgt := 73) C (dk oX9_claim 27 rfl) (by decide) (fun hb59 => ?_) (fun hb59 => ?_)
      · rw [b32_n, decide_eq_true_eq] at hb59
        subst hb59
        have hPR0 := hPR
        have hCd2 := hCd rfl
        have h33 := hCd2.2
        have hCdU : Cd (up2 I41 1 1 (nI 0)) Cc := ⟨hCd2.1.1, by rw [up2_ne (by decide)]; exact hCd2.1.2.1, fun j hj => by rw [up2_ne (by decide)]; exact hCd2.1.2.2.1 j hj, by rw [up2_ne (by decide)]; exact hCd2.1.2.2.2⟩
        refine r_aload_n C 0 (dk oX9_claim 34 rfl) rfl ?_
        refine r_getR C (dk oX9_claim 35 rfl) fl_X9_33 rfl (kn hn rfl) ?_
        refine r_getR C (dk oX9_claim 36 rfl) fl_X9_81 rfl (kn hn rfl) ?_
        refine r_aload_n C 0 (dk oX9_claim 37 rfl) rfl ?_
        refine r_getR C (dk oX9_claim 38 rfl) fl_X9_19 rfl (kn hn rfl) ?_
        refine r_ivi C Z (dk oX9_claim 39 rfl) cl_X9_101 ci_X1_add rfl (kn hn rfl) (c_X1_add hn (up2 I41 1 1 (nI 0)) J (sCl τ).1 (by omega) (by rw [hF2 9 (by decide) (by decide) (by decide) (by decide) (by decide) (by decide)]; exact hC.2.1) Cc (by exact hCdU) (hPR0.ok (by omega)).1.2.1 (hPR0.ok (by omega)).1.2.2) rfl rfl (Nat.le_of_ble_eq_true rfl) ⟨Nat.le_of_ble_eq_true rfl, Nat.le_of_ble_eq_true rfl⟩ ⟨Nat.zero_le _, Nat.zero_le _⟩ (fun r84 I84 J84 h84 => ?_)
        obtain ⟨e1_, e2_, hJ84, hT84⟩ := h84
        have e1_ := e1_.symm
        have e2_ := e2_.symm
        subst e1_
        subst e2_
        refine hret (dk oX9_claim 40 rfl) rfl ?_
        refine ⟨stC (rdS τ 0 pl) (adC (sCl τ) (cCo (sT τ) (sL τ)) Cc), (by unfold q_claim; rw [if_neg (by omega), if_neg (by omega)]; exact ⟨0, pl, Cc, hPR0, by rw [if_pos rfl]; exact ⟨rfl, rfl⟩⟩), ?_, ?_⟩
        · have hF3 : ∀ k, k ≠ 9 → k ≠ 10 → k ≠ 11 → up2 (up2 (up2 (up2 I41 1 1 (nI 0)) 10 (sCl τ).1 (up2 I41 1 1 (nI 0) 3 3)) 11 (sCl τ).1 (nI (fsN Cc))) 9 0 (nI ((sCl τ).1 + 1)) k = up2 I41 1 1 (nI 0) k := fun k a b c => by rw [up2_ne a, up2_ne c, up2_ne b]
          obtain ⟨a1, a2, a3, a4, a5, a6⟩ := hCS2
          obtain ⟨⟨b1, b1'⟩, ⟨b2, b2'⟩, b3, b4, b5, b6, b7⟩ := a1
          refine ⟨⟨⟨⟨by show (sCl τ).1 + 1 ≤ 6; omega, up2_at, fun c hc => ?_⟩, fun c hc => ?_⟩, ⟨b2.cp (smP.rf (fun k a b => hF3 k (by omega) (by omega) (by omega))), b2'.rf (congrFun (hF3 _ (by decide) (by decide) (by decide)) 1)⟩, b3.cp (smK.rf (fun k a b => hF3 k (by omega) (by omega) (by omega))), by rw [hF3 _ (by decide) (by decide) (by decide)]; exact b4, b5, by rw [hF3 _ (by decide) (by decide) (by decide)]; exact b6, b7⟩, fun i hi => ⟨by rw [hF3 _ (by decide) (by decide) (by decide)]; exact (a2 i hi).1, fun hk => ((a2 i hi).2 hk).rf (fun k a b => hF3 k (by omega) (by omega) (by omega)) (fun k a b => hJ84 k (by omega) (by omega))⟩, ⟨fun f hf i hi => ?_, ?_, ?_, ?_⟩, fun p hp => ?_, ⟨a5.1, ?_, fun j hj => absurd hj (Nat.not_lt_zero _)⟩, ?_⟩
          · show _ = (if c = (sCl τ).1 then cCo (sT τ) (sL τ) else (sCl τ).2.1 c) ∧ _ = nI (fsN (if c = (sCl τ).1 then Cc else (sCl τ).2.2 c)) ∧ cdOK (if c = (sCl τ).1 then Cc else (sCl τ).2.2 c) ∧ ∀ w, w < 64 → tbW (if c = (sCl τ).1 then Cc else (sCl τ).2.2 c) w (J84 (8 + 5 + c) w)
            have hc2 : c < (sCl τ).1 + 1 := hc
            by_cases e : c = (sCl τ).1
            · subst e
              rw [if_pos rfl, if_pos rfl]
              refine ⟨?_, ?_, (hPR0.ok (by omega)).1, hT84⟩
              · rw [up2_ne (by decide), up2_ne (by decide), up2_at, up2_ne (by decide)]; exact h33
              · rw [up2_ne (by decide), up2_at]
            · rw [if_neg e, if_neg e]
              have q := hC.2.2 c (by show c < (sCl τ).1; omega)
              refine ⟨?_, ?_, q.2.2.1, fun w hw => by rw [hJ84 _ (by omega) (by omega)]; exact q.2.2.2 w hw⟩
              · rw [up2_ne (by decide), up2_ne (by decide), up2_off e, up2_ne (by decide), hg.1 _ (by decide) (by decide) (by decide)]; exact q.1
              · rw [up2_ne (by decide), up2_off e, up2_ne (by decide), up2_ne (by decide), hg.1 _ (by decide) (by decide) (by decide)]; exact q.2.1
          · show coOK (if c = (sCl τ).1 then cCo (sT τ) (sL τ) else (sCl τ).2.1 c)
            have hc2 : c < (sCl τ).1 + 1 := hc
            split
            · exact (hPR0.ok (by omega)).2
            · exact hco c (by show c < (sCl τ).1; omega)
          · rw [hF3 _ (by omega) (by omega) (by omega)]; exact a3.1 f hf i hi
          · rw [hF3 _ (by decide) (by decide) (by decide)]; exact a3.2.1
          · rw [hF3 _ (by decide) (by decide) (by decide)]; exact a3.2.2.1
          · rw [hF3 _ (by decide) (by decide) (by decide)]; exact a3.2.2.2
          · rw [hF3 _ (by decide) (by decide) (by decide)]; exact a4 p hp
          · rw [hF3 _ (by decide) (by decide) (by decide)]; exact a5.2.1
          · rw [hF3 _ (by decide) (by decide) (by decide)]; exact a6
        · exact ⟨fun k hk => by rw [up2_ne (by omega), up2_ne (by omega), up2_ne (by omega)]; exact hF2 k (by omega) (by omega) (by omega) (by omega) (by omega) (by omega), fun k hk => hJ84 k (by omega) (by omega)⟩
      · rw [b32_0, decide_eq_false_iff_not] at hb59
        refine r_bipush C (dk oX9_claim 28 rfl) (v := -10) (by decide) ?_
        refine r_aload_n C 0 (dk oX9_claim 29 rfl) rfl ?_
        refine r_getR C (dk oX9_claim 30 rfl) fl_X9_10 rfl (kn hn rfl) ?_
        refine r_getI C (dk oX9_claim 31 rfl) fl_X9_98 rfl (kn hn rfl) ?_
        rw [h5f]
        refine r_isub C (dk oX9_claim 32 rfl) ?_
        refine hret (dk oX9_claim 33 rfl) rfl ?_
        exact ⟨rdS τ fn pl, (by unfold q_claim; rw [if_neg (by omega), if_neg (by omega)]; exact ⟨fn, pl, Cc, hPR, by rw [if_neg hb59]; exact ⟨rfl, rfl⟩⟩), hCS2, ⟨fun k hk => hF2 k (by omega) (by omega) (by omega) (by omega) (by omega) (by omega), fun _ _ => rfl⟩⟩
    · simp (disch := omega) only [nI_leI, nI_ltI, nI_eq, nI_eq0] at hb27
      refine r_ldc C (dk oX9_claim 13 rfl) kn_X9_75 ?_
      refine hret (dk oX9_claim 14 rfl) rfl ?_
      exact ⟨τ, (by unfold q_claim; rw [if_neg (by omega), if_pos (by omega)]; exact ⟨rfl, rfl⟩), hCS, Fr.rf I J⟩
  · simp (disch := omega) only [nI_leI, nI_ltI, nI_eq, nI_eq0] at hb9
    refine r_ldc C (dk oX9_claim 5 rfl) kn_X9_80 ?_
    refine hret (dk oX9_claim 6 rfl) rfl ?_
    exact ⟨τ, (by unfold q_claim; rw [if_pos (by omega)]; exact ⟨rfl, rfl⟩), hCS, Fr.rf I J⟩

end PUB4
