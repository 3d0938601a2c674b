section MOD15
variable {l : Launch} {n : Nat} {ad : Nat → Nat} {cA : Nat → ClassId} {D : va_G} {z : Zw}
theorem MM.ap {I : MI} {v : Nat} {t : Nat → Nat} {L : Nat} {q : Su} {im : Nat → Su} {kp : Nat → Bool} {fl : Int32} (h : MM I (q, im, kp, t, L, fl)) (hv : v < 256) (hL : L < 160) : MM (up2 (up2 I 141 L (nI v)) 117 25 (nI (L + 1))) (q, im, kp, (fun j => if j = L then v else t j), L + 1, fl) := by
  obtain ⟨h1, h2, h3, h4, h5, h6⟩ := h
  have hF : ∀ k, k ≠ 117 → k ≠ 141 → up2 (up2 I 141 L (nI v)) 117 25 (nI (L + 1)) k = I k := fun k a b => by rw [up2_ne a, up2_ne b]
  have hs : ∀ k, 117 < k → k < 134 → up2 (up2 I 141 L (nI v)) 117 25 (nI (L + 1)) k = I k := fun k a b => hF k (by omega) (by omega)
  refine ⟨h1.r hs, h2.u (τ' := (q, im, kp, (fun j => if j = L then v else t j), L + 1, fl)) (by rw [up2_off (by decide), up2_ne (by decide)]) (by rw [hF 132 (by decide) (by decide)]) rfl rfl, fun i hi => ⟨by rw [hF 134 (by decide) (by decide)]; exact (h3 i hi).1, fun hk => ⟨((h3 i hi).2 hk).1.r hs, by rw [hF 132 (by decide) (by decide)]; exact ((h3 i hi).2 hk).2⟩⟩, ⟨by show L + 1 ≤ 160; omega, up2_at, fun j hj => ?_⟩, by rw [up2_off (by decide), up2_ne (by decide)]; exact h5, by unfold MZs; rw [hF 124 (by decide) (by decide), hF 131 (by decide) (by decide)]; exact h6⟩
  show (if j = L then v else t j) < 256 ∧ _ = nI (if j = L then v else t j)
  rw [up2_ne (by decide)]
  by_cases e : j = L
  · rw [if_pos e, e, up2_at]; exact ⟨hv, rfl⟩
  · have hj2 : j < L + 1 := hj
    rw [if_neg e, up2_off e]; exact h4.2.2 j (by show j < L; omega)
theorem MM.tc {I : MI} {q : Su} {im : Nat → Su} {kp : Nat → Bool} {t t' : Nat → Nat} {L : Nat} {fl : Int32} (h : MM I (q, im, kp, t, L, fl)) (e : ∀ j, j < L → t j = t' j) : MM I (q, im, kp, t', L, fl) := by
  obtain ⟨h1, h2, h3, h4, h5, h6⟩ := h
  refine ⟨h1, h2, h3, ⟨h4.1, h4.2.1, fun j hj => ?_⟩, h5, h6⟩
  show t' j < 256 ∧ _ = nI (t' j)
  rw [← e j hj]
  exact h4.2.2 j hj
theorem cpE_in {I : MI} {k b x y m c : Nat} (hc : c < m) : cpE I k b x y m (b * y + c) = I k (b * x + c) := by
  unfold cpE
  generalize b * y = v
  generalize b * x = u
  rw [if_pos (by omega)]
  congr 1
  omega
theorem cpE_i1 {I : MI} {k x y : Nat} : cpE I k 1 x y 1 y = I k x := by
  unfold cpE
  rw [if_pos (by omega)]
  congr 1
  omega
theorem cpE_o1 {I : MI} {k x y z : Nat} (h : z ≠ y) : cpE I k 1 x y 1 z = I k z := by
  unfold cpE
  rw [if_neg (by omega)]
theorem MSl.cp {I I' : MI} {x y : Nat} {σ : Su} (h : MSl I x σ) (hc : CPm I I' x y) : MSl I' y σ := by
  obtain ⟨c18, c19, c21, c20, c22, c23, c24, c25, c26, c27, c28, c29, c30, c31, c32, c33, _⟩ := hc
  obtain ⟨⟨a1, a2, a3⟩, ⟨b1, b2, b3⟩, ⟨p1, p2, p3⟩, d1, d2, d3⟩ := h
  refine ⟨⟨a1, by rw [c18, cpE_i1]; exact a2, fun c hc => ?_⟩, ⟨b1, by rw [c22, cpE_i1]; exact b2, fun p hp => ?_⟩, ⟨p1, by rw [c26, cpE_i1]; exact p2, fun k hk => ?_⟩, by rw [c33, cpE_i1]; exact d1, d2, d3⟩
  · have q := a3 c hc
    have hl : _ ≤ 120 := q.2.2.2.2.1
    rw [c19, cpE_in (by omega), c21, cpE_in (by omega)]
    exact ⟨q.1, q.2.1, q.2.2.1, fun k hk => by rw [c20, cpE_in (by omega)]; exact q.2.2.2.1 k hk, q.2.2.2.2⟩
  · rw [c23, cpE_in (by omega), c24, cpE_in (by omega)]
    exact ⟨(b3 p hp).1, (b3 p hp).2.1, (b3 p hp).2.2.1, fun f hf => by rw [c25, cpE_in (by omega)]; exact (b3 p hp).2.2.2 f hf⟩
  · rw [c27, cpE_in (by omega), c28, cpE_in (by omega), c29, cpE_in (by omega), c30, cpE_in (by omega), c31, cpE_in (by omega)]
    exact p3 k hk
theorem cpE_o {I : MI} {k b x y m j : Nat} (h : j < b * y ∨ b * y + m ≤ j) : cpE I k b x y m j = I k j := by
  unfold cpE
  rw [if_neg (by omega)]
theorem MSl.co {I I' : MI} {x y zz : Nat} {σ : Su} (h : MSl I zz σ) (hc : CPm I I' x y) (hz : zz ≠ y) : MSl I' zz σ := by
  obtain ⟨c18, c19, c21, c20, c22, c23, c24, c25, c26, c27, c28, c29, c30, c31, c32, c33, _⟩ := hc
  obtain ⟨⟨a1, a2, a3⟩, ⟨b1, b2, b3⟩, ⟨p1, p2, p3⟩, d1, d2, d3⟩ := h
  refine ⟨⟨a1, by rw [c18, cpE_o1 hz]; exact a2, fun c hc => ?_⟩, ⟨b1, by rw [c22, cpE_o1 hz]; exact b2, fun p hp => ?_⟩, ⟨p1, by rw [c26, cpE_o1 hz]; exact p2, fun k hk => ?_⟩, by rw [c33, cpE_o1 hz]; exact d1, d2, d3⟩
  · have q := a3 c hc
    have hl : _ ≤ 120 := q.2.2.2.2.1
    rw [c19, cpE_o (by omega), c21, cpE_o (by omega)]
    exact ⟨q.1, q.2.1, q.2.2.1, fun k hk => by rw [c20, cpE_o (by omega)]; exact q.2.2.2.1 k hk, q.2.2.2.2⟩
  · rw [c23, cpE_o (by omega), c24, cpE_o (by omega)]
    exact ⟨(b3 p hp).1, (b3 p hp).2.1, (b3 p hp).2.2.1, fun f hf => by rw [c25, cpE_o (by omega)]; exact (b3 p hp).2.2.2 f hf⟩
  · rw [c27, cpE_o (by omega), c28, cpE_o (by omega), c29, cpE_o (by omega), c30, cpE_o (by omega), c31, cpE_o (by omega)]
    exact p3 k hk
theorem CPm.zz {I I' : MI} {x y : Nat} (hc : CPm I I' x y) (hx : x < 3) (h : MZs I) : MZs I' := by
  obtain ⟨c18, c19, c21, c20, c22, c23, c24, c25, c26, c27, c28, c29, c30, c31, c32, c33, _⟩ := hc
  exact ⟨fun j hj => by rw [c24]; exact cpE_z h.1 (by omega) j hj, fun j hj => by rw [c31]; exact cpE_z h.2 (by omega) j hj⟩
set_option maxHeartbeats 1000000 in
set_option maxRecDepth 100000 in
theorem c_X10_feed (hn : 148 ≤ n) (I : MI) (J : MJ) (τ : St) (hMM : MM I τ) (x : Int32) (X : Int64) : Ci l n ad cA D z 1 yX10_feed cX10_feed 5 .int I J [.ref (ad 117), .int x, .long X] (fun r I' J' => r = (q_feed τ x X).1 ∧ MM I' (q_feed τ x X).2 ∧ (∀ k, k < 117 → I' k = I k) ∧ J' = J) := by
  refine Ci.of (by decide) (Nat.le_of_ble_eq_true rfl) ?_
  intro p e s m args below meth c A C hin Z Q hret
  have hC0 := hMM.c0
  have hK0 := hMM.k0
  have hP0 := hMM.pap.zz
  have hok := hMM.ok
  have hnc : (sCl τ).1 ≤ 6 := hC0.1
  have hnp : (sPp τ).1 ≤ 10 := hP0.1
  have hnk : (sPk τ).1 ≤ 16 := hK0.1
  have hMT := hMM.2.2.2.1
  have hL := hMT.1
  have hop := @opN_lt (sPhi τ)
  have hB : brQ (sPk τ) < 65536 := brN_16 hnk
  refine r_iload_n C 1 (dk oX10_feed 0 rfl) rfl ?_
  refine r_i2l C (dk oX10_feed 1 rfl) ?_
  refine r_lconst C (dk oX10_feed 2 rfl) (v := 1) (by decide) ?_
  refine r_ldc2 C (dk oX10_feed 3 rfl) kn_X10_129 ?_
  refine r_isi C Z (dk oX10_feed 4 rfl) cl_X10_131 st_X10_in (c_X10_in I J (x.toInt64) (1) (8)) rfl rfl (Nat.le_of_ble_eq_true rfl) ⟨Nat.le_of_ble_eq_true rfl, Nat.le_of_ble_eq_true rfl⟩ ⟨Nat.zero_le _, Nat.zero_le _⟩ (fun r6 I6 J6 h6 => ?_)
  obtain ⟨h6, e1_, e2_⟩ := h6
  have e1_ := e1_.symm
  have e2_ := e2_.symm
  subst e1_
  subst e2_
  subst h6
  rw [show decide ((1 : Int64) ≤ x.toInt64 ∧ x.toInt64 ≤ 8) = decide (¬ (x < nI 1 ∨ nI 8 < x)) from decide_eq_decide.mpr (in_lo (by decide) (by decide) rfl rfl)]
  refine r_if_ne (tgt := 15) C (dk oX10_feed 5 rfl) (by decide) (fun hb9 => ?_) (fun hb9 => ?_)
  · rw [b32_n, decide_eq_true_eq] at hb9
    have hq := hb9
    have hv : vdN x 9 := vd_hi (n := 8) (by decide) (fun q => hb9 (Or.inl (fa_trans q (show (0 : Int32) ≤ nI 1 by decide)))) (Int32.not_lt.mp (fun q => hb9 (Or.inr q)))
    obtain ⟨k_, h_k_, hx_k_⟩ := vd_of (by decide) hv
    subst hx_k_
    have hk1 : 1 ≤ k_ := by
      have h0 : ¬ nI k_ < nI 1 := fun q => hb9 (Or.inl q)
      simp (disch := omega) only [nI_ltI] at h0
      omega
    refine r_aload_n C 0 (dk oX10_feed 8 rfl) rfl ?_
    refine r_getI C (dk oX10_feed 9 rfl) fl_X10_136 rfl (km hn rfl) ?_
    rw [hMT.2.1]
    refine r_iload_n C 1 (dk oX10_feed 10 rfl) rfl ?_
    refine r_iadd C (dk oX10_feed 11 rfl) ?_
    rw [nI_add]
    refine r_sipush C (dk oX10_feed 12 rfl) (v := nI 160) (by decide) ?_
    refine r_icmp_le (tgt := 30) C (dk oX10_feed 13 rfl) (by decide) (fun hb24 => ?_) (fun hb24 => ?_)
    · simp (disch := omega) only [nI_leI, nI_ltI, nI_eq, nI_eq0] at hb24
      refine r_iload_n C 1 (dk oX10_feed 16 rfl) rfl ?_
      refine r_iconst C (dk oX10_feed 17 rfl) (v := nI 1) (by decide) ?_
      refine r_isub C (dk oX10_feed 18 rfl) ?_
      rw [show nI k_ - nI 1 = nI k_ + Int32.ofInt (-1) from by rw [nI_dec (by omega), pk_sub (by omega)]]
      refine r_istore (lo' := [(4, _), (0, _), (1, _), (2, _)]) C (dk oX10_feed 19 rfl) (by decide) rfl ?_
      have L35 : ∀ (d_ : Nat) (j_ : Nat) (I1 : MI), j_ < d_ → j_ ≤ k_ → MM I1 (τ.1, sIm τ, sKp τ, fdU τ k_ X (k_ - j_), sL τ + (k_ - j_), sF τ) → (∀ k, k < 117 → I1 k = I k) → V p l e (rmL 1) s m args below meth c Q D A 5 0 0 n ad (mE cA ad I1 J) 35 [(0, .ref (ad 117)), (1, .int (nI k_)), (2, .long X), (4, .int (nI j_ + Int32.ofInt (-1)))] [] := by
        intro d_
        induction d_ with
        | zero => intros; exact absurd (by assumption) (Nat.not_lt_zero _)
        | succ d_ ih => 
          intro j_ I1 hd_ hj hM1 hFr
          refine r_iload C 3 (dk oX10_feed 20 rfl) rfl ?_
          refine r_if_lt (tgt := 77) C (dk oX10_feed 21 rfl) (by decide) (fun hb37 => ?_) (fun hb37 => ?_)
          · rw [dec_lt (by omega)] at hb37
            refine r_aload_n C 0 (dk oX10_feed 43 rfl) rfl ?_
            refine r_getI C (dk oX10_feed 44 rfl) fl_X10_136 rfl (km hn rfl) ?_
            rw [show I1 117 25 = nI (sL τ + (k_ - j_)) from hM1.2.2.2.1.2.1]
            refine hret (dk oX10_feed 45 rfl) rfl ?_
            unfold q_feed
            rw [if_neg hq, cN_n (by omega), if_neg (by omega)]
            subst hb37
            refine ⟨rfl, hM1.tc (fun j hj => ?_), hFr, rfl⟩
            have hj2 : j < sL τ + (k_ - 0) := hj
            show fdU τ k_ X (k_ - 0) j = if j < sL τ then _ else _
            unfold fdU
            by_cases e : j < sL τ
            · rw [if_pos (Or.inl e), if_pos e]
            · rw [if_neg (by omega), if_neg e]
          · rw [dec_lt (by omega)] at hb37
            rw [nI_dec (by omega)]
            refine r_aload_n C 0 (dk oX10_feed 22 rfl) rfl ?_
            refine r_getR C (dk oX10_feed 23 rfl) fl_X10_80 rfl (km hn rfl) ?_
            refine r_aload_n C 0 (dk oX10_feed 24 rfl) rfl ?_
            refine r_getI C (dk oX10_feed 25 rfl) fl_X10_136 rfl (km hn rfl) ?_
            rw [show I1 117 25 = nI (sL τ + (k_ - j_)) from hM1.2.2.2.1.2.1]
            refine r_lload_n C 2 (dk oX10_feed 26 rfl) rfl ?_
            refine r_bipush C (dk oX10_feed 27 rfl) (v := nI 8) (by decide) ?_
            refine r_iload C 3 (dk oX10_feed 28 rfl) rfl ?_
            refine r_imul C (dk oX10_feed 29 rfl) ?_
            rw [pk_mul]
            refine r_lshr C (dk oX10_feed 30 rfl) ?_
            refine r_ldc2 C (dk oX10_feed 31 rfl) kn_X10_140 ?_
            refine r_land C (dk oX10_feed 32 rfl) ?_
            refine r_l2i C (dk oX10_feed 33 rfl) ?_
            rw [sar_b X (j_ - 1) (by omega)]
            refine r_iast C _ (dk oX10_feed 34 rfl) rfl (km hn rfl) rfl (by omega) (by decide) ?_
            refine r_aload_n C 0 (dk oX10_feed 35 rfl) rfl ?_
            refine r_dup C (dk oX10_feed 36 rfl) rfl ?_
            refine r_getI C (dk oX10_feed 37 rfl) fl_X10_136 rfl (km hn rfl) ?_
            rw [up2_ne (by decide), show I1 117 25 = nI (sL τ + (k_ - j_)) from hM1.2.2.2.1.2.1]
            refine r_iconst C (dk oX10_feed 38 rfl) (v := nI 1) (by decide) ?_
            refine r_iadd C (dk oX10_feed 39 rfl) ?_
            rw [nI_add]
            refine r_putI C (dk oX10_feed 40 rfl) fl_X10_136 ft_10_25 rfl (km hn rfl) ?_
            refine r_iinc (lo' := [(4, _), (0, _), (1, _), (2, _)]) C 3 (dk oX10_feed 41 rfl) rfl rfl (by decide) rfl ?_
            refine r_goto (tgt := 35) C (dk oX10_feed 42 rfl) (by decide) ?_
            refine V.sub [1, 2, 3, 0] rfl ?_
            refine ih (j_ - 1) _ (by omega) (by omega) ?_ (fun k hk => by rw [up2_ne (by omega), up2_ne (by omega)]; exact hFr k hk)
            have h2 := hM1.ap (v := fdB X (j_ - 1)) fdB_lt (show sL τ + (k_ - j_) < 160 by omega)
            rw [show k_ - (j_ - 1) = (k_ - j_) + 1 by omega, ← fdU_s]
            rw [show k_ - 1 - (k_ - j_) = j_ - 1 by omega]
            exact h2
      refine V.sub [1, 2, 3, 0] rfl ?_
      refine L35 (k_ + 1) k_ I (by omega) (Nat.le_refl _) ?_ (fun _ _ => rfl)
      rw [Nat.sub_self, fdU_0]
      exact hMM
    · simp (disch := omega) only [nI_leI, nI_ltI, nI_eq, nI_eq0] at hb24
      refine r_ldc C (dk oX10_feed 14 rfl) kn_X10_139 ?_
      refine hret (dk oX10_feed 15 rfl) rfl ?_
      unfold q_feed
      rw [if_neg hq, cN_n (by omega), if_pos (by omega)]
      exact ⟨rfl, hMM, fun _ _ => rfl, rfl⟩
  · rw [b32_0, decide_eq_false_iff_not] at hb9
    have hq := Classical.not_not.mp hb9
    refine r_ldc C (dk oX10_feed 6 rfl) kn_X10_135 ?_
    refine hret (dk oX10_feed 7 rfl) rfl ?_
    unfold q_feed
    rw [if_pos hq]
    exact ⟨rfl, hMM, fun _ _ => rfl, rfl⟩

set_option maxHeartbeats 1000000 in
set_option maxRecDepth 100000 in
theorem c_X10_proof (hn : 148 ≤ n) (I : MI) (J : MJ) (τ : St) (hMM : MM I τ) (x f o c_x : Int32) : Ci l n ad cA D z 2 yX10_proof cX10_proof 6 .int I J [.ref (ad 117), .int x, .int f, .int o, .int c_x] (fun r I' J' => r = (q_proof τ x f o c_x).1 ∧ MM I' (q_proof τ x f o c_x).2 ∧ (∀ k, k < 117 → I' k = I k) ∧ J' = J) := by
  refine Ci.of (by decide) (Nat.le_of_ble_eq_true rfl) ?_
  intro p e s m args below meth c A C hin Z Q hret
  have hC0 := hMM.c0
  have hK0 := hMM.k0
  have hP0 := hMM.pap.zz
  have hok := hMM.ok
  have hnc : (sCl τ).1 ≤ 6 := hC0.1
  have hnp : (sPp τ).1 ≤ 10 := hP0.1
  have hnk : (sPk τ).1 ≤ 16 := hK0.1
  have hMT := hMM.2.2.2.1
  have hL := hMT.1
  have hop := @opN_lt (sPhi τ)
  have hB : brQ (sPk τ) < 65536 := brN_16 hnk
  refine r_iload_n C 1 (dk oX10_proof 0 rfl) rfl ?_
  refine r_isi C Z (dk oX10_proof 1 rfl) cl_X10_302 st_X10_isSide (c_X10_isSide I J x) rfl rfl (Nat.le_of_ble_eq_true rfl) ⟨Nat.le_of_ble_eq_true rfl, Nat.le_of_ble_eq_true rfl⟩ ⟨Nat.zero_le _, Nat.zero_le _⟩ (fun r1 I1 J1 h1 => ?_)
  obtain ⟨h1, e1_, e2_⟩ := h1
  have e1_ := e1_.symm
  have e2_ := e2_.symm
  subst e1_
  subst e2_
  subst h1
  refine r_if_eq (tgt := 14) C (dk oX10_proof 2 rfl) (by decide) (fun hb4 => ?_) (fun hb4 => ?_)
  · rw [b32_0, decide_eq_false_iff_not] at hb4
    refine r_ldcw C (dk oX10_proof 6 rfl) kn_X10_264 ?_
    refine hret (dk oX10_proof 7 rfl) rfl ?_
    unfold q_proof
    first
      | (rw [if_pos (fun q => hb4 q.1)]; exact ⟨rfl, hMM, fun _ _ => rfl, rfl⟩)
      | (rw [if_pos (fun q => hb11 q.2)]; exact ⟨rfl, hMM, fun _ _ => rfl, rfl⟩)
  · rw [b32_n, decide_eq_true_eq] at hb4
    obtain ⟨s_, h_s_, hx_s_⟩ := vd_of (by decide) hb4
    subst hx_s_
    refine r_iload_n C 2 (dk oX10_proof 3 rfl) rfl ?_
    refine r_isi C Z (dk oX10_proof 4 rfl) cl_X10_261 st_X10_isFact (c_X10_isFact I J f) rfl rfl (Nat.le_of_ble_eq_true rfl) ⟨Nat.le_of_ble_eq_true rfl, Nat.le_of_ble_eq_true rfl⟩ ⟨Nat.zero_le _, Nat.zero_le _⟩ (fun r8 I8 J8 h8 => ?_)
    obtain ⟨h8, e1_, e2_⟩ := h8
    have e1_ := e1_.symm
    have e2_ := e2_.symm
    subst e1_
    subst e2_
    subst h8
    refine r_if_ne (tgt := 18) C (dk oX10_proof 5 rfl) (by decide) (fun hb11 => ?_) (fun hb11 => ?_)
    · rw [b32_n, decide_eq_true_eq] at hb11
      obtain ⟨f_, h_f_, hx_f_⟩ := vd_of (by decide) hb11
      subst hx_f_
      refine r_iload_n C 3 (dk oX10_proof 8 rfl) rfl ?_
      refine r_i2l C (dk oX10_proof 9 rfl) ?_
      refine r_lconst C (dk oX10_proof 10 rfl) (v := 0) (by decide) ?_
      refine r_ldc2 C (dk oX10_proof 11 rfl) kn_X10_305 ?_
      refine r_isi C Z (dk oX10_proof 12 rfl) cl_X10_131 st_X10_in (c_X10_in I J (o.toInt64) (0) (1000)) rfl rfl (Nat.le_of_ble_eq_true rfl) ⟨Nat.le_of_ble_eq_true rfl, Nat.le_of_ble_eq_true rfl⟩ ⟨Nat.zero_le _, Nat.zero_le _⟩ (fun r24 I24 J24 h24 => ?_)
      obtain ⟨h24, e1_, e2_⟩ := h24
      have e1_ := e1_.symm
      have e2_ := e2_.symm
      subst e1_
      subst e2_
      subst h24
      rw [show decide ((0 : Int64) ≤ o.toInt64 ∧ o.toInt64 ≤ 1000) = decide (vdN o 1001) from decide_eq_decide.mpr (in_vd (n := 1000) (by decide) rfl rfl)]
      refine r_if_eq (tgt := 43) C (dk oX10_proof 13 rfl) (by decide) (fun hb27 => ?_) (fun hb27 => ?_)
      · rw [b32_0, decide_eq_false_iff_not] at hb27
        refine r_ldc C (dk oX10_proof 20 rfl) kn_X10_135 ?_
        refine hret (dk oX10_proof 21 rfl) rfl ?_
        unfold q_proof
        rw [if_neg (Classical.not_not.mpr ⟨vd_n h_s_ (by decide), vd_n h_f_ (by decide)⟩), if_pos]
        · exact ⟨rfl, hMM, fun _ _ => rfl, rfl⟩
        · first
            | exact fun q => hb27 q.1
            | exact fun q => hb40 q.2
      · rw [b32_n, decide_eq_true_eq] at hb27
        have hvo := hb27
        obtain ⟨o_, h_o_, hx_o_⟩ := vd_of (by decide) hb27
        subst hx_o_
        refine r_iload C 4 (dk oX10_proof 14 rfl) rfl ?_
        refine r_i2l C (dk oX10_proof 15 rfl) ?_
        refine r_lconst C (dk oX10_proof 16 rfl) (v := 0) (by decide) ?_
        refine r_ldc2 C (dk oX10_proof 17 rfl) kn_X10_253 ?_
        refine r_isi C Z (dk oX10_proof 18 rfl) cl_X10_131 st_X10_in (c_X10_in I J (c_x.toInt64) (0) (99)) rfl rfl (Nat.le_of_ble_eq_true rfl) ⟨Nat.le_of_ble_eq_true rfl, Nat.le_of_ble_eq_true rfl⟩ ⟨Nat.zero_le _, Nat.zero_le _⟩ (fun r37 I37 J37 h37 => ?_)
        obtain ⟨h37, e1_, e2_⟩ := h37
        have e1_ := e1_.symm
        have e2_ := e2_.symm
        subst e1_
        subst e2_
        subst h37
        rw [show decide ((0 : Int64) ≤ c_x.toInt64 ∧ c_x.toInt64 ≤ 99) = decide (vdN c_x 100) from decide_eq_decide.mpr (in_vd (n := 99) (by decide) rfl rfl)]
        refine r_if_ne (tgt := 46) C (dk oX10_proof 19 rfl) (by decide) (fun hb40 => ?_) (fun hb40 => ?_)
        · rw [b32_n, decide_eq_true_eq] at hb40
          have hvc := hb40
          obtain ⟨c_, h_c_, hx_c_⟩ := vd_of (by decide) hb40
          subst hx_c_
          refine r_aload_n C 0 (dk oX10_proof 22 rfl) rfl ?_
          refine r_getR C (dk oX10_proof 23 rfl) fl_X10_35 rfl (km hn rfl) ?_
          refine r_iconst C (dk oX10_proof 24 rfl) (v := nI 0) (by decide) ?_
          refine r_iald C 0 (dk oX10_proof 25 rfl) rfl (km hn rfl) rfl (by decide) (by decide) ?_
          rw [hK0.2.1]
          refine r_istore (lo' := [(5, _), (0, _), (1, _), (2, _), (3, _), (4, _)]) C (dk oX10_proof 26 rfl) (by decide) rfl ?_
          refine r_iload C 0 (dk oX10_proof 27 rfl) rfl ?_
          refine r_bipush C (dk oX10_proof 28 rfl) (v := nI 16) (by decide) ?_
          refine r_icmp_ne (tgt := 64) C (dk oX10_proof 29 rfl) (by decide) (fun hb58 => ?_) (fun hb58 => ?_)
          · simp (disch := omega) only [nI_leI, nI_ltI, nI_eq, nI_eq0] at hb58
            refine r_aload_n C 1 (dk oX10_proof 32 rfl) rfl ?_
            refine r_getR C (dk oX10_proof 33 rfl) fl_X10_38 rfl (km hn rfl) ?_
            refine r_iload C 0 (dk oX10_proof 34 rfl) rfl ?_
            refine r_iload_n C 2 (dk oX10_proof 35 rfl) rfl ?_
            refine r_iast C _ (dk oX10_proof 36 rfl) rfl (km hn rfl) rfl (by omega) (by decide) ?_
            refine r_aload_n C 1 (dk oX10_proof 37 rfl) rfl ?_
            refine r_getR C (dk oX10_proof 38 rfl) fl_X10_41 rfl (km hn rfl) ?_
            refine r_iload C 0 (dk oX10_proof 39 rfl) rfl ?_
            refine r_iload_n C 3 (dk oX10_proof 40 rfl) rfl ?_
            refine r_iast C _ (dk oX10_proof 41 rfl) rfl (km hn rfl) rfl (by omega) (by decide) ?_
            refine r_aload_n C 1 (dk oX10_proof 42 rfl) rfl ?_
            refine r_getR C (dk oX10_proof 43 rfl) fl_X10_44 rfl (km hn rfl) ?_
            refine r_iload C 0 (dk oX10_proof 44 rfl) rfl ?_
            refine r_iload_n C 4 (dk oX10_proof 45 rfl) rfl ?_
            refine r_iast C _ (dk oX10_proof 46 rfl) rfl (km hn rfl) rfl (by omega) (by decide) ?_
            refine r_aload_n C 1 (dk oX10_proof 47 rfl) rfl ?_
            refine r_getR C (dk oX10_proof 48 rfl) fl_X10_47 rfl (km hn rfl) ?_
            refine r_iload C 0 (dk oX10_proof 49 rfl) rfl ?_
            refine r_iload C 5 (dk oX10_proof 50 rfl) rfl ?_
            refine r_iast C _ (dk oX10_proof 51 rfl) rfl (km hn rfl) rfl (by omega) (by decide) ?_
            refine r_aload_n C 1 (dk oX10_proof 52 rfl) rfl ?_
            refine r_getR C (dk oX10_proof 53 rfl) fl_X10_50 rfl (km hn rfl) ?_
            refine r_iload C 0 (dk oX10_proof 54 rfl) rfl ?_
            refine r_iconst C (dk oX10_proof 55 rfl) (v := nI 0) (by decide) ?_
            refine r_zast C _ (dk oX10_proof 56 rfl) rfl (km hn rfl) rfl (by omega) (by decide) (by first | exact Or.inl rfl | exact Or.inr rfl | assumption) ?_
            refine r_aload_n C 1 (dk oX10_proof 57 rfl) rfl ?_
            refine r_getR C (dk oX10_proof 58 rfl) fl_X10_35 rfl (km hn rfl) ?_
            refine r_iconst C (dk oX10_proof 59 rfl) (v := nI 0) (by decide) ?_
            refine r_dup2 C (dk oX10_proof 60 rfl) rfl rfl ?_
            refine r_iald C 0 (dk oX10_proof 61 rfl) rfl (km hn rfl) rfl (by decide) (by decide) ?_
            rw [up2_ne (by decide), up2_ne (by decide), up2_ne (by decide), up2_ne (by decide), up2_ne (by decide), hK0.2.1]
            refine r_iconst C (dk oX10_proof 62 rfl) (v := nI 1) (by decide) ?_
            refine r_iadd C (dk oX10_proof 63 rfl) ?_
            rw [nI_add]
            refine r_iast C 0 (dk oX10_proof 64 rfl) rfl (km hn rfl) rfl (by decide) (by decide) ?_
            refine r_iload C 0 (dk oX10_proof 65 rfl) rfl ?_
            refine hret (dk oX10_proof 66 rfl) rfl ?_
            unfold q_proof
            rw [if_neg (Classical.not_not.mpr ⟨vd_n h_s_ (by decide), vd_n h_f_ (by decide)⟩), if_neg (Classical.not_not.mpr ⟨hvo, hvc⟩), if_neg (by omega), cN_n (by omega), cN_n (by omega), cN_n (by omega), cN_n (by omega)]
            have hP := hMM.1.2.2.1
            have hz := hMM.2.2.2.2.2
            have hU : ∀ q, q < 126 ∨ 131 < q → up2 (up2 (up2 (up2 (up2 (up2 I 127 (sPk τ).1 (nI s_)) 128 (sPk τ).1 (nI f_)) 129 (sPk τ).1 (nI o_)) 130 (sPk τ).1 (nI c_)) 131 (sPk τ).1 (nI 0)) 126 0 (nI ((sPk τ).1 + 1)) q = I q := fun q hq => by rw [up2_ne (by omega), up2_ne (by omega), up2_ne (by omega), up2_ne (by omega), up2_ne (by omega), up2_ne (by omega)]
            have hlo : (sPk τ).1 < 16 := by omega
            refine ⟨rfl, MM.mk (σ := (τ.1.1, τ.1.2.1, ((sPk τ).1 + 1, (fun j => if j = (sPk τ).1 then s_ else (sPk τ).2.1 j), (fun j => if j = (sPk τ).1 then f_ else (sPk τ).2.2.1 j), (fun j => if j = (sPk τ).1 then o_ else (sPk τ).2.2.2.1 j), (fun j => if j = (sPk τ).1 then c_ else (sPk τ).2.2.2.2.1 j), (fun j => if j = (sPk τ).1 then false else (sPk τ).2.2.2.2.2 j)), τ.1.2.2.2)) hMM ⟨hMM.1.1.st (fun k a b => hU k (by omega)), hMM.1.2.1.st (fun k a b => hU k (by omega)), ⟨by show (sPk τ).1 + 1 ≤ 16; omega, up2_at, fun k hk => ?_⟩, by rw [hU 133 (by decide)]; exact hMM.1.2.2.2.1, hMM.1.2.2.2.2.1, hMM.1.2.2.2.2.2⟩ ((((((lo0.up (by show (sPk τ).1 < 16; omega)).tr (lo0.up (by show (sPk τ).1 < 16; omega))).tr (lo0.up (by show (sPk τ).1 < 16; omega))).tr (lo0.up (by show (sPk τ).1 < 16; omega))).tr (lo0.up (by show (sPk τ).1 < 16; omega))).tr (lo0.up (by decide))) (hMM.2.1.u (by rw [hU 117 (by decide)]) (by rw [hU 132 (by decide)]) rfl rfl) (hU 134 (by decide)) (by rw [hU 117 (by decide)]) (by rw [hU 117 (by decide)]) (hU 141 (by decide)) ⟨fun j hj => by rw [hU 124 (by decide)]; exact hz.1 j hj, fun j hj => ?_⟩, fun k hk => hU k (by omega), rfl⟩
            · have hk2 : k < (sPk τ).1 + 1 := hk
              rw [Nat.mul_zero, Nat.zero_add]
              show _ = nI (if k = (sPk τ).1 then s_ else (sPk τ).2.1 k) ∧ (if k = (sPk τ).1 then s_ else (sPk τ).2.1 k) < 2 ∧ _ = nI (if k = (sPk τ).1 then f_ else (sPk τ).2.2.1 k) ∧ (if k = (sPk τ).1 then f_ else (sPk τ).2.2.1 k) < 12 ∧ _ = nI (if k = (sPk τ).1 then o_ else (sPk τ).2.2.2.1 k) ∧ (if k = (sPk τ).1 then o_ else (sPk τ).2.2.2.1 k) ≤ 1000 ∧ _ = nI (if k = (sPk τ).1 then c_ else (sPk τ).2.2.2.2.1 k) ∧ (if k = (sPk τ).1 then c_ else (sPk τ).2.2.2.2.1 k) ≤ 99 ∧ _ = b32 (if k = (sPk τ).1 then false else (sPk τ).2.2.2.2.2 k)
              by_cases e : k = (sPk τ).1
              · subst e
                simp only [if_pos]
                refine ⟨?_, h_s_, ?_, h_f_, ?_, by omega, ?_, by omega, ?_⟩
                · rw [up2_ne (by decide), up2_ne (by decide), up2_ne (by decide), up2_ne (by decide), up2_ne (by decide), up2_at]
                · rw [up2_ne (by decide), up2_ne (by decide), up2_ne (by decide), up2_ne (by decide), up2_at]
                · rw [up2_ne (by decide), up2_ne (by decide), up2_ne (by decide), up2_at]
                · rw [up2_ne (by decide), up2_ne (by decide), up2_at]
                · rw [up2_ne (by decide), up2_at]; rfl
              · simp only [if_neg e]
                have q := hK0.2.2 k (by show k < (sPk τ).1; omega)
                refine ⟨?_, q.2.1, ?_, q.2.2.2.1, ?_, q.2.2.2.2.2.1, ?_, q.2.2.2.2.2.2.2.1, ?_⟩
                · rw [up2_ne (by decide), up2_ne (by decide), up2_ne (by decide), up2_ne (by decide), up2_ne (by decide), up2_off e]; exact q.1
                · rw [up2_ne (by decide), up2_ne (by decide), up2_ne (by decide), up2_ne (by decide), up2_off e, up2_ne (by decide)]; exact q.2.2.1
                · rw [up2_ne (by decide), up2_ne (by decide), up2_ne (by decide), up2_off e, up2_ne (by decide), up2_ne (by decide)]; exact q.2.2.2.2.1
                · rw [up2_ne (by decide), up2_ne (by decide), up2_off e, up2_ne (by decide), up2_ne (by decide), up2_ne (by decide)]; exact q.2.2.2.2.2.2.1
                · rw [up2_ne (by decide), up2_off e, up2_ne (by decide), up2_ne (by decide), up2_ne (by decide), up2_ne (by decide)]; exact q.2.2.2.2.2.2.2.2
            · rw [up2_ne (by decide)]
              by_cases e : j = (sPk τ).1
              · rw [e, up2_at]; exact Or.inl rfl
              · rw [up2_off e, up2_ne (by decide), up2_ne (by decide), up2_ne (by decide), up2_ne (by decide)]; exact hz.2 j hj
          · simp (disch := omega) only [nI_leI, nI_ltI, nI_eq, nI_eq0] at hb58
            refine r_ldc C (dk oX10_proof 30 rfl) kn_X10_139 ?_
            refine hret (dk oX10_proof 31 rfl) rfl ?_
            unfold q_proof
            rw [if_neg (Classical.not_not.mpr ⟨vd_n h_s_ (by decide), vd_n h_f_ (by decide)⟩), if_neg (Classical.not_not.mpr ⟨hvo, hvc⟩), if_pos (by omega)]
            exact ⟨rfl, hMM, fun _ _ => rfl, rfl⟩
        · rw [b32_0, decide_eq_false_iff_not] at hb40
          refine r_ldc C (dk oX10_proof 20 rfl) kn_X10_135 ?_
          refine hret (dk oX10_proof 21 rfl) rfl ?_
          unfold q_proof
          rw [if_neg (Classical.not_not.mpr ⟨vd_n h_s_ (by decide), vd_n h_f_ (by decide)⟩), if_pos]
          · exact ⟨rfl, hMM, fun _ _ => rfl, rfl⟩
          · first
              | exact fun q => hb27 q.1
              | exact fun q => hb40 q.2
    · rw [b32_0, decide_eq_false_iff_not] at hb11
      refine r_ldcw C (dk oX10_proof 6 rfl) kn_X10_264 ?_
      refine hret (dk oX10_proof 7 rfl) rfl ?_
      unfold q_proof
      first
        | (rw [if_pos (fun q => hb4 q.1)]; exact ⟨rfl, hMM, fun _ _ => rfl, rfl⟩)
        | (rw [if_pos (fun q => hb11 q.2)]; exact ⟨rfl, hMM, fun _ _ => rfl, rfl⟩)

set_option maxHeartbeats 1000000 in
set_option maxRecDepth 100000 in
theorem c_X10_keep (hn : 148 ≤ n) (I : MI) (J : MJ) (τ : St) (hMM : MM I τ) (x : Int32) : Ci l n ad cA D z 1 yX10_keep cX10_keep 2 .int I J [.ref (ad 117), .int x] (fun r I' J' => r = (q_keep τ x).1 ∧ MM I' (q_keep τ x).2 ∧ (∀ k, k < 117 → I' k = I k) ∧ J' = J) := by
  refine Ci.of (by decide) (Nat.le_of_ble_eq_true rfl) ?_
  intro p e s m args below meth c A C hin Z Q hret
  refine r_aload_n C 0 (dk oX10_keep 0 rfl) rfl ?_
  refine r_ivv C Z (dk oX10_keep 1 rfl) cl_X10_218 ci_X10_begin rfl (km hn rfl) (c_X10_begin hn I J) rfl rfl (Nat.le_of_ble_eq_true rfl) ⟨Nat.le_of_ble_eq_true rfl, Nat.le_of_ble_eq_true rfl⟩ ⟨Nat.zero_le _, Nat.zero_le _⟩ (fun I1 J1 h1 => ?_)
  obtain ⟨g1, g2, g3, g4, g5, g6, e2_⟩ := h1
  have e2_ := e2_.symm
  subst e2_
  have hbg : bgP I I1 := ⟨g1, g2, g3, g4, g5, g6⟩
  obtain ⟨hMM1, hdu1, hbe1⟩ := hMM.bg hbg
  have hF1 : ∀ k, k < 117 → I1 k = I k := fun k hk => g1 k (by omega) (by omega)
  refine r_iload_n C 1 (dk oX10_keep 2 rfl) rfl ?_
  refine r_i2l C (dk oX10_keep 3 rfl) ?_
  refine r_lconst C (dk oX10_keep 4 rfl) (v := 0) (by decide) ?_
  refine r_lconst C (dk oX10_keep 5 rfl) (v := 1) (by decide) ?_
  refine r_isi C Z (dk oX10_keep 6 rfl) cl_X10_131 st_X10_in (c_X10_in _ J (x.toInt64) (0) (1)) rfl rfl (Nat.le_of_ble_eq_true rfl) ⟨Nat.le_of_ble_eq_true rfl, Nat.le_of_ble_eq_true rfl⟩ ⟨Nat.zero_le _, Nat.zero_le _⟩ (fun r8 I8 J8 h8 => ?_)
  obtain ⟨h8, e1_, e2_⟩ := h8
  have e1_ := e1_.symm
  have e2_ := e2_.symm
  subst e1_
  subst e2_
  subst h8
  rw [show decide ((0 : Int64) ≤ x.toInt64 ∧ x.toInt64 ≤ 1) = decide (vdN x 2) from decide_eq_decide.mpr (in_vd (n := 1) (by decide) rfl rfl)]
  refine r_if_ne (tgt := 18) C (dk oX10_keep 7 rfl) (by decide) (fun hb11 => ?_) (fun hb11 => ?_)
  · rw [b32_n, decide_eq_true_eq] at hb11
    obtain ⟨i_, h_i_, hx_i_⟩ := vd_of (by decide) hb11
    subst hx_i_
    refine r_aload_n C 0 (dk oX10_keep 10 rfl) rfl ?_
    refine r_iconst C (dk oX10_keep 11 rfl) (v := nI 0) (by decide) ?_
    refine r_iload_n C 1 (dk oX10_keep 12 rfl) rfl ?_
    refine r_iconst C (dk oX10_keep 13 rfl) (v := nI 1) (by decide) ?_
    refine r_iadd C (dk oX10_keep 14 rfl) ?_
    rw [nI_add]
    refine r_ivv C Z (dk oX10_keep 15 rfl) cl_X10_362 ci_X10_copy rfl (km hn rfl) (c_X10_copy hn I1 J 0 (i_ + 1) (by decide) (by omega) (by omega) hMM1.2.2.2.2.2.1 hMM1.2.2.2.2.2.2) rfl rfl (Nat.le_of_ble_eq_true rfl) ⟨Nat.le_of_ble_eq_true rfl, Nat.le_of_ble_eq_true rfl⟩ ⟨Nat.zero_le _, Nat.zero_le _⟩ (fun I23 J23 h23 => ?_)
    obtain ⟨hcp, e2_⟩ := h23
    have e2_ := e2_.symm
    subst e2_
    have hcF := hcp.2.2.2.2.2.2.2.2.2.2.2.2.2.2.2.2
    refine r_aload_n C 0 (dk oX10_keep 16 rfl) rfl ?_
    refine r_getR C (dk oX10_keep 17 rfl) fl_X10_59 rfl (km hn rfl) ?_
    refine r_iload_n C 1 (dk oX10_keep 18 rfl) rfl ?_
    refine r_iconst C (dk oX10_keep 19 rfl) (v := nI 1) (by decide) ?_
    refine r_iadd C (dk oX10_keep 20 rfl) ?_
    rw [nI_add]
    refine r_iconst C (dk oX10_keep 21 rfl) (v := nI 1) (by decide) ?_
    refine r_zast C _ (dk oX10_keep 22 rfl) rfl (km hn rfl) rfl (by omega) (by decide) (by first | exact Or.inl rfl | exact Or.inr rfl | assumption) ?_
    refine r_iconst C (dk oX10_keep 23 rfl) (v := nI 1) (by decide) ?_
    refine hret (dk oX10_keep 24 rfl) rfl ?_
    unfold q_keep
    rw [if_pos (vd_n h_i_ (by decide)), cN_n (by omega)]
    have hs : ∀ k, 117 < k → k < 134 → up2 I23 134 (i_ + 1) (nI 1) k = I23 k := fun k a b => up2_ne (by omega)
    have h132 := hcp.2.2.2.2.2.2.2.2.2.2.2.2.2.2.1
    refine ⟨rfl, ⟨(hMM1.1.co hcp (by omega)).r hs, Or.inl ⟨?_, ?_⟩, fun i hi => ?_, hMM1.2.2.2.1.of (by rw [up2_ne (by decide), hcF 117 (by decide)]) (by rw [up2_ne (by decide), hcF 141 (by decide)]), by rw [up2_ne (by decide), hcF 117 (by decide)]; exact hMM1.2.2.2.2.1, ?_⟩, fun k hk => by rw [up2_ne (by omega), hcF k (by omega)]; exact hF1 k hk, rfl⟩
    · rw [up2_ne (by decide), hcF 117 (by decide)]; exact hbe1
    · rw [up2_ne (by decide), h132, cpE_o1 (by omega)]; exact hdu1
    · show _ = b32 (if i = i_ then true else sKp τ i) ∧ ((if i = i_ then true else sKp τ i) = true → MSl _ (i + 1) (if i = i_ then τ.1 else sIm τ i) ∧ _ = nI (if i = i_ then τ.1 else sIm τ i).2.2.2.1)
      rw [up2_ne (k := 134) (k' := 132) (by decide), h132]
      by_cases e : i = i_
      · subst e
        rw [if_pos rfl, if_pos rfl, up2_at, cpE_i1]
        exact ⟨rfl, fun _ => ⟨(hMM1.1.cp hcp).r hs, hdu1⟩⟩
      · rw [if_neg e, if_neg e, up2_off (by omega), hcF 134 (by decide), cpE_o1 (by omega)]
        exact ⟨(hMM1.2.2.1 i hi).1, fun hk => ⟨(((hMM1.2.2.1 i hi).2 hk).1.co hcp (by omega)).r hs, ((hMM1.2.2.1 i hi).2 hk).2⟩⟩
    · have h := hcp.zz (by decide) hMM1.2.2.2.2.2
      unfold MZs
      rw [up2_ne (by decide), up2_ne (by decide)]
      exact h
  · rw [b32_0, decide_eq_false_iff_not] at hb11
    refine r_ldcw C (dk oX10_keep 8 rfl) kn_X10_264 ?_
    refine hret (dk oX10_keep 9 rfl) rfl ?_
    unfold q_keep
    rw [if_neg hb11]
    exact ⟨rfl, hMM1, hF1, rfl⟩

set_option maxHeartbeats 1000000 in
set_option maxRecDepth 100000 in
theorem c_X10_goBack (hn : 148 ≤ n) (I : MI) (J : MJ) (τ : St) (hMM : MM I τ) (x : Int32) : Ci l n ad cA D z 1 yX10_goBack cX10_goBack 2 .int I J [.ref (ad 117), .int x] (fun r I' J' => r = (q_goBack τ x).1 ∧ MM I' (q_goBack τ x).2 ∧ (∀ k, k < 117 → I' k = I k) ∧ J' = J) := by
  refine Ci.of (by decide) (Nat.le_of_ble_eq_true rfl) ?_
  intro p e s m args below meth c A C hin Z Q hret
  refine r_iload_n C 1 (dk oX10_goBack 0 rfl) rfl ?_
  refine r_i2l C (dk oX10_goBack 1 rfl) ?_
  refine r_lconst C (dk oX10_goBack 2 rfl) (v := 0) (by decide) ?_
  refine r_lconst C (dk oX10_goBack 3 rfl) (v := 1) (by decide) ?_
  refine r_isi C Z (dk oX10_goBack 4 rfl) cl_X10_131 st_X10_in (c_X10_in _ J (x.toInt64) (0) (1)) rfl rfl (Nat.le_of_ble_eq_true rfl) ⟨Nat.le_of_ble_eq_true rfl, Nat.le_of_ble_eq_true rfl⟩ ⟨Nat.zero_le _, Nat.zero_le _⟩ (fun r4 I4 J4 h4 => ?_)
  obtain ⟨h4, e1_, e2_⟩ := h4
  have e1_ := e1_.symm
  have e2_ := e2_.symm
  subst e1_
  subst e2_
  subst h4
  rw [show decide ((0 : Int64) ≤ x.toInt64 ∧ x.toInt64 ≤ 1) = decide (vdN x 2) from decide_eq_decide.mpr (in_vd (n := 1) (by decide) rfl rfl)]
  refine r_if_ne (tgt := 14) C (dk oX10_goBack 5 rfl) (by decide) (fun hb7 => ?_) (fun hb7 => ?_)
  · rw [b32_n, decide_eq_true_eq] at hb7
    obtain ⟨i_, h_i_, hx_i_⟩ := vd_of (by decide) hb7
    subst hx_i_
    refine r_aload_n C 0 (dk oX10_goBack 8 rfl) rfl ?_
    refine r_getR C (dk oX10_goBack 9 rfl) fl_X10_59 rfl (km hn rfl) ?_
    refine r_iload_n C 1 (dk oX10_goBack 10 rfl) rfl ?_
    refine r_iconst C (dk oX10_goBack 11 rfl) (v := nI 1) (by decide) ?_
    refine r_iadd C (dk oX10_goBack 12 rfl) ?_
    rw [nI_add]
    refine r_zald C _ (dk oX10_goBack 13 rfl) rfl (km hn rfl) rfl (by omega) (by decide) ?_
    rw [(hMM.2.2.1 i_ h_i_).1]
    refine r_if_ne (tgt := 28) C (dk oX10_goBack 14 rfl) (by decide) (fun hb22 => ?_) (fun hb22 => ?_)
    · rw [b32_n] at hb22
      have hIm := (hMM.2.2.1 i_ h_i_).2 hb22
      refine r_aload_n C 0 (dk oX10_goBack 17 rfl) rfl ?_
      refine r_iload_n C 1 (dk oX10_goBack 18 rfl) rfl ?_
      refine r_iconst C (dk oX10_goBack 19 rfl) (v := nI 1) (by decide) ?_
      refine r_iadd C (dk oX10_goBack 20 rfl) ?_
      rw [nI_add]
      refine r_iconst C (dk oX10_goBack 21 rfl) (v := nI 0) (by decide) ?_
      refine r_ivv C Z (dk oX10_goBack 22 rfl) cl_X10_362 ci_X10_copy rfl (km hn rfl) (c_X10_copy hn I J (i_ + 1) 0 (by omega) (by decide) (by omega) hMM.2.2.2.2.2.1 hMM.2.2.2.2.2.2) rfl rfl (Nat.le_of_ble_eq_true rfl) ⟨Nat.le_of_ble_eq_true rfl, Nat.le_of_ble_eq_true rfl⟩ ⟨Nat.zero_le _, Nat.zero_le _⟩ (fun I33 J33 h33 => ?_)
      obtain ⟨hcp, e2_⟩ := h33
      have e2_ := e2_.symm
      subst e2_
      have hcF := hcp.2.2.2.2.2.2.2.2.2.2.2.2.2.2.2.2
      refine r_iconst C (dk oX10_goBack 23 rfl) (v := nI 1) (by decide) ?_
      refine hret (dk oX10_goBack 24 rfl) rfl ?_
      unfold q_goBack
      rw [if_pos (vd_n h_i_ (by decide)), cN_n (by omega), if_pos hb22]
      have h132 := hcp.2.2.2.2.2.2.2.2.2.2.2.2.2.2.1
      have hbe : I 117 17 = nI 1 := by
        rcases hMM.2.1 with h | h
        · exact h.1
        · rw [h.2.2 i_ h_i_] at hb22; cases hb22
      refine ⟨rfl, ⟨hIm.1.cp hcp, Or.inl ⟨?_, ?_⟩, fun i hi => ?_, hMM.2.2.2.1.of (by rw [hcF 117 (by decide)]) (hcF 141 (by decide)), by rw [hcF 117 (by decide)]; exact hMM.2.2.2.2.1, hcp.zz (by omega) hMM.2.2.2.2.2⟩, fun k hk => hcF k (by omega), rfl⟩
      · rw [hcF 117 (by decide)]; exact hbe
      · rw [h132, cpE_i1]; exact hIm.2
      · rw [hcF 134 (by decide), h132, cpE_o1 (by omega)]
        exact ⟨(hMM.2.2.1 i hi).1, fun hk => ⟨((hMM.2.2.1 i hi).2 hk).1.co hcp (by omega), ((hMM.2.2.1 i hi).2 hk).2⟩⟩
    · rw [b32_0] at hb22
      refine r_ldc C (dk oX10_goBack 15 rfl) kn_X10_221 ?_
      refine hret (dk oX10_goBack 16 rfl) rfl ?_
      unfold q_goBack
      rw [if_pos (vd_n h_i_ (by decide)), cN_n (by omega), if_neg (by rw [hb22]; decide)]
      exact ⟨rfl, hMM, fun _ _ => rfl, rfl⟩
  · rw [b32_0, decide_eq_false_iff_not] at hb7
    refine r_ldcw C (dk oX10_goBack 6 rfl) kn_X10_264 ?_
    refine hret (dk oX10_goBack 7 rfl) rfl ?_
    unfold q_goBack
    rw [if_neg hb7]
    exact ⟨rfl, hMM, fun _ _ => rfl, rfl⟩

end MOD15
