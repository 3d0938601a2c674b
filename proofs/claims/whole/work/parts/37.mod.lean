section MOD6
variable {l : Launch} {n : Nat} {ad : Nat → Nat} {cA : Nat → ClassId} {D : va_G} {z : Zw}
set_option maxHeartbeats 1000000 in
set_option maxRecDepth 100000 in
theorem c_X10_chanceOf (hn : 148 ≤ n) (I : MI) (J : MJ) (Φ : Nat → FS) (hM : FcM I 134 Φ) (hok : fsA Φ) (c_ : Nat) (C_ : List Nat) (hc : c_ < 6) (hC : MCd I c_ C_) (W_ : Nat → Nat) (hW : ∀ s, s < 4096 → I 145 s = nI (W_ s) ∧ W_ s ≤ 1000000) : Ci l n ad cA D z 3 yX10_chanceOf cX10_chanceOf 4 .int I J [.ref (ad 117), .int (nI c_)] (fun r I' J' => r = nI (sumN (fun s => if evC C_ (soD Φ s 0) = true then W_ s else 0) 4096) ∧ skF I I' ∧ J' = J) := by
  refine Ci.of (by decide) (Nat.le_of_ble_eq_true rfl) ?_
  intro p e s m args below meth c A C hin Z Q hret
  refine r_iconst C (dk oX10_chanceOf 0 rfl) (v := nI 0) (by decide) ?_
  refine r_istore_n (lo' := [(2, _), (0, _), (1, _)]) C (dk oX10_chanceOf 1 rfl) rfl (by decide) rfl ?_
  refine r_iconst C (dk oX10_chanceOf 2 rfl) (v := nI 0) (by decide) ?_
  refine r_istore_n (lo' := [(3, _), (2, _), (0, _), (1, _)]) C (dk oX10_chanceOf 3 rfl) rfl (by decide) rfl ?_
  have L4 : ∀ (d_ : Nat) (s_ : Nat) (I1 : MI), 4096 - s_ < d_ → s_ ≤ 4096 → skF I I1 → V p l e (rmL 3) s m args below meth c Q D A 4 0 0 n ad (mE cA ad I1 J) 4 [(0, .ref (ad 117)), (1, .int (nI c_)), (2, .int (nI (sumN (fun s => if evC C_ (soD Φ s 0) = true then W_ s else 0) s_))), (3, .int (nI s_))] [] := by
    intro d_
    induction d_ with
    | zero => intros; exact absurd (by assumption) (Nat.not_lt_zero _)
    | succ d_ ih => 
      intro s_ I1 hd_ hs hsk
      refine r_iload_n C 3 (dk oX10_chanceOf 4 rfl) rfl ?_
      refine r_sipush C (dk oX10_chanceOf 5 rfl) (v := nI 4096) (by decide) ?_
      refine r_icmp_ge (tgt := 49) C (dk oX10_chanceOf 6 rfl) (by decide) (fun hb8 => ?_) (fun hb8 => ?_)
      · simp (disch := omega) only [nI_leI, nI_ltI, nI_eq, nI_eq0] at hb8
        refine r_iload_n C 2 (dk oX10_chanceOf 29 rfl) rfl ?_
        refine hret (dk oX10_chanceOf 30 rfl) rfl ?_
        exact ⟨by rw [show s_ = 4096 by omega], hsk, rfl⟩
      · simp (disch := omega) only [nI_leI, nI_ltI, nI_eq, nI_eq0] at hb8
        refine r_aload_n C 0 (dk oX10_chanceOf 7 rfl) rfl ?_
        refine r_getR C (dk oX10_chanceOf 8 rfl) fl_X10_96 rfl (km hn rfl) ?_
        refine r_iload_n C 3 (dk oX10_chanceOf 9 rfl) rfl ?_
        refine r_iald C _ (dk oX10_chanceOf 10 rfl) rfl (km hn rfl) rfl (by omega) (by decide) ?_
        have hw6 := (hW s_ (by omega)).2
        rw [hsk.1 145 (by decide), (hW s_ (by omega)).1]
        refine r_if_le (tgt := 43) C (dk oX10_chanceOf 11 rfl) (by decide) (fun hb17 => ?_) (fun hb17 => ?_)
        · have hw0 : W_ s_ = 0 := by
            have h := hb17
            rw [show (0 : Int32) = nI 0 from rfl] at h
            simp (disch := omega) only [nI_leI] at h
            omega
          refine r_iinc (lo' := [(3, _), (0, _), (1, _), (2, _)]) C 3 (dk oX10_chanceOf 27 rfl) rfl (by first | exact nI_inc _ | rfl) (by decide) rfl ?_
          refine r_goto (tgt := 4) C (dk oX10_chanceOf 28 rfl) (by decide) ?_
          refine V.sub [1, 2, 3, 0] rfl ?_
          have hS : sumN (fun s => if evC C_ (soD Φ s 0) = true then W_ s else 0) (s_ + 1) = sumN (fun s => if evC C_ (soD Φ s 0) = true then W_ s else 0) s_ + (if evC C_ (soD Φ s_ 0) = true then W_ s_ else 0) := rfl
          first
            | (have hih := ih (s_ + 1) I1 (by omega) (by omega) hsk
               rw [hS, hw0, ite_self, Nat.add_zero] at hih
               exact hih)
            | (have hih := ih (s_ + 1) I28 (by omega) (by omega) hsk2
               rw [hS, hb31] at hih
               first
                 | (rw [if_neg (by decide), Nat.add_zero] at hih; exact hih)
                 | (rw [if_pos rfl] at hih; exact hih))
        · refine r_aload_n C 0 (dk oX10_chanceOf 12 rfl) rfl ?_
          refine r_iload_n C 1 (dk oX10_chanceOf 13 rfl) rfl ?_
          refine r_aload_n C 0 (dk oX10_chanceOf 14 rfl) rfl ?_
          refine r_iload_n C 3 (dk oX10_chanceOf 15 rfl) rfl ?_
          refine r_iconst C (dk oX10_chanceOf 16 rfl) (v := nI 0) (by decide) ?_
          refine r_ivi C Z (dk oX10_chanceOf 17 rfl) cl_X10_281 ci_X10_soBy rfl (km hn rfl) (c_X10_soBy hn I1 J Φ (hM.of (fun c a b => hsk.1 c (by omega))) s_ 0 (by omega) (by decide)) rfl rfl (Nat.le_of_ble_eq_true rfl) ⟨Nat.le_of_ble_eq_true rfl, Nat.le_of_ble_eq_true rfl⟩ ⟨Nat.zero_le _, Nat.zero_le _⟩ (fun r25 I25 J25 h25 => ?_)
          obtain ⟨h25, e1_, e2_⟩ := h25
          have e1_ := e1_.symm
          have e2_ := e2_.symm
          subst e1_
          subst e2_
          subst h25
          refine r_ivi C Z (dk oX10_chanceOf 18 rfl) cl_X10_275 ci_X10_asks rfl (km hn rfl) (c_X10_asks hn I1 J c_ (soD Φ s_ 0) C_ hc soD_lt (hC.of (hsk.1 120 (by decide)) (hsk.1 121 (by decide)))) rfl rfl (Nat.le_of_ble_eq_true rfl) ⟨Nat.le_of_ble_eq_true rfl, Nat.le_of_ble_eq_true rfl⟩ ⟨Nat.zero_le _, Nat.zero_le _⟩ (fun r28 I28 J28 h28 => ?_)
          obtain ⟨e1_, hsk28, e2_⟩ := h28
          have e1_ := e1_.symm
          have e2_ := e2_.symm
          subst e1_
          subst e2_
          have hsk2 := hsk.trans hsk28
          refine r_if_eq (tgt := 43) C (dk oX10_chanceOf 19 rfl) (by decide) (fun hb31 => ?_) (fun hb31 => ?_)
          · rw [b32_0] at hb31
            refine r_iinc (lo' := [(3, _), (0, _), (1, _), (2, _)]) C 3 (dk oX10_chanceOf 27 rfl) rfl (by first | exact nI_inc _ | rfl) (by decide) rfl ?_
            refine r_goto (tgt := 4) C (dk oX10_chanceOf 28 rfl) (by decide) ?_
            refine V.sub [1, 2, 3, 0] rfl ?_
            have hS : sumN (fun s => if evC C_ (soD Φ s 0) = true then W_ s else 0) (s_ + 1) = sumN (fun s => if evC C_ (soD Φ s 0) = true then W_ s else 0) s_ + (if evC C_ (soD Φ s_ 0) = true then W_ s_ else 0) := rfl
            first
              | (have hih := ih (s_ + 1) I1 (by omega) (by omega) hsk
                 rw [hS, hw0, ite_self, Nat.add_zero] at hih
                 exact hih)
              | (have hih := ih (s_ + 1) I28 (by omega) (by omega) hsk2
                 rw [hS, hb31] at hih
                 first
                   | (rw [if_neg (by decide), Nat.add_zero] at hih; exact hih)
                   | (rw [if_pos rfl] at hih; exact hih))
          · rw [b32_n] at hb31
            refine r_iload_n C 2 (dk oX10_chanceOf 20 rfl) rfl ?_
            refine r_aload_n C 0 (dk oX10_chanceOf 21 rfl) rfl ?_
            refine r_getR C (dk oX10_chanceOf 22 rfl) fl_X10_96 rfl (km hn rfl) ?_
            refine r_iload_n C 3 (dk oX10_chanceOf 23 rfl) rfl ?_
            refine r_iald C _ (dk oX10_chanceOf 24 rfl) rfl (km hn rfl) rfl (by omega) (by decide) ?_
            rw [hsk2.1 145 (by decide), (hW s_ (by omega)).1]
            refine r_iadd C (dk oX10_chanceOf 25 rfl) ?_
            rw [nI_add]
            refine r_istore_n (lo' := [(2, _), (0, _), (1, _), (3, _)]) C (dk oX10_chanceOf 26 rfl) rfl (by decide) rfl ?_
            refine r_iinc (lo' := [(3, _), (2, _), (0, _), (1, _)]) C 3 (dk oX10_chanceOf 27 rfl) rfl (by first | exact nI_inc _ | rfl) (by decide) rfl ?_
            refine r_goto (tgt := 4) C (dk oX10_chanceOf 28 rfl) (by decide) ?_
            refine V.sub [2, 3, 1, 0] rfl ?_
            have hS : sumN (fun s => if evC C_ (soD Φ s 0) = true then W_ s else 0) (s_ + 1) = sumN (fun s => if evC C_ (soD Φ s 0) = true then W_ s else 0) s_ + (if evC C_ (soD Φ s_ 0) = true then W_ s_ else 0) := rfl
            first
              | (have hih := ih (s_ + 1) I1 (by omega) (by omega) hsk
                 rw [hS, hw0, ite_self, Nat.add_zero] at hih
                 exact hih)
              | (have hih := ih (s_ + 1) I28 (by omega) (by omega) hsk2
                 rw [hS, hb31] at hih
                 first
                   | (rw [if_neg (by decide), Nat.add_zero] at hih; exact hih)
                   | (rw [if_pos rfl] at hih; exact hih))
  refine V.sub [2, 3, 1, 0] rfl ?_
  exact L4 4097 0 I (by omega) (Nat.zero_le _) (skF.rf I)

set_option maxHeartbeats 1000000 in
set_option maxRecDepth 100000 in
theorem c_X10_worthBy (hn : 148 ≤ n) (I : MI) (J : MJ) (Φ : Nat → FS) (hM : FcM I 134 Φ) (hok : fsA Φ) (k_ : Prf) (hK : MK0 I k_) (cl : Clm) (hC : MC0 I cl) (m_ : Nat) (hm : m_ < 65536) : Ci l n ad cA D z 5 yX10_worthBy cX10_worthBy 6 .int I J [.ref (ad 117), .int (nI m_)] (fun r I' J' => r = wtF cl k_ Φ (brQ k_ ||| m_) ∧ (∀ k, k ≠ 117 → k ≠ 145 → k ≠ 146 → I' k = I k) ∧ (∀ i, i ≠ 39 → I' 117 i = I 117 i) ∧ J' = J) := by
  refine Ci.of (by decide) (Nat.le_of_ble_eq_true rfl) ?_
  intro p e s m args below meth c A C hin Z Q hret
  have hnc := hC.1
  refine r_aload_n C 0 (dk oX10_worthBy 0 rfl) rfl ?_
  refine r_iload_n C 1 (dk oX10_worthBy 1 rfl) rfl ?_
  refine r_ivv C Z (dk oX10_worthBy 2 rfl) cl_X10_318 ci_X10_findWays rfl (km hn rfl) (c_X10_findWays hn I J Φ hM hok k_ hK m_ hm) rfl rfl (Nat.le_of_ble_eq_true rfl) ⟨Nat.le_of_ble_eq_true rfl, Nat.le_of_ble_eq_true rfl⟩ ⟨Nat.zero_le _, Nat.zero_le _⟩ (fun I2 J2 h2 => ?_)
  obtain ⟨hW, hO2, e2_⟩ := h2
  have e2_ := e2_.symm
  subst e2_
  refine r_iconst C (dk oX10_worthBy 3 rfl) (v := nI 0) (by decide) ?_
  refine r_istore_n (lo' := [(2, _), (0, _), (1, _)]) C (dk oX10_worthBy 4 rfl) rfl (by decide) rfl ?_
  refine r_iconst C (dk oX10_worthBy 5 rfl) (v := nI 0) (by decide) ?_
  refine r_istore_n (lo' := [(3, _), (2, _), (0, _), (1, _)]) C (dk oX10_worthBy 6 rfl) rfl (by decide) rfl ?_
  have L9 : ∀ (d_ : Nat) (c_ : Nat) (I1 : MI), cl.1 - c_ < d_ → c_ ≤ cl.1 → (∀ k, k ≠ 117 → I1 k = I2 k) → (∀ i, i ≠ 39 → I1 117 i = I2 117 i) → V p l e (rmL 5) s m args below meth c Q D A 6 0 0 n ad (mE cA ad I1 J) 9 [(0, .ref (ad 117)), (1, .int (nI m_)), (2, .int (wtN cl.2.1 (fun c => chF (brQ k_ ||| m_) k_.1 k_.2.1 k_.2.2.1 k_.2.2.2.1 Φ (cl.2.2 c)) c_)), (3, .int (nI c_))] [] := by
    intro d_
    induction d_ with
    | zero => intros; exact absurd (by assumption) (Nat.not_lt_zero _)
    | succ d_ ih => 
      intro c_ I1 hd_ hc hO1 hO3
      have hC1 : MC0 I1 cl := hC.of (fun c a b => by rw [hO1 c (by omega)]; exact hO2 c (by omega) (by omega))
      refine r_iload_n C 3 (dk oX10_worthBy 7 rfl) rfl ?_
      refine r_aload_n C 0 (dk oX10_worthBy 8 rfl) rfl ?_
      refine r_getR C (dk oX10_worthBy 9 rfl) fl_X10_7 rfl (km hn rfl) ?_
      refine r_iconst C (dk oX10_worthBy 10 rfl) (v := nI 0) (by decide) ?_
      refine r_iald C 0 (dk oX10_worthBy 11 rfl) rfl (km hn rfl) rfl (by decide) (by decide) ?_
      rw [hC1.2.1]
      refine r_icmp_ge (tgt := 89) C (dk oX10_worthBy 12 rfl) (by decide) (fun hb16 => ?_) (fun hb16 => ?_)
      · simp (disch := omega) only [nI_leI, nI_ltI, nI_eq, nI_eq0] at hb16
        refine r_iload_n C 2 (dk oX10_worthBy 54 rfl) rfl ?_
        refine hret (dk oX10_worthBy 55 rfl) rfl ?_
        exact ⟨by rw [show c_ = cl.1 by omega]; rfl, fun k a b c => by rw [hO1 k a]; exact hO2 k b c, fun i hi => by rw [hO3 i hi, hO2 117 (by decide) (by decide)], rfl⟩
      · simp (disch := omega) only [nI_leI, nI_ltI, nI_eq, nI_eq0] at hb16
        refine r_aload_n C 0 (dk oX10_worthBy 13 rfl) rfl ?_
        refine r_getR C (dk oX10_worthBy 14 rfl) fl_X10_13 rfl (km hn rfl) ?_
        refine r_iload_n C 3 (dk oX10_worthBy 15 rfl) rfl ?_
        refine r_iald C _ (dk oX10_worthBy 16 rfl) rfl (km hn rfl) rfl (by omega) (by decide) ?_
        have hco := hC1.2.2 c_ (by omega)
        rw [hco.1]
        refine r_if_ge (tgt := 38) C (dk oX10_worthBy 17 rfl) (by decide) (fun hb25 => ?_) (fun hb25 => ?_)
        · refine r_aload_n C 0 (dk oX10_worthBy 24 rfl) rfl ?_
          refine r_getR C (dk oX10_worthBy 25 rfl) fl_X10_13 rfl (km hn rfl) ?_
          refine r_iload_n C 3 (dk oX10_worthBy 26 rfl) rfl ?_
          refine r_iald C _ (dk oX10_worthBy 27 rfl) rfl (km hn rfl) rfl (by omega) (by decide) ?_
          rw [hco.1]
          have ha0 : ∃ a, a ≤ 999 ∧ cl.2.1 c_ = nI a := by
            obtain ⟨a, ha, h | h⟩ := hco.2.1
            · exact ⟨a, ha, h⟩
            · refine ⟨a, ha, ?_⟩
              rw [h] at hb25
              have hz : ¬ 0 < a := fun q => absurd hb25 (Int32.not_le.mpr ((neg_lt0 ha).mpr q))
              rw [h, show a = 0 by omega]
              rfl
          obtain ⟨a_, ha, hae⟩ := ha0
          refine r_topI (show cl.2.1 c_ = nI a_ from hae) ?_
          refine r_istore (lo' := [(4, _), (0, _), (1, _), (2, _), (3, _)]) C (dk oX10_worthBy 28 rfl) (by decide) rfl ?_
          refine r_iload C 0 (dk oX10_worthBy 29 rfl) rfl ?_
          refine r_i2l C (dk oX10_worthBy 30 rfl) ?_
          refine r_aload_n C 1 (dk oX10_worthBy 31 rfl) rfl ?_
          refine r_iload_n C 4 (dk oX10_worthBy 32 rfl) rfl ?_
          refine r_ivi C Z (dk oX10_worthBy 33 rfl) cl_X10_321 ci_X10_chanceOf rfl (km hn rfl) (c_X10_chanceOf hn I1 J Φ (hM.of (fun c a b => by rw [hO1 c (by omega)]; exact hO2 c (by omega) (by omega))) hok c_ (cl.2.2 c_) (by omega) hco.2.2 (wyM Φ (fun f => shQ k_ Φ (brQ k_ ||| m_) f)) (fun s hs => ⟨by rw [hO1 145 (by decide)]; exact hW s hs, wyM_le (fun f => shF_le)⟩)) rfl rfl (Nat.le_of_ble_eq_true rfl) ⟨Nat.le_of_ble_eq_true rfl, Nat.le_of_ble_eq_true rfl⟩ ⟨Nat.zero_le _, Nat.zero_le _⟩ (fun r51 I51 J51 h51 => ?_)
          obtain ⟨e1_, hskC, e2_⟩ := h51
          rw [chM_eq hok] at e1_
          have e1_ : r51 = nI (chF (brQ k_ ||| m_) k_.1 k_.2.1 k_.2.2.1 k_.2.2.2.1 Φ (cl.2.2 c_)) := e1_
          have e1_ := e1_.symm
          have e2_ := e2_.symm
          subst e1_
          subst e2_
          have hch : (chF (brQ k_ ||| m_) k_.1 k_.2.1 k_.2.2.1 k_.2.2.2.1 Φ (cl.2.2 c_)) ≤ 1000000 := chF_le
          refine r_i2l C (dk oX10_worthBy 34 rfl) ?_
          refine r_lmul C (dk oX10_worthBy 35 rfl) ?_
          refine r_ldc2 C (dk oX10_worthBy 36 rfl) kn_X10_305 ?_
          refine r_ldiv C (dk oX10_worthBy 37 rfl) (by decide) ?_
          refine r_l2i C (dk oX10_worthBy 38 rfl) ?_
          rw [wt_l ha hch]
          refine r_istore (lo' := [(5, _), (4, _), (0, _), (1, _), (2, _), (3, _)]) C (dk oX10_worthBy 39 rfl) (by decide) rfl ?_
          refine r_iload_n C 4 (dk oX10_worthBy 40 rfl) rfl ?_
          refine r_aload_n C 2 (dk oX10_worthBy 41 rfl) rfl ?_
          refine r_getR C (dk oX10_worthBy 42 rfl) fl_X10_13 rfl (km hn rfl) ?_
          refine r_iload_n C 5 (dk oX10_worthBy 43 rfl) rfl ?_
          refine r_iald C _ (dk oX10_worthBy 44 rfl) rfl (km hn rfl) rfl (by omega) (by decide) ?_
          rw [hskC.1 119 (by decide), hco.1]
          refine r_if_ge (tgt := 79) C (dk oX10_worthBy 45 rfl) (by decide) (fun hb70 => ?_) (fun hb70 => ?_)
          · first
              | exact absurd hb70 hb25
              | refine r_iload C 0 (dk oX10_worthBy 49 rfl) rfl ?_
                refine r_topI (show nI (a_ * (chF (brQ k_ ||| m_) k_.1 k_.2.1 k_.2.2.1 k_.2.2.2.1 Φ (cl.2.2 c_)) / 1000) = cl.2.1 c_ * nI (chF (brQ k_ ||| m_) k_.1 k_.2.1 k_.2.2.1 k_.2.2.2.1 Φ (cl.2.2 c_)) / nI 1000 from by rw [hae, wt_pos ha hch]) ?_
                refine r_iadd C (dk oX10_worthBy 50 rfl) ?_
                refine r_istore_n (lo' := [(2, _), (5, _), (4, _), (0, _), (1, _), (3, _)]) C (dk oX10_worthBy 51 rfl) rfl (by decide) rfl ?_
                refine r_iinc (lo' := [(3, _), (2, _), (5, _), (4, _), (0, _), (1, _)]) C 5 (dk oX10_worthBy 52 rfl) rfl (by first | exact nI_inc _ | rfl) (by decide) rfl ?_
                refine r_goto (tgt := 9) C (dk oX10_worthBy 53 rfl) (by decide) ?_
                refine V.sub [4, 5, 1, 0] rfl ?_
                have hih := ih (c_ + 1) I51 (by omega) (by omega) (fun k hk => by rw [hskC.1 k hk]; exact hO1 k hk) (fun i hi => by rw [hskC.2 i hi]; exact hO3 i hi)
                rw [show wtN cl.2.1 (fun c => chF (brQ k_ ||| m_) k_.1 k_.2.1 k_.2.2.1 k_.2.2.2.1 Φ (cl.2.2 c)) (c_ + 1) = (wtN cl.2.1 (fun c => chF (brQ k_ ||| m_) k_.1 k_.2.1 k_.2.2.1 k_.2.2.2.1 Φ (cl.2.2 c)) c_) + cl.2.1 c_ * nI (chF (brQ k_ ||| m_) k_.1 k_.2.1 k_.2.2.1 k_.2.2.2.1 Φ (cl.2.2 c_)) / nI 1000 from rfl] at hih
                exact hih
          · first
              | exact absurd hb25 hb70
              | refine r_iload C 0 (dk oX10_worthBy 46 rfl) rfl ?_
                refine r_ineg C (dk oX10_worthBy 47 rfl) ?_
                refine r_topI (show -(nI (a_ * (chF (brQ k_ ||| m_) k_.1 k_.2.1 k_.2.2.1 k_.2.2.2.1 Φ (cl.2.2 c_)) / 1000)) = cl.2.1 c_ * nI (chF (brQ k_ ||| m_) k_.1 k_.2.1 k_.2.2.1 k_.2.2.2.1 Φ (cl.2.2 c_)) / nI 1000 from by rw [hae, wt_neg ha hch]) ?_
                refine r_goto (tgt := 81) C (dk oX10_worthBy 48 rfl) (by decide) ?_
                refine r_iadd C (dk oX10_worthBy 50 rfl) ?_
                refine r_istore_n (lo' := [(2, _), (5, _), (4, _), (0, _), (1, _), (3, _)]) C (dk oX10_worthBy 51 rfl) rfl (by decide) rfl ?_
                refine r_iinc (lo' := [(3, _), (2, _), (5, _), (4, _), (0, _), (1, _)]) C 5 (dk oX10_worthBy 52 rfl) rfl (by first | exact nI_inc _ | rfl) (by decide) rfl ?_
                refine r_goto (tgt := 9) C (dk oX10_worthBy 53 rfl) (by decide) ?_
                refine V.sub [4, 5, 1, 0] rfl ?_
                have hih := ih (c_ + 1) I51 (by omega) (by omega) (fun k hk => by rw [hskC.1 k hk]; exact hO1 k hk) (fun i hi => by rw [hskC.2 i hi]; exact hO3 i hi)
                rw [show wtN cl.2.1 (fun c => chF (brQ k_ ||| m_) k_.1 k_.2.1 k_.2.2.1 k_.2.2.2.1 Φ (cl.2.2 c)) (c_ + 1) = (wtN cl.2.1 (fun c => chF (brQ k_ ||| m_) k_.1 k_.2.1 k_.2.2.1 k_.2.2.2.1 Φ (cl.2.2 c)) c_) + cl.2.1 c_ * nI (chF (brQ k_ ||| m_) k_.1 k_.2.1 k_.2.2.1 k_.2.2.2.1 Φ (cl.2.2 c_)) / nI 1000 from rfl] at hih
                exact hih
        · refine r_aload_n C 0 (dk oX10_worthBy 18 rfl) rfl ?_
          refine r_getR C (dk oX10_worthBy 19 rfl) fl_X10_13 rfl (km hn rfl) ?_
          refine r_iload_n C 3 (dk oX10_worthBy 20 rfl) rfl ?_
          refine r_iald C _ (dk oX10_worthBy 21 rfl) rfl (km hn rfl) rfl (by omega) (by decide) ?_
          rw [hco.1]
          refine r_ineg C (dk oX10_worthBy 22 rfl) ?_
          have ha0 : ∃ a, a ≤ 999 ∧ 0 < a ∧ cl.2.1 c_ = -nI a := by
            obtain ⟨a, ha, h | h⟩ := hco.2.1
            · rw [h] at hb25
              exact absurd (Int32.not_le.mp hb25) (nI_lt0 (by omega))
            · refine ⟨a, ha, ?_, h⟩
              rw [h] at hb25
              exact (neg_lt0 ha).mp (Int32.not_le.mp hb25)
          obtain ⟨a_, ha, hapos, hae⟩ := ha0
          refine r_topI (show -cl.2.1 c_ = nI a_ from by rw [hae, Int32.neg_neg]) ?_
          refine r_goto (tgt := 44) C (dk oX10_worthBy 23 rfl) (by decide) ?_
          refine r_istore (lo' := [(4, _), (0, _), (1, _), (2, _), (3, _)]) C (dk oX10_worthBy 28 rfl) (by decide) rfl ?_
          refine r_iload C 0 (dk oX10_worthBy 29 rfl) rfl ?_
          refine r_i2l C (dk oX10_worthBy 30 rfl) ?_
          refine r_aload_n C 1 (dk oX10_worthBy 31 rfl) rfl ?_
          refine r_iload_n C 4 (dk oX10_worthBy 32 rfl) rfl ?_
          refine r_ivi C Z (dk oX10_worthBy 33 rfl) cl_X10_321 ci_X10_chanceOf rfl (km hn rfl) (c_X10_chanceOf hn I1 J Φ (hM.of (fun c a b => by rw [hO1 c (by omega)]; exact hO2 c (by omega) (by omega))) hok c_ (cl.2.2 c_) (by omega) hco.2.2 (wyM Φ (fun f => shQ k_ Φ (brQ k_ ||| m_) f)) (fun s hs => ⟨by rw [hO1 145 (by decide)]; exact hW s hs, wyM_le (fun f => shF_le)⟩)) rfl rfl (Nat.le_of_ble_eq_true rfl) ⟨Nat.le_of_ble_eq_true rfl, Nat.le_of_ble_eq_true rfl⟩ ⟨Nat.zero_le _, Nat.zero_le _⟩ (fun r51 I51 J51 h51 => ?_)
          obtain ⟨e1_, hskC, e2_⟩ := h51
          rw [chM_eq hok] at e1_
          have e1_ : r51 = nI (chF (brQ k_ ||| m_) k_.1 k_.2.1 k_.2.2.1 k_.2.2.2.1 Φ (cl.2.2 c_)) := e1_
          have e1_ := e1_.symm
          have e2_ := e2_.symm
          subst e1_
          subst e2_
          have hch : (chF (brQ k_ ||| m_) k_.1 k_.2.1 k_.2.2.1 k_.2.2.2.1 Φ (cl.2.2 c_)) ≤ 1000000 := chF_le
          refine r_i2l C (dk oX10_worthBy 34 rfl) ?_
          refine r_lmul C (dk oX10_worthBy 35 rfl) ?_
          refine r_ldc2 C (dk oX10_worthBy 36 rfl) kn_X10_305 ?_
          refine r_ldiv C (dk oX10_worthBy 37 rfl) (by decide) ?_
          refine r_l2i C (dk oX10_worthBy 38 rfl) ?_
          rw [wt_l ha hch]
          refine r_istore (lo' := [(5, _), (4, _), (0, _), (1, _), (2, _), (3, _)]) C (dk oX10_worthBy 39 rfl) (by decide) rfl ?_
          refine r_iload_n C 4 (dk oX10_worthBy 40 rfl) rfl ?_
          refine r_aload_n C 2 (dk oX10_worthBy 41 rfl) rfl ?_
          refine r_getR C (dk oX10_worthBy 42 rfl) fl_X10_13 rfl (km hn rfl) ?_
          refine r_iload_n C 5 (dk oX10_worthBy 43 rfl) rfl ?_
          refine r_iald C _ (dk oX10_worthBy 44 rfl) rfl (km hn rfl) rfl (by omega) (by decide) ?_
          rw [hskC.1 119 (by decide), hco.1]
          refine r_if_ge (tgt := 79) C (dk oX10_worthBy 45 rfl) (by decide) (fun hb70 => ?_) (fun hb70 => ?_)
          · first
              | exact absurd hb70 hb25
              | refine r_iload C 0 (dk oX10_worthBy 49 rfl) rfl ?_
                refine r_topI (show nI (a_ * (chF (brQ k_ ||| m_) k_.1 k_.2.1 k_.2.2.1 k_.2.2.2.1 Φ (cl.2.2 c_)) / 1000) = cl.2.1 c_ * nI (chF (brQ k_ ||| m_) k_.1 k_.2.1 k_.2.2.1 k_.2.2.2.1 Φ (cl.2.2 c_)) / nI 1000 from by rw [hae, wt_pos ha hch]) ?_
                refine r_iadd C (dk oX10_worthBy 50 rfl) ?_
                refine r_istore_n (lo' := [(2, _), (5, _), (4, _), (0, _), (1, _), (3, _)]) C (dk oX10_worthBy 51 rfl) rfl (by decide) rfl ?_
                refine r_iinc (lo' := [(3, _), (2, _), (5, _), (4, _), (0, _), (1, _)]) C 5 (dk oX10_worthBy 52 rfl) rfl (by first | exact nI_inc _ | rfl) (by decide) rfl ?_
                refine r_goto (tgt := 9) C (dk oX10_worthBy 53 rfl) (by decide) ?_
                refine V.sub [4, 5, 1, 0] rfl ?_
                have hih := ih (c_ + 1) I51 (by omega) (by omega) (fun k hk => by rw [hskC.1 k hk]; exact hO1 k hk) (fun i hi => by rw [hskC.2 i hi]; exact hO3 i hi)
                rw [show wtN cl.2.1 (fun c => chF (brQ k_ ||| m_) k_.1 k_.2.1 k_.2.2.1 k_.2.2.2.1 Φ (cl.2.2 c)) (c_ + 1) = (wtN cl.2.1 (fun c => chF (brQ k_ ||| m_) k_.1 k_.2.1 k_.2.2.1 k_.2.2.2.1 Φ (cl.2.2 c)) c_) + cl.2.1 c_ * nI (chF (brQ k_ ||| m_) k_.1 k_.2.1 k_.2.2.1 k_.2.2.2.1 Φ (cl.2.2 c_)) / nI 1000 from rfl] at hih
                exact hih
          · first
              | exact absurd hb25 hb70
              | refine r_iload C 0 (dk oX10_worthBy 46 rfl) rfl ?_
                refine r_ineg C (dk oX10_worthBy 47 rfl) ?_
                refine r_topI (show -(nI (a_ * (chF (brQ k_ ||| m_) k_.1 k_.2.1 k_.2.2.1 k_.2.2.2.1 Φ (cl.2.2 c_)) / 1000)) = cl.2.1 c_ * nI (chF (brQ k_ ||| m_) k_.1 k_.2.1 k_.2.2.1 k_.2.2.2.1 Φ (cl.2.2 c_)) / nI 1000 from by rw [hae, wt_neg ha hch]) ?_
                refine r_goto (tgt := 81) C (dk oX10_worthBy 48 rfl) (by decide) ?_
                refine r_iadd C (dk oX10_worthBy 50 rfl) ?_
                refine r_istore_n (lo' := [(2, _), (5, _), (4, _), (0, _), (1, _), (3, _)]) C (dk oX10_worthBy 51 rfl) rfl (by decide) rfl ?_
                refine r_iinc (lo' := [(3, _), (2, _), (5, _), (4, _), (0, _), (1, _)]) C 5 (dk oX10_worthBy 52 rfl) rfl (by first | exact nI_inc _ | rfl) (by decide) rfl ?_
                refine r_goto (tgt := 9) C (dk oX10_worthBy 53 rfl) (by decide) ?_
                refine V.sub [4, 5, 1, 0] rfl ?_
                have hih := ih (c_ + 1) I51 (by omega) (by omega) (fun k hk => by rw [hskC.1 k hk]; exact hO1 k hk) (fun i hi => by rw [hskC.2 i hi]; exact hO3 i hi)
                rw [show wtN cl.2.1 (fun c => chF (brQ k_ ||| m_) k_.1 k_.2.1 k_.2.2.1 k_.2.2.2.1 Φ (cl.2.2 c)) (c_ + 1) = (wtN cl.2.1 (fun c => chF (brQ k_ ||| m_) k_.1 k_.2.1 k_.2.2.1 k_.2.2.2.1 Φ (cl.2.2 c)) c_) + cl.2.1 c_ * nI (chF (brQ k_ ||| m_) k_.1 k_.2.1 k_.2.2.1 k_.2.2.2.1 Φ (cl.2.2 c_)) / nI 1000 from rfl] at hih
                exact hih
  refine V.sub [2, 3, 1, 0] rfl ?_
  exact L9 (cl.1 + 1) 0 I2 (by omega) (Nat.zero_le _) (fun _ _ => rfl) (fun _ _ => rfl)

set_option maxHeartbeats 1000000 in
set_option maxRecDepth 100000 in
theorem c_X10_worthTo (hn : 148 ≤ n) (I : MI) (J : MJ) (Φ : Nat → FS) (hM : FcM I 134 Φ) (hok : fsA Φ) (k_ : Prf) (hK : MK0 I k_) (cl : Clm) (hC : MC0 I cl) (s_ m_ : Nat) (hs : s_ < 2) (hm : m_ < 65536) : Ci l n ad cA D z 6 yX10_worthTo cX10_worthTo 4 .int I J [.ref (ad 117), .int (nI s_), .int (nI m_)] (fun r I' J' => r = (if s_ = 0 then wtF cl k_ Φ (brQ k_ ||| m_) else -(wtF cl k_ Φ (brQ k_ ||| m_))) ∧ (∀ k, k ≠ 117 → k ≠ 145 → k ≠ 146 → I' k = I k) ∧ (∀ i, i ≠ 39 → I' 117 i = I 117 i) ∧ J' = J) := by
  refine Ci.of (by decide) (Nat.le_of_ble_eq_true rfl) ?_
  intro p e s m args below meth c A C hin Z Q hret
  refine r_aload_n C 0 (dk oX10_worthTo 0 rfl) rfl ?_
  refine r_iload_n C 2 (dk oX10_worthTo 1 rfl) rfl ?_
  refine r_ivi C Z (dk oX10_worthTo 2 rfl) cl_X10_324 ci_X10_worthBy rfl (km hn rfl) (c_X10_worthBy hn I J Φ hM hok k_ hK cl hC m_ hm) rfl rfl (Nat.le_of_ble_eq_true rfl) ⟨Nat.le_of_ble_eq_true rfl, Nat.le_of_ble_eq_true rfl⟩ ⟨Nat.zero_le _, Nat.zero_le _⟩ (fun r2 I2 J2 h2 => ?_)
  obtain ⟨e1_, h1, h2, e2_⟩ := h2
  have e1_ := e1_.symm
  have e2_ := e2_.symm
  subst e1_
  subst e2_
  refine r_istore_n (lo' := [(3, _), (0, _), (1, _), (2, _)]) C (dk oX10_worthTo 3 rfl) rfl (by decide) rfl ?_
  refine r_iload_n C 2 (dk oX10_worthTo 4 rfl) rfl ?_
  refine r_if_ne (tgt := 14) C (dk oX10_worthTo 5 rfl) (by decide) (fun hb7 => ?_) (fun hb7 => ?_)
  · have hs0 : ¬ s_ = 0 := fun q => hb7 (by rw [q]; rfl)
    refine r_iload_n C 0 (dk oX10_worthTo 8 rfl) rfl ?_
    refine r_ineg C (dk oX10_worthTo 9 rfl) ?_
    refine hret (dk oX10_worthTo 10 rfl) rfl ?_
    refine ⟨?_, h1, h2, rfl⟩
    first
      | rw [if_pos hs0]
      | rw [if_neg hs0]
  · have hs0 : s_ = 0 := by
      simp (disch := omega) only [nI_leI, nI_ltI, nI_eq, nI_eq0] at hb7
      exact hb7
    refine r_iload_n C 0 (dk oX10_worthTo 6 rfl) rfl ?_
    refine r_goto (tgt := 16) C (dk oX10_worthTo 7 rfl) (by decide) ?_
    refine hret (dk oX10_worthTo 10 rfl) rfl ?_
    refine ⟨?_, h1, h2, rfl⟩
    first
      | rw [if_pos hs0]
      | rw [if_neg hs0]

def faN (G : Nat → Int32) (w : Nat) : Nat → Int32 × Int32
  | 0 => (-1, nI 0)
  | j + 1 => (nI (rpN G w j).1, (rpN G w j).2)
theorem rpN_lt {G : Nat → Int32} {w : Nat} (hw : w < 65536) (i : Nat) : (rpN G w i).1 < 65536 := by
  obtain ⟨j, hj⟩ := rpN_set (G := G) (w := w) i
  rw [hj]
  exact pd_lt hw
theorem fa_lt0 {G : Nat → Int32} {w j : Nat} (hw : w < 65536) : (faN G w j).1 < 0 ↔ j = 0 := by
  cases j with
  | zero => exact Iff.intro (fun _ => rfl) (fun _ => by show (-1 : Int32) < 0; decide)
  | succ j =>
    have := rpN_lt (G := G) hw j
    exact Iff.intro (fun h => absurd h (nI_lt0 (by omega))) (fun h => absurd h (by omega))
theorem fa_t {G : Nat → Int32} {w j : Nat} (h : j = 0 ∨ (faN G w j).2 < G (pd j w)) : faN G w (j + 1) = (nI (pd j w), G (pd j w)) := by
  cases j with
  | zero =>
    rw [pd_0]
    rfl
  | succ j =>
    have h2 : (rpN G w j).2 < G (pd (j + 1) w) := h.elim (fun e => absurd e (by omega)) id
    show (nI (rpN G w (j + 1)).1, (rpN G w (j + 1)).2) = _
    rw [rpN_s, if_pos h2]
theorem fa_f {G : Nat → Int32} {w j : Nat} (h0 : ¬ j = 0) (h : ¬ (faN G w j).2 < G (pd j w)) : faN G w (j + 1) = faN G w j := by
  cases j with
  | zero => exact absurd rfl h0
  | succ j =>
    have h2 : ¬ (rpN G w j).2 < G (pd (j + 1) w) := h
    show (nI (rpN G w (j + 1)).1, (rpN G w (j + 1)).2) = (nI (rpN G w j).1, (rpN G w j).2)
    rw [rpN_s, if_neg h2]
theorem or_rot {a b c : Nat} : a ||| (b ||| c) = a ||| c ||| b := by rw [Nat.or_comm b c, Nat.or_assoc]
set_option maxHeartbeats 1000000 in
set_option maxRecDepth 100000 in
theorem c_X10_findAnswer (hn : 148 ≤ n) (I : MI) (J : MJ) (Φ : Nat → FS) (hM : FcM I 134 Φ) (hok : fsA Φ) (k_ : Prf) (hK : MK0 I k_) (cl : Clm) (hC : MC0 I cl) (s_ O_ : Nat) (hs : s_ < 2) (hO : O_ < 65536) : Cv l n ad cA D z 7 yX10_findAnswer cX10_findAnswer 7 I J [.ref (ad 117), .int (nI s_), .int (nI O_)] (fun I' J' => I' 117 44 = nI (rpF cl k_ Φ s_ O_) ∧ (∀ k, k ≠ 117 → k ≠ 145 → k ≠ 146 → k ≠ 147 → I' k = I k) ∧ (∀ i, i ≠ 39 → i ≠ 43 → i ≠ 44 → I' 117 i = I 117 i) ∧ J' = J) := by
  refine Cv.of (by decide) (Nat.le_of_ble_eq_true rfl) ?_
  intro p e s m args below meth c A C hin Z Q hret
  refine r_aload_n C 0 (dk oX10_findAnswer 0 rfl) rfl ?_
  refine r_iload_n C 1 (dk oX10_findAnswer 1 rfl) rfl ?_
  refine r_iconst C (dk oX10_findAnswer 2 rfl) (v := nI 4) (by decide) ?_
  refine r_ivv C Z (dk oX10_findAnswer 3 rfl) cl_X10_337 ci_X10_choose rfl (km hn rfl) (c_X10_choose hn I J k_ hK s_ 4 hs (by decide)) rfl rfl (Nat.le_of_ble_eq_true rfl) ⟨Nat.le_of_ble_eq_true rfl, Nat.le_of_ble_eq_true rfl⟩ ⟨Nat.zero_le _, Nat.zero_le _⟩ (fun I3 J3 h3 => ?_)
  obtain ⟨h43, h147, hO3, hO4, e2_⟩ := h3
  have e2_ := e2_.symm
  subst e2_
  have hpc : pc (chS (chQ k_ s_) 4 k_.1) = (chN (chQ k_ s_) 4 k_.1) := ch_pc k_.1 hK.1
  have hw : (chS (chQ k_ s_) 4 k_.1) < 65536 := chS_16 hK.1
  have hcl := @chN_le (chQ k_ s_) 4 k_.1
  have hp4 : 2 ^ (chN (chQ k_ s_) 4 k_.1) ≤ 16 := (show 2 ^ (chN (chQ k_ s_) 4 k_.1) ≤ 2 ^ 4 from Nat.pow_le_pow_right (by decide) (by omega))
  have hpos : 0 < 2 ^ (chN (chQ k_ s_) 4 k_.1) := Nat.two_pow_pos _
  have hnk := hK.1
  refine r_iconst C (dk oX10_findAnswer 4 rfl) (v := nI 0) (by decide) ?_
  refine r_istore_n (lo' := [(3, _), (0, _), (1, _), (2, _)]) C (dk oX10_findAnswer 5 rfl) rfl (by decide) rfl ?_
  refine r_aload_n C 1 (dk oX10_findAnswer 6 rfl) rfl ?_
  refine r_iconst C (dk oX10_findAnswer 7 rfl) (v := -1) (by decide) ?_
  refine r_putI C (dk oX10_findAnswer 8 rfl) fl_X10_346 ft_10_44 rfl (km hn rfl) ?_
  refine r_iconst C (dk oX10_findAnswer 9 rfl) (v := nI 0) (by decide) ?_
  refine r_istore (lo' := [(4, _), (3, _), (0, _), (1, _), (2, _)]) C (dk oX10_findAnswer 10 rfl) (by decide) rfl ?_
  have L16 : ∀ (d_ : Nat) (j_ : Nat) (I1 : MI), 2 ^ (chN (chQ k_ s_) 4 k_.1) - j_ < d_ → j_ ≤ 2 ^ (chN (chQ k_ s_) 4 k_.1) → I1 117 44 = (faN (fun S => gnF cl k_ Φ s_ S O_) (chS (chQ k_ s_) 4 k_.1) j_).1 → (∀ k, k ≠ 117 → k ≠ 145 → k ≠ 146 → I1 k = I3 k) → (∀ i, i ≠ 39 → i ≠ 44 → I1 117 i = I3 117 i) → V p l e (rmL 7) s m args below meth c Q D A 7 0 0 n ad (mE cA ad I1 J) 16 [(0, .ref (ad 117)), (1, .int (nI s_)), (2, .int (nI O_)), (3, .int (faN (fun S => gnF cl k_ Φ s_ S O_) (chS (chQ k_ s_) 4 k_.1) j_).2), (4, .int (nI j_))] [] := by
    intro d_
    induction d_ with
    | zero => intros; exact absurd (by assumption) (Nat.not_lt_zero _)
    | succ d_ ih => 
      intro j_ I1 hd_ hj h44 hF hP
      refine r_iload C 4 (dk oX10_findAnswer 11 rfl) rfl ?_
      refine r_iconst C (dk oX10_findAnswer 12 rfl) (v := nI 1) (by decide) ?_
      refine r_aload_n C 0 (dk oX10_findAnswer 13 rfl) rfl ?_
      refine r_getI C (dk oX10_findAnswer 14 rfl) fl_X10_330 rfl (km hn rfl) ?_
      rw [hP 43 (by decide) (by decide), h43]
      refine r_ishl C (dk oX10_findAnswer 15 rfl) ?_
      rw [shl1 (by omega)]
      refine r_icmp_ge (tgt := 85) C (dk oX10_findAnswer 16 rfl) (by decide) (fun hb24 => ?_) (fun hb24 => ?_)
      · simp (disch := omega) only [nI_leI, nI_ltI, nI_eq, nI_eq0] at hb24
        refine hret (dk oX10_findAnswer 47 rfl) ?_
        have hj2 : j_ = 2 ^ (chN (chQ k_ s_) 4 k_.1) - 1 + 1 := by omega
        refine ⟨?_, fun k a b c d => by rw [hF k a b c]; exact hO3 k a d, fun i a b c => by rw [hP i a c]; exact hO4 i b, rfl⟩
        rw [h44, hj2]
        show nI (rpN _ _ (2 ^ (chN (chQ k_ s_) 4 k_.1) - 1)).1 = _
        rw [← hpc]
        rfl
      · simp (disch := omega) only [nI_leI, nI_ltI, nI_eq, nI_eq0] at hb24
        refine r_aload_n C 0 (dk oX10_findAnswer 17 rfl) rfl ?_
        refine r_iload C 4 (dk oX10_findAnswer 18 rfl) rfl ?_
        refine r_ivi C Z (dk oX10_findAnswer 19 rfl) cl_X10_340 ci_X10_setOf rfl (km hn rfl) (c_X10_setOf hn I1 J (chN (chQ k_ s_) 4 k_.1) (chI (chQ k_ s_) 4 k_.1) (by rw [hP 43 (by decide) (by decide)]; exact h43) (by omega) (fun i hi => ⟨by rw [hF 147 (by decide) (by decide) (by decide)]; exact h147 i hi, by have := chI_lt (q := (chQ k_ s_)) (m := 4) k_.1 i hi; omega⟩) j_ (by omega)) rfl rfl (Nat.le_of_ble_eq_true rfl) ⟨Nat.le_of_ble_eq_true rfl, Nat.le_of_ble_eq_true rfl⟩ ⟨Nat.zero_le _, Nat.zero_le _⟩ (fun r30 I30 J30 h30 => ?_)
        obtain ⟨h30, e1_, e2_⟩ := h30
        have e1_ := e1_.symm
        have e2_ := e2_.symm
        subst e1_
        subst e2_
        subst h30
        rw [ch_set j_ k_.1 hnk]
        have hpd : pd j_ (chS (chQ k_ s_) 4 k_.1) < 65536 := pd_lt hw
        refine r_istore (lo' := [(5, _), (0, _), (1, _), (2, _), (3, _), (4, _)]) C (dk oX10_findAnswer 20 rfl) (by decide) rfl ?_
        refine r_aload_n C 1 (dk oX10_findAnswer 21 rfl) rfl ?_
        refine r_iload_n C 2 (dk oX10_findAnswer 22 rfl) rfl ?_
        refine r_iload_n C 3 (dk oX10_findAnswer 23 rfl) rfl ?_
        refine r_iload C 0 (dk oX10_findAnswer 24 rfl) rfl ?_
        refine r_ior C (dk oX10_findAnswer 25 rfl) ?_
        rw [fa_or]
        refine r_ivi C Z (dk oX10_findAnswer 26 rfl) cl_X10_327 ci_X10_worthTo rfl (km hn rfl) (c_X10_worthTo hn I1 J Φ (hM.of (fun c a b => by rw [hF c (by omega) (by omega) (by omega), hO3 c (by omega) (by omega)])) hok k_ (hK.of (fun c a b => by rw [hF c (by omega) (by omega) (by omega), hO3 c (by omega) (by omega)])) cl (hC.of (fun c a b => by rw [hF c (by omega) (by omega) (by omega), hO3 c (by omega) (by omega)])) s_ (O_ ||| pd j_ (chS (chQ k_ s_) 4 k_.1)) hs (or_lt16 hO hpd)) rfl rfl (Nat.le_of_ble_eq_true rfl) ⟨Nat.le_of_ble_eq_true rfl, Nat.le_of_ble_eq_true rfl⟩ ⟨Nat.zero_le _, Nat.zero_le _⟩ (fun r41 I41 J41 h41 => ?_)
        obtain ⟨e1_, hq0, hq1, e2_⟩ := h41
        have e1_ := e1_.symm
        have e2_ := e2_.symm
        subst e1_
        subst e2_
        refine r_sipush C (dk oX10_findAnswer 27 rfl) (v := nI 1000) (by decide) ?_
        refine r_aload_n C 1 (dk oX10_findAnswer 28 rfl) rfl ?_
        refine r_iload C 0 (dk oX10_findAnswer 29 rfl) rfl ?_
        refine r_ivi C Z (dk oX10_findAnswer 30 rfl) cl_X10_343 ci_X10_costOf rfl (km hn rfl) (c_X10_costOf hn I41 J k_ (hK.of (fun c a b => by rw [hq0 c (by omega) (by omega) (by omega), hF c (by omega) (by omega) (by omega), hO3 c (by omega) (by omega)])) (pd j_ (chS (chQ k_ s_) 4 k_.1)) hpd) rfl rfl (Nat.le_of_ble_eq_true rfl) ⟨Nat.le_of_ble_eq_true rfl, Nat.le_of_ble_eq_true rfl⟩ ⟨Nat.zero_le _, Nat.zero_le _⟩ (fun r50 I50 J50 h50 => ?_)
        obtain ⟨h50, e1_, e2_⟩ := h50
        have e1_ := e1_.symm
        have e2_ := e2_.symm
        subst e1_
        subst e2_
        subst h50
        refine r_imul C (dk oX10_findAnswer 31 rfl) ?_
        refine r_isub C (dk oX10_findAnswer 32 rfl) ?_
        rw [show (if s_ = 0 then wtF cl k_ Φ (brQ k_ ||| (O_ ||| pd j_ (chS (chQ k_ s_) 4 k_.1))) else -(wtF cl k_ Φ (brQ k_ ||| (O_ ||| pd j_ (chS (chQ k_ s_) 4 k_.1))))) - nI 1000 * nI (csN k_.2.2.2.2.1 (pd j_ (chS (chQ k_ s_) 4 k_.1)) k_.1) = gnF cl k_ Φ s_ (pd j_ (chS (chQ k_ s_) 4 k_.1)) O_ from by unfold gnF; rw [or_rot]]
        refine r_istore (lo' := [(6, _), (5, _), (0, _), (1, _), (2, _), (3, _), (4, _)]) C (dk oX10_findAnswer 33 rfl) (by decide) rfl ?_
        refine r_aload_n C 2 (dk oX10_findAnswer 34 rfl) rfl ?_
        refine r_getI C (dk oX10_findAnswer 35 rfl) fl_X10_346 rfl (km hn rfl) ?_
        rw [hq1 44 (by decide), h44]
        refine r_if_lt (tgt := 70) C (dk oX10_findAnswer 36 rfl) (by decide) (fun hb61 => ?_) (fun hb61 => ?_)
        · rw [fa_lt0 hw] at hb61
          refine r_aload_n C 2 (dk oX10_findAnswer 40 rfl) rfl ?_
          refine r_iload C 1 (dk oX10_findAnswer 41 rfl) rfl ?_
          refine r_putI C (dk oX10_findAnswer 42 rfl) fl_X10_346 ft_10_44 rfl (km hn rfl) ?_
          refine r_iload C 0 (dk oX10_findAnswer 43 rfl) rfl ?_
          refine r_istore_n (lo' := [(3, _), (6, _), (5, _), (0, _), (1, _), (2, _), (4, _)]) C (dk oX10_findAnswer 44 rfl) rfl (by decide) rfl ?_
          refine r_iinc (lo' := [(4, _), (3, _), (6, _), (5, _), (0, _), (1, _), (2, _)]) C 6 (dk oX10_findAnswer 45 rfl) rfl (by first | exact nI_inc _ | rfl) (by decide) rfl ?_
          refine r_goto (tgt := 16) C (dk oX10_findAnswer 46 rfl) (by decide) ?_
          refine V.sub [4, 5, 6, 1, 0] rfl ?_
          first
            | (have hih := ih (j_ + 1) I41 (by omega) (by omega) (by rw [fa_f hb61 (Int32.not_lt.mpr hb67), hq1 44 (by decide)]; exact h44) (fun k a b c => by rw [hq0 k a b c]; exact hF k a b c) (fun i a b => by rw [hq1 i a]; exact hP i a b)
               rw [fa_f hb61 (Int32.not_lt.mpr hb67)] at hih
               exact hih)
            | (have hih := ih (j_ + 1) (up2 I41 117 44 (nI (pd j_ (chS (chQ k_ s_) 4 k_.1)))) (by omega) (by omega) (by rw [fa_t (Or.inr (Int32.not_le.mp hb67)), up2_at]) (fun k a b c => by rw [up2_ne a, hq0 k a b c]; exact hF k a b c) (fun i a b => by rw [up2_off b, hq1 i a]; exact hP i a b)
               rw [fa_t (Or.inr (Int32.not_le.mp hb67))] at hih
               exact hih)
            | (have hih := ih (j_ + 1) (up2 I41 117 44 (nI (pd j_ (chS (chQ k_ s_) 4 k_.1)))) (by omega) (by omega) (by rw [fa_t (Or.inl hb61), up2_at]) (fun k a b c => by rw [up2_ne a, hq0 k a b c]; exact hF k a b c) (fun i a b => by rw [up2_off b, hq1 i a]; exact hP i a b)
               rw [fa_t (Or.inl hb61)] at hih
               exact hih)
        · rw [fa_lt0 hw] at hb61
          refine r_iload C 0 (dk oX10_findAnswer 37 rfl) rfl ?_
          refine r_iload_n C 5 (dk oX10_findAnswer 38 rfl) rfl ?_
          refine r_icmp_le (tgt := 79) C (dk oX10_findAnswer 39 rfl) (by decide) (fun hb67 => ?_) (fun hb67 => ?_)
          · refine r_iinc (lo' := [(4, _), (6, _), (5, _), (0, _), (1, _), (2, _), (3, _)]) C 6 (dk oX10_findAnswer 45 rfl) rfl (by first | exact nI_inc _ | rfl) (by decide) rfl ?_
            refine r_goto (tgt := 16) C (dk oX10_findAnswer 46 rfl) (by decide) ?_
            refine V.sub [3, 4, 5, 6, 0] rfl ?_
            first
              | (have hih := ih (j_ + 1) I41 (by omega) (by omega) (by rw [fa_f hb61 (Int32.not_lt.mpr hb67), hq1 44 (by decide)]; exact h44) (fun k a b c => by rw [hq0 k a b c]; exact hF k a b c) (fun i a b => by rw [hq1 i a]; exact hP i a b)
                 rw [fa_f hb61 (Int32.not_lt.mpr hb67)] at hih
                 exact hih)
              | (have hih := ih (j_ + 1) (up2 I41 117 44 (nI (pd j_ (chS (chQ k_ s_) 4 k_.1)))) (by omega) (by omega) (by rw [fa_t (Or.inr (Int32.not_le.mp hb67)), up2_at]) (fun k a b c => by rw [up2_ne a, hq0 k a b c]; exact hF k a b c) (fun i a b => by rw [up2_off b, hq1 i a]; exact hP i a b)
                 rw [fa_t (Or.inr (Int32.not_le.mp hb67))] at hih
                 exact hih)
              | (have hih := ih (j_ + 1) (up2 I41 117 44 (nI (pd j_ (chS (chQ k_ s_) 4 k_.1)))) (by omega) (by omega) (by rw [fa_t (Or.inl hb61), up2_at]) (fun k a b c => by rw [up2_ne a, hq0 k a b c]; exact hF k a b c) (fun i a b => by rw [up2_off b, hq1 i a]; exact hP i a b)
                 rw [fa_t (Or.inl hb61)] at hih
                 exact hih)
          · refine r_aload_n C 2 (dk oX10_findAnswer 40 rfl) rfl ?_
            refine r_iload C 1 (dk oX10_findAnswer 41 rfl) rfl ?_
            refine r_putI C (dk oX10_findAnswer 42 rfl) fl_X10_346 ft_10_44 rfl (km hn rfl) ?_
            refine r_iload C 0 (dk oX10_findAnswer 43 rfl) rfl ?_
            refine r_istore_n (lo' := [(3, _), (6, _), (5, _), (0, _), (1, _), (2, _), (4, _)]) C (dk oX10_findAnswer 44 rfl) rfl (by decide) rfl ?_
            refine r_iinc (lo' := [(4, _), (3, _), (6, _), (5, _), (0, _), (1, _), (2, _)]) C 6 (dk oX10_findAnswer 45 rfl) rfl (by first | exact nI_inc _ | rfl) (by decide) rfl ?_
            refine r_goto (tgt := 16) C (dk oX10_findAnswer 46 rfl) (by decide) ?_
            refine V.sub [4, 5, 6, 1, 0] rfl ?_
            first
              | (have hih := ih (j_ + 1) I41 (by omega) (by omega) (by rw [fa_f hb61 (Int32.not_lt.mpr hb67), hq1 44 (by decide)]; exact h44) (fun k a b c => by rw [hq0 k a b c]; exact hF k a b c) (fun i a b => by rw [hq1 i a]; exact hP i a b)
                 rw [fa_f hb61 (Int32.not_lt.mpr hb67)] at hih
                 exact hih)
              | (have hih := ih (j_ + 1) (up2 I41 117 44 (nI (pd j_ (chS (chQ k_ s_) 4 k_.1)))) (by omega) (by omega) (by rw [fa_t (Or.inr (Int32.not_le.mp hb67)), up2_at]) (fun k a b c => by rw [up2_ne a, hq0 k a b c]; exact hF k a b c) (fun i a b => by rw [up2_off b, hq1 i a]; exact hP i a b)
                 rw [fa_t (Or.inr (Int32.not_le.mp hb67))] at hih
                 exact hih)
              | (have hih := ih (j_ + 1) (up2 I41 117 44 (nI (pd j_ (chS (chQ k_ s_) 4 k_.1)))) (by omega) (by omega) (by rw [fa_t (Or.inl hb61), up2_at]) (fun k a b c => by rw [up2_ne a, hq0 k a b c]; exact hF k a b c) (fun i a b => by rw [up2_off b, hq1 i a]; exact hP i a b)
                 rw [fa_t (Or.inl hb61)] at hih
                 exact hih)
  refine V.sub [2, 3, 4, 1, 0] rfl ?_
  exact L16 (2 ^ (chN (chQ k_ s_) 4 k_.1) + 1) 0 (up2 I3 117 44 (-1)) (by omega) (Nat.zero_le _) up2_at (fun k a _ _ => up2_ne a) (fun i a b => up2_off b)

def cpE (I : MI) (k b x y m : Nat) (j : Nat) : Int32 := if b * y ≤ j ∧ j < b * y + m then I k (j - b * y + b * x) else I k j
theorem cpE_0 {I : MI} {k b x y j : Nat} : cpE I k b x y 0 j = I k j := if_neg (by omega)
theorem cpE_s {I I1 : MI} {k b x y c : Nat} (h : b * x + b ≤ b * y ∨ b * y + b ≤ b * x) (hc : c < b) (hI : ∀ j, I1 k j = cpE I k b x y c j) : ∀ j, up2 I1 k (b * y + c) (I1 k (b * x + c)) k j = cpE I k b x y (c + 1) j := by
  intro j
  rw [hI (b * x + c)]
  unfold cpE at hI ⊢
  generalize b * x = u at *
  generalize b * y = v at *
  rw [if_neg (by omega)]
  by_cases e : j = v + c
  · rw [e, up2_at, if_pos (by omega)]
    congr 1
    omega
  · rw [up2_off e, hI j]
    by_cases e2 : v ≤ j ∧ j < v + c
    · rw [if_pos e2, if_pos (by omega)]
    · rw [if_neg e2, if_neg (by omega)]
theorem cpE_1 {I I1 : MI} {k x y : Nat} (hI : I1 k = I k) : ∀ j, up2 I1 k y (I1 k x) k j = cpE I k 1 x y 1 j := by
  intro j
  unfold cpE
  by_cases e : j = y
  · rw [e, up2_at, if_pos (by omega), hI]
    congr 1
    omega
  · rw [up2_off e, if_neg (by omega), hI]
theorem cpE_c {I I1 : MI} {k b x y m : Nat} (hI : I1 k = I k) (j : Nat) : cpE I1 k b x y m j = cpE I k b x y m j := by unfold cpE; rw [hI]
/-- slot x is copied into slot y -/
def CPm (I I' : MI) (x y : Nat) : Prop := (∀ j, I' 118 j = cpE I 118 1 x y 1 j) ∧ (∀ j, I' 119 j = cpE I 119 6 x y 6 j) ∧ (∀ j, I' 121 j = cpE I 121 6 x y 6 j) ∧ (∀ j, I' 120 j = cpE I 120 720 x y 720 j) ∧ (∀ j, I' 122 j = cpE I 122 1 x y 1 j) ∧ (∀ j, I' 123 j = cpE I 123 10 x y 10 j) ∧ (∀ j, I' 124 j = cpE I 124 10 x y 10 j) ∧ (∀ j, I' 125 j = cpE I 125 120 x y 120 j) ∧ (∀ j, I' 126 j = cpE I 126 1 x y 1 j) ∧ (∀ j, I' 127 j = cpE I 127 16 x y 16 j) ∧ (∀ j, I' 128 j = cpE I 128 16 x y 16 j) ∧ (∀ j, I' 129 j = cpE I 129 16 x y 16 j) ∧ (∀ j, I' 130 j = cpE I 130 16 x y 16 j) ∧ (∀ j, I' 131 j = cpE I 131 16 x y 16 j) ∧ (∀ j, I' 132 j = cpE I 132 1 x y 1 j) ∧ (∀ j, I' 133 j = cpE I 133 1 x y 1 j) ∧ ∀ k, k < 118 ∨ 133 < k → I' k = I k
theorem cpE_z {I : MI} {k b x y m L : Nat} (hz : ∀ j, j < L → I k j = 0 ∨ I k j = 1) (hL : b * x + m ≤ L) : ∀ j, j < L → cpE I k b x y m j = 0 ∨ cpE I k b x y m j = 1 := by
  intro j hj
  unfold cpE
  split
  · exact hz _ (by omega)
  · exact hz j hj
set_option maxHeartbeats 1000000 in
set_option maxRecDepth 100000 in
theorem c_X10_copy (hn : 148 ≤ n) (I : MI) (J : MJ) (x_ y_ : Nat) (hx : x_ < 3) (hy : y_ < 3) (hxy : x_ ≠ y_) (hz4 : ∀ j, j < 30 → I 124 j = 0 ∨ I 124 j = 1) (hz1 : ∀ j, j < 48 → I 131 j = 0 ∨ I 131 j = 1) : Cv l n ad cA D z 0 yX10_copy cX10_copy 4 I J [.ref (ad 117), .int (nI x_), .int (nI y_)] (fun I' J' => CPm I I' x_ y_ ∧ J' = J) := by
  refine Cv.of (by decide) (Nat.le_of_ble_eq_true rfl) ?_
  intro p e s m args below meth c A C hin Z Q hret
  refine r_aload_n C 0 (dk oX10_copy_0 0 rfl) rfl ?_
  refine r_getR C (dk oX10_copy_0 1 rfl) fl_X10_7 rfl (km hn rfl) ?_
  refine r_iload_n C 2 (dk oX10_copy_0 2 rfl) rfl ?_
  refine r_aload_n C 0 (dk oX10_copy_0 3 rfl) rfl ?_
  refine r_getR C (dk oX10_copy_0 4 rfl) fl_X10_7 rfl (km hn rfl) ?_
  refine r_iload_n C 1 (dk oX10_copy_0 5 rfl) rfl ?_
  refine r_iald C _ (dk oX10_copy_0 6 rfl) rfl (km hn rfl) rfl (by omega) (by decide) ?_
  refine r_iast C _ (dk oX10_copy_0 7 rfl) rfl (km hn rfl) rfl (by omega) (by decide) ?_
  refine r_iconst C (dk oX10_copy_0 8 rfl) (v := nI 0) (by decide) ?_
  refine r_istore_n (lo' := [(3, _), (0, _), (1, _), (2, _)]) C (dk oX10_copy_0 9 rfl) rfl (by decide) rfl ?_
  have L14 : ∀ (d_ : Nat) (c1 : Nat) (I1 : MI), 6 - c1 < d_ → c1 ≤ 6 → (∀ j, I1 119 j = cpE (up2 I 118 y_ (I 118 x_)) 119 6 x_ y_ c1 j) → (∀ j, I1 121 j = cpE (up2 I 118 y_ (I 118 x_)) 121 6 x_ y_ c1 j) → (∀ k, k ≠ 119 → k ≠ 121 → I1 k = (up2 I 118 y_ (I 118 x_)) k) → V p l e (rmL 0) s m args below meth c Q D A 4 0 0 n ad (mE cA ad I1 J) 14 [(0, .ref (ad 117)), (1, .int (nI x_)), (2, .int (nI y_)), (3, .int (nI c1))] [] := by
    intro d_
    induction d_ with
    | zero => intros; exact absurd (by assumption) (Nat.not_lt_zero _)
    | succ d_ ih => 
      intro c1 I1 hd14 hv14 h14_119 h14_121 hF14
      refine r_iload_n C 3 (dk oX10_copy_0 10 rfl) rfl ?_
      refine r_bipush C (dk oX10_copy_0 11 rfl) (v := nI 6) (by decide) ?_
      refine r_icmp_ge (tgt := 70) C (dk oX10_copy_0 12 rfl) (by decide) (fun hb17 => ?_) (fun hb17 => ?_)
      · simp (disch := omega) only [nI_leI, nI_ltI, nI_eq, nI_eq0] at hb17
        refine r_iconst C (dk oX10_copy_0 47 rfl) (v := nI 0) (by decide) ?_
        refine r_istore_n (lo' := [(3, _), (0, _), (1, _), (2, _)]) C (dk oX10_copy_0 48 rfl) rfl (by decide) rfl ?_
        have L72 : ∀ (d_ : Nat) (c2 : Nat) (I2 : MI), 720 - c2 < d_ → c2 ≤ 720 → (∀ j, I2 120 j = cpE I1 120 720 x_ y_ c2 j) → (∀ k, k ≠ 120 → I2 k = I1 k) → V p l e (rmL 0) s m args below meth c Q D A 4 0 0 n ad (mE cA ad I2 J) 72 [(0, .ref (ad 117)), (1, .int (nI x_)), (2, .int (nI y_)), (3, .int (nI c2))] [] := by
          intro d_
          induction d_ with
          | zero => intros; exact absurd (by assumption) (Nat.not_lt_zero _)
          | succ d_ ih => 
            intro c2 I2 hd72 hv72 h72_120 hF72
            refine r_iload_n C 3 (dk oX10_copy_0 49 rfl) rfl ?_
            refine r_sipush C (dk oX10_copy_0 50 rfl) (v := nI 720) (by decide) ?_
            refine r_icmp_ge (tgt := 109) C (dk oX10_copy_0 51 rfl) (by decide) (fun hb76 => ?_) (fun hb76 => ?_)
            · simp (disch := omega) only [nI_leI, nI_ltI, nI_eq, nI_eq0] at hb76
              refine r_aload_n C 0 (dk oX10_copy_1 10 rfl) rfl ?_
              refine r_getR C (dk oX10_copy_1 11 rfl) fl_X10_22 rfl (km hn rfl) ?_
              refine r_iload_n C 2 (dk oX10_copy_1 12 rfl) rfl ?_
              refine r_aload_n C 0 (dk oX10_copy_1 13 rfl) rfl ?_
              refine r_getR C (dk oX10_copy_1 14 rfl) fl_X10_22 rfl (km hn rfl) ?_
              refine r_iload_n C 1 (dk oX10_copy_1 15 rfl) rfl ?_
              refine r_iald C _ (dk oX10_copy_1 16 rfl) rfl (km hn rfl) rfl (by omega) (by decide) ?_
              refine r_iast C _ (dk oX10_copy_1 17 rfl) rfl (km hn rfl) rfl (by omega) (by decide) ?_
              have hzA : ∀ j, j < 30 → (up2 I2 122 y_ (I2 122 x_)) 124 j = 0 ∨ (up2 I2 122 y_ (I2 122 x_)) 124 j = 1 := fun j hj => by rw [up2_ne (by decide), hF72 124 (by decide), hF14 124 (by decide) (by decide), up2_ne (by decide)]; exact hz4 j hj
              refine r_iconst C (dk oX10_copy_1 18 rfl) (v := nI 0) (by decide) ?_
              refine r_istore_n (lo' := [(3, _), (0, _), (1, _), (2, _)]) C (dk oX10_copy_1 19 rfl) rfl (by decide) rfl ?_
              have L123 : ∀ (d_ : Nat) (c3 : Nat) (I3 : MI), 10 - c3 < d_ → c3 ≤ 10 → (∀ j, I3 123 j = cpE (up2 I2 122 y_ (I2 122 x_)) 123 10 x_ y_ c3 j) → (∀ j, I3 124 j = cpE (up2 I2 122 y_ (I2 122 x_)) 124 10 x_ y_ c3 j) → (∀ k, k ≠ 123 → k ≠ 124 → I3 k = (up2 I2 122 y_ (I2 122 x_)) k) → V p l e (rmL 0) s m args below meth c Q D A 4 0 0 n ad (mE cA ad I3 J) 123 [(0, .ref (ad 117)), (1, .int (nI x_)), (2, .int (nI y_)), (3, .int (nI c3))] [] := by
                intro d_
                induction d_ with
                | zero => intros; exact absurd (by assumption) (Nat.not_lt_zero _)
                | succ d_ ih => 
                  intro c3 I3 hd123 hv123 h123_123 h123_124 hF123
                  refine r_iload_n C 3 (dk oX10_copy_1 20 rfl) rfl ?_
                  refine r_bipush C (dk oX10_copy_1 21 rfl) (v := nI 10) (by decide) ?_
                  refine r_icmp_ge (tgt := 179) C (dk oX10_copy_1 22 rfl) (by decide) (fun hb126 => ?_) (fun hb126 => ?_)
                  · simp (disch := omega) only [nI_leI, nI_ltI, nI_eq, nI_eq0] at hb126
                    refine r_iconst C (dk oX10_copy_1 57 rfl) (v := nI 0) (by decide) ?_
                    refine r_istore_n (lo' := [(3, _), (0, _), (1, _), (2, _)]) C (dk oX10_copy_1 58 rfl) rfl (by decide) rfl ?_
                    have L181 : ∀ (d_ : Nat) (c4 : Nat) (I4 : MI), 120 - c4 < d_ → c4 ≤ 120 → (∀ j, I4 125 j = cpE I3 125 120 x_ y_ c4 j) → (∀ k, k ≠ 125 → I4 k = I3 k) → V p l e (rmL 0) s m args below meth c Q D A 4 0 0 n ad (mE cA ad I4 J) 181 [(0, .ref (ad 117)), (1, .int (nI x_)), (2, .int (nI y_)), (3, .int (nI c4))] [] := by
                      intro d_
                      induction d_ with
                      | zero => intros; exact absurd (by assumption) (Nat.not_lt_zero _)
                      | succ d_ ih => 
                        intro c4 I4 hd181 hv181 h181_125 hF181
                        refine r_iload_n C 3 (dk oX10_copy_1 59 rfl) rfl ?_
                        refine r_bipush C (dk oX10_copy_2 0 rfl) (v := nI 120) (by decide) ?_
                        refine r_icmp_ge (tgt := 215) C (dk oX10_copy_2 1 rfl) (by decide) (fun hb184 => ?_) (fun hb184 => ?_)
                        · simp (disch := omega) only [nI_leI, nI_ltI, nI_eq, nI_eq0] at hb184
                          refine r_aload_n C 0 (dk oX10_copy_2 20 rfl) rfl ?_
                          refine r_getR C (dk oX10_copy_2 21 rfl) fl_X10_35 rfl (km hn rfl) ?_
                          refine r_iload_n C 2 (dk oX10_copy_2 22 rfl) rfl ?_
                          refine r_aload_n C 0 (dk oX10_copy_2 23 rfl) rfl ?_
                          refine r_getR C (dk oX10_copy_2 24 rfl) fl_X10_35 rfl (km hn rfl) ?_
                          refine r_iload_n C 1 (dk oX10_copy_2 25 rfl) rfl ?_
                          refine r_iald C _ (dk oX10_copy_2 26 rfl) rfl (km hn rfl) rfl (by omega) (by decide) ?_
                          refine r_iast C _ (dk oX10_copy_2 27 rfl) rfl (km hn rfl) rfl (by omega) (by decide) ?_
                          have hzB : ∀ j, j < 48 → (up2 I4 126 y_ (I4 126 x_)) 131 j = 0 ∨ (up2 I4 126 y_ (I4 126 x_)) 131 j = 1 := fun j hj => by rw [up2_ne (by decide), hF181 131 (by decide), hF123 131 (by decide) (by decide), up2_ne (by decide), hF72 131 (by decide), hF14 131 (by decide) (by decide), up2_ne (by decide)]; exact hz1 j hj
                          refine r_iconst C (dk oX10_copy_2 28 rfl) (v := nI 0) (by decide) ?_
                          refine r_istore_n (lo' := [(3, _), (0, _), (1, _), (2, _)]) C (dk oX10_copy_2 29 rfl) rfl (by decide) rfl ?_
                          have L229 : ∀ (d_ : Nat) (c5 : Nat) (I5 : MI), 16 - c5 < d_ → c5 ≤ 16 → (∀ j, I5 127 j = cpE (up2 I4 126 y_ (I4 126 x_)) 127 16 x_ y_ c5 j) → (∀ j, I5 128 j = cpE (up2 I4 126 y_ (I4 126 x_)) 128 16 x_ y_ c5 j) → (∀ j, I5 129 j = cpE (up2 I4 126 y_ (I4 126 x_)) 129 16 x_ y_ c5 j) → (∀ j, I5 130 j = cpE (up2 I4 126 y_ (I4 126 x_)) 130 16 x_ y_ c5 j) → (∀ j, I5 131 j = cpE (up2 I4 126 y_ (I4 126 x_)) 131 16 x_ y_ c5 j) → (∀ k, k ≠ 127 → k ≠ 128 → k ≠ 129 → k ≠ 130 → k ≠ 131 → I5 k = (up2 I4 126 y_ (I4 126 x_)) k) → V p l e (rmL 0) s m args below meth c Q D A 4 0 0 n ad (mE cA ad I5 J) 229 [(0, .ref (ad 117)), (1, .int (nI x_)), (2, .int (nI y_)), (3, .int (nI c5))] [] := by
                            intro d_
                            induction d_ with
                            | zero => intros; exact absurd (by assumption) (Nat.not_lt_zero _)
                            | succ d_ ih => 
                              intro c5 I5 hd229 hv229 h229_127 h229_128 h229_129 h229_130 h229_131 hF229
                              refine r_iload_n C 3 (dk oX10_copy_2 30 rfl) rfl ?_
                              refine r_bipush C (dk oX10_copy_2 31 rfl) (v := nI 16) (by decide) ?_
                              refine r_icmp_ge (tgt := 351) C (dk oX10_copy_2 32 rfl) (by decide) (fun hb232 => ?_) (fun hb232 => ?_)
                              · simp (disch := omega) only [nI_leI, nI_ltI, nI_eq, nI_eq0] at hb232
                                refine r_aload_n C 0 (dk oX10_copy_3 55 rfl) rfl ?_
                                refine r_getR C (dk oX10_copy_3 56 rfl) fl_X10_53 rfl (km hn rfl) ?_
                                refine r_iload_n C 2 (dk oX10_copy_3 57 rfl) rfl ?_
                                refine r_aload_n C 0 (dk oX10_copy_3 58 rfl) rfl ?_
                                refine r_getR C (dk oX10_copy_3 59 rfl) fl_X10_53 rfl (km hn rfl) ?_
                                refine r_iload_n C 1 (dk oX10_copy_4 0 rfl) rfl ?_
                                refine r_iald C _ (dk oX10_copy_4 1 rfl) rfl (km hn rfl) rfl (by omega) (by decide) ?_
                                refine r_iast C _ (dk oX10_copy_4 2 rfl) rfl (km hn rfl) rfl (by omega) (by decide) ?_
                                refine r_aload_n C 0 (dk oX10_copy_4 3 rfl) rfl ?_
                                refine r_getR C (dk oX10_copy_4 4 rfl) fl_X10_56 rfl (km hn rfl) ?_
                                refine r_iload_n C 2 (dk oX10_copy_4 5 rfl) rfl ?_
                                refine r_aload_n C 0 (dk oX10_copy_4 6 rfl) rfl ?_
                                refine r_getR C (dk oX10_copy_4 7 rfl) fl_X10_56 rfl (km hn rfl) ?_
                                refine r_iload_n C 1 (dk oX10_copy_4 8 rfl) rfl ?_
                                refine r_iald C _ (dk oX10_copy_4 9 rfl) rfl (km hn rfl) rfl (by omega) (by decide) ?_
                                refine r_iast C _ (dk oX10_copy_4 10 rfl) rfl (km hn rfl) rfl (by omega) (by decide) ?_
                                refine hret (dk oX10_copy_4 11 rfl) ?_
                                have e1 : c1 = 6 := by omega
                                have e2 : c2 = 720 := by omega
                                have e3 : c3 = 10 := by omega
                                have e4 : c4 = 120 := by omega
                                have e5 : c5 = 16 := by omega
                                subst e1
                                subst e2
                                subst e3
                                subst e4
                                subst e5
                                have f1 : ∀ k, k ≠ 118 → k ≠ 119 → k ≠ 121 → I1 k = I k := fun k a b c => by rw [hF14 k b c, up2_ne a]
                                have f2 : ∀ k, k ≠ 118 → k ≠ 119 → k ≠ 121 → k ≠ 120 → I2 k = I k := fun k a b c d => by rw [hF72 k d]; exact f1 k a b c
                                have f4 : ∀ k, k ≠ 122 → k ≠ 123 → k ≠ 124 → k ≠ 125 → I4 k = I2 k := fun k a b c d => by rw [hF181 k d, hF123 k b c, up2_ne a]
                                have f5 : ∀ k, k ≠ 126 → k ≠ 127 → k ≠ 128 → k ≠ 129 → k ≠ 130 → k ≠ 131 → I5 k = I4 k := fun k a b c d e f => by rw [hF229 k b c d e f, up2_ne a]
                                have f6 : ∀ k, k ≠ 132 → k ≠ 133 → up2 (up2 I5 132 y_ (I5 132 x_)) 133 y_ (up2 I5 132 y_ (I5 132 x_) 133 x_) k = I5 k := fun k a b => by rw [up2_ne b, up2_ne a]
                                have f7 : ∀ k, 117 < k → k < 122 → up2 (up2 I5 132 y_ (I5 132 x_)) 133 y_ (up2 I5 132 y_ (I5 132 x_) 133 x_) k = I2 k := fun k a b => by rw [f6 k (by omega) (by omega), f5 k (by omega) (by omega) (by omega) (by omega) (by omega) (by omega), f4 k (by omega) (by omega) (by omega) (by omega)]
                                have f8 : ∀ k, 121 < k → k < 126 → up2 (up2 I5 132 y_ (I5 132 x_)) 133 y_ (up2 I5 132 y_ (I5 132 x_) 133 x_) k = I4 k := fun k a b => by rw [f6 k (by omega) (by omega), f5 k (by omega) (by omega) (by omega) (by omega) (by omega) (by omega)]
                                refine ⟨⟨fun j => ?_, fun j => ?_, fun j => ?_, fun j => ?_, fun j => ?_, fun j => ?_, fun j => ?_, fun j => ?_, fun j => ?_, fun j => ?_, fun j => ?_, fun j => ?_, fun j => ?_, fun j => ?_, fun j => ?_, fun j => ?_, fun k hk => ?_⟩, rfl⟩
                                · rw [f7 118 (by decide) (by decide), hF72 118 (by decide), hF14 118 (by decide) (by decide)]; exact cpE_1 rfl j
                                · rw [f7 119 (by decide) (by decide), hF72 119 (by decide), h14_119 j]; exact cpE_c (up2_ne (by decide)) j
                                · rw [f7 121 (by decide) (by decide), hF72 121 (by decide), h14_121 j]; exact cpE_c (up2_ne (by decide)) j
                                · rw [f7 120 (by decide) (by decide), h72_120 j]; exact cpE_c (f1 120 (by decide) (by decide) (by decide)) j
                                · rw [f8 122 (by decide) (by decide), hF181 122 (by decide), hF123 122 (by decide) (by decide)]; exact cpE_1 (f2 122 (by decide) (by decide) (by decide) (by decide)) j
                                · rw [f8 123 (by decide) (by decide), hF181 123 (by decide), h123_123 j]; exact cpE_c (by rw [up2_ne (by decide)]; exact f2 123 (by decide) (by decide) (by decide) (by decide)) j
                                · rw [f8 124 (by decide) (by decide), hF181 124 (by decide), h123_124 j]; exact cpE_c (by rw [up2_ne (by decide)]; exact f2 124 (by decide) (by decide) (by decide) (by decide)) j
                                · rw [f8 125 (by decide) (by decide), h181_125 j]; exact cpE_c (by rw [hF123 125 (by decide) (by decide), up2_ne (by decide)]; exact f2 125 (by decide) (by decide) (by decide) (by decide)) j
                                · rw [f6 126 (by decide) (by decide), hF229 126 (by decide) (by decide) (by decide) (by decide) (by decide)]; exact cpE_1 (by rw [f4 126 (by decide) (by decide) (by decide) (by decide)]; exact f2 126 (by decide) (by decide) (by decide) (by decide)) j
                                · rw [f6 127 (by decide) (by decide), h229_127 j]; exact cpE_c (by rw [up2_ne (by decide), f4 127 (by decide) (by decide) (by decide) (by decide)]; exact f2 127 (by decide) (by decide) (by decide) (by decide)) j
                                · rw [f6 128 (by decide) (by decide), h229_128 j]; exact cpE_c (by rw [up2_ne (by decide), f4 128 (by decide) (by decide) (by decide) (by decide)]; exact f2 128 (by decide) (by decide) (by decide) (by decide)) j
                                · rw [f6 129 (by decide) (by decide), h229_129 j]; exact cpE_c (by rw [up2_ne (by decide), f4 129 (by decide) (by decide) (by decide) (by decide)]; exact f2 129 (by decide) (by decide) (by decide) (by decide)) j
                                · rw [f6 130 (by decide) (by decide), h229_130 j]; exact cpE_c (by rw [up2_ne (by decide), f4 130 (by decide) (by decide) (by decide) (by decide)]; exact f2 130 (by decide) (by decide) (by decide) (by decide)) j
                                · rw [f6 131 (by decide) (by decide), h229_131 j]; exact cpE_c (by rw [up2_ne (by decide), f4 131 (by decide) (by decide) (by decide) (by decide)]; exact f2 131 (by decide) (by decide) (by decide) (by decide)) j
                                · rw [up2_ne (by decide)]; exact cpE_1 (by rw [f5 132 (by decide) (by decide) (by decide) (by decide) (by decide) (by decide), f4 132 (by decide) (by decide) (by decide) (by decide)]; exact f2 132 (by decide) (by decide) (by decide) (by decide)) j
                                · exact cpE_1 (by rw [up2_ne (by decide), f5 133 (by decide) (by decide) (by decide) (by decide) (by decide) (by decide), f4 133 (by decide) (by decide) (by decide) (by decide)]; exact f2 133 (by decide) (by decide) (by decide) (by decide)) j
                                · rw [f6 k (by omega) (by omega), f5 k (by omega) (by omega) (by omega) (by omega) (by omega) (by omega), f4 k (by omega) (by omega) (by omega) (by omega), f2 k (by omega) (by omega) (by omega) (by omega)]
                              · simp (disch := omega) only [nI_leI, nI_ltI, nI_eq, nI_eq0] at hb232
                                refine r_aload_n C 0 (dk oX10_copy_2 33 rfl) rfl ?_
                                refine r_getR C (dk oX10_copy_2 34 rfl) fl_X10_38 rfl (km hn rfl) ?_
                                refine r_bipush C (dk oX10_copy_2 35 rfl) (v := nI 16) (by decide) ?_
                                refine r_iload_n C 2 (dk oX10_copy_2 36 rfl) rfl ?_
                                refine r_imul C (dk oX10_copy_2 37 rfl) ?_
                                rw [pk_mul]
                                refine r_iload_n C 3 (dk oX10_copy_2 38 rfl) rfl ?_
                                refine r_iadd C (dk oX10_copy_2 39 rfl) ?_
                                rw [nI_add]
                                refine r_aload_n C 0 (dk oX10_copy_2 40 rfl) rfl ?_
                                refine r_getR C (dk oX10_copy_2 41 rfl) fl_X10_38 rfl (km hn rfl) ?_
                                refine r_bipush C (dk oX10_copy_2 42 rfl) (v := nI 16) (by decide) ?_
                                refine r_iload_n C 1 (dk oX10_copy_2 43 rfl) rfl ?_
                                refine r_imul C (dk oX10_copy_2 44 rfl) ?_
                                rw [pk_mul]
                                refine r_iload_n C 3 (dk oX10_copy_2 45 rfl) rfl ?_
                                refine r_iadd C (dk oX10_copy_2 46 rfl) ?_
                                rw [nI_add]
                                refine r_iald C _ (dk oX10_copy_2 47 rfl) rfl (km hn rfl) rfl (by omega) (by decide) ?_
                                refine r_iast C _ (dk oX10_copy_2 48 rfl) rfl (km hn rfl) rfl (by omega) (by decide) ?_
                                refine r_aload_n C 0 (dk oX10_copy_2 49 rfl) rfl ?_
                                refine r_getR C (dk oX10_copy_2 50 rfl) fl_X10_41 rfl (km hn rfl) ?_
                                refine r_bipush C (dk oX10_copy_2 51 rfl) (v := nI 16) (by decide) ?_
                                refine r_iload_n C 2 (dk oX10_copy_2 52 rfl) rfl ?_
                                refine r_imul C (dk oX10_copy_2 53 rfl) ?_
                                rw [pk_mul]
                                refine r_iload_n C 3 (dk oX10_copy_2 54 rfl) rfl ?_
                                refine r_iadd C (dk oX10_copy_2 55 rfl) ?_
                                rw [nI_add]
                                refine r_aload_n C 0 (dk oX10_copy_2 56 rfl) rfl ?_
                                refine r_getR C (dk oX10_copy_2 57 rfl) fl_X10_41 rfl (km hn rfl) ?_
                                refine r_bipush C (dk oX10_copy_2 58 rfl) (v := nI 16) (by decide) ?_
                                refine r_iload_n C 1 (dk oX10_copy_2 59 rfl) rfl ?_
                                refine r_imul C (dk oX10_copy_3 0 rfl) ?_
                                rw [pk_mul]
                                refine r_iload_n C 3 (dk oX10_copy_3 1 rfl) rfl ?_
                                refine r_iadd C (dk oX10_copy_3 2 rfl) ?_
                                rw [nI_add]
                                refine r_iald C _ (dk oX10_copy_3 3 rfl) rfl (km hn rfl) rfl (by omega) (by decide) ?_
                                refine r_iast C _ (dk oX10_copy_3 4 rfl) rfl (km hn rfl) rfl (by omega) (by decide) ?_
                                refine r_aload_n C 0 (dk oX10_copy_3 5 rfl) rfl ?_
                                refine r_getR C (dk oX10_copy_3 6 rfl) fl_X10_44 rfl (km hn rfl) ?_
                                refine r_bipush C (dk oX10_copy_3 7 rfl) (v := nI 16) (by decide) ?_
                                refine r_iload_n C 2 (dk oX10_copy_3 8 rfl) rfl ?_
                                refine r_imul C (dk oX10_copy_3 9 rfl) ?_
                                rw [pk_mul]
                                refine r_iload_n C 3 (dk oX10_copy_3 10 rfl) rfl ?_
                                refine r_iadd C (dk oX10_copy_3 11 rfl) ?_
                                rw [nI_add]
                                refine r_aload_n C 0 (dk oX10_copy_3 12 rfl) rfl ?_
                                refine r_getR C (dk oX10_copy_3 13 rfl) fl_X10_44 rfl (km hn rfl) ?_
                                refine r_bipush C (dk oX10_copy_3 14 rfl) (v := nI 16) (by decide) ?_
                                refine r_iload_n C 1 (dk oX10_copy_3 15 rfl) rfl ?_
                                refine r_imul C (dk oX10_copy_3 16 rfl) ?_
                                rw [pk_mul]
                                refine r_iload_n C 3 (dk oX10_copy_3 17 rfl) rfl ?_
                                refine r_iadd C (dk oX10_copy_3 18 rfl) ?_
                                rw [nI_add]
                                refine r_iald C _ (dk oX10_copy_3 19 rfl) rfl (km hn rfl) rfl (by omega) (by decide) ?_
                                refine r_iast C _ (dk oX10_copy_3 20 rfl) rfl (km hn rfl) rfl (by omega) (by decide) ?_
                                refine r_aload_n C 0 (dk oX10_copy_3 21 rfl) rfl ?_
                                refine r_getR C (dk oX10_copy_3 22 rfl) fl_X10_47 rfl (km hn rfl) ?_
                                refine r_bipush C (dk oX10_copy_3 23 rfl) (v := nI 16) (by decide) ?_
                                refine r_iload_n C 2 (dk oX10_copy_3 24 rfl) rfl ?_
                                refine r_imul C (dk oX10_copy_3 25 rfl) ?_
                                rw [pk_mul]
                                refine r_iload_n C 3 (dk oX10_copy_3 26 rfl) rfl ?_
                                refine r_iadd C (dk oX10_copy_3 27 rfl) ?_
                                rw [nI_add]
                                refine r_aload_n C 0 (dk oX10_copy_3 28 rfl) rfl ?_
                                refine r_getR C (dk oX10_copy_3 29 rfl) fl_X10_47 rfl (km hn rfl) ?_
                                refine r_bipush C (dk oX10_copy_3 30 rfl) (v := nI 16) (by decide) ?_
                                refine r_iload_n C 1 (dk oX10_copy_3 31 rfl) rfl ?_
                                refine r_imul C (dk oX10_copy_3 32 rfl) ?_
                                rw [pk_mul]
                                refine r_iload_n C 3 (dk oX10_copy_3 33 rfl) rfl ?_
                                refine r_iadd C (dk oX10_copy_3 34 rfl) ?_
                                rw [nI_add]
                                refine r_iald C _ (dk oX10_copy_3 35 rfl) rfl (km hn rfl) rfl (by omega) (by decide) ?_
                                refine r_iast C _ (dk oX10_copy_3 36 rfl) rfl (km hn rfl) rfl (by omega) (by decide) ?_
                                refine r_aload_n C 0 (dk oX10_copy_3 37 rfl) rfl ?_
                                refine r_getR C (dk oX10_copy_3 38 rfl) fl_X10_50 rfl (km hn rfl) ?_
                                refine r_bipush C (dk oX10_copy_3 39 rfl) (v := nI 16) (by decide) ?_
                                refine r_iload_n C 2 (dk oX10_copy_3 40 rfl) rfl ?_
                                refine r_imul C (dk oX10_copy_3 41 rfl) ?_
                                rw [pk_mul]
                                refine r_iload_n C 3 (dk oX10_copy_3 42 rfl) rfl ?_
                                refine r_iadd C (dk oX10_copy_3 43 rfl) ?_
                                rw [nI_add]
                                refine r_aload_n C 0 (dk oX10_copy_3 44 rfl) rfl ?_
                                refine r_getR C (dk oX10_copy_3 45 rfl) fl_X10_50 rfl (km hn rfl) ?_
                                refine r_bipush C (dk oX10_copy_3 46 rfl) (v := nI 16) (by decide) ?_
                                refine r_iload_n C 1 (dk oX10_copy_3 47 rfl) rfl ?_
                                refine r_imul C (dk oX10_copy_3 48 rfl) ?_
                                rw [pk_mul]
                                refine r_iload_n C 3 (dk oX10_copy_3 49 rfl) rfl ?_
                                refine r_iadd C (dk oX10_copy_3 50 rfl) ?_
                                rw [nI_add]
                                refine r_zald C _ (dk oX10_copy_3 51 rfl) rfl (km hn rfl) rfl (by omega) (by decide) ?_
                                refine r_zast C _ (dk oX10_copy_3 52 rfl) rfl (km hn rfl) rfl (by omega) (by decide) (by rw [up2_ne (by decide), up2_ne (by decide), up2_ne (by decide), up2_ne (by decide), h229_131]; exact cpE_z hzB (by omega) _ (by omega)) ?_
                                refine r_iinc (lo' := [(3, _), (0, _), (1, _), (2, _)]) C 3 (dk oX10_copy_3 53 rfl) rfl (by first | exact nI_inc _ | rfl) (by decide) rfl ?_
                                refine r_goto (tgt := 229) C (dk oX10_copy_3 54 rfl) (by decide) ?_
                                refine V.sub [1, 2, 3, 0] rfl ?_
                                exact ih (c5 + 1) _ (by omega) (by omega) (fun j => by rw [up2_ne (by decide), up2_ne (by decide), up2_ne (by decide), up2_ne (by decide)]; exact cpE_s (I1 := I5) (by omega) (by omega) (fun j => by exact h229_127 j) j) (fun j => by rw [up2_ne (by decide), up2_ne (by decide), up2_ne (by decide)]; exact cpE_s (I1 := (up2 I5 127 (16 * y_ + c5) (I5 127 (16 * x_ + c5)))) (by omega) (by omega) (fun j => by rw [up2_ne (by decide)]; exact h229_128 j) j) (fun j => by rw [up2_ne (by decide), up2_ne (by decide)]; exact cpE_s (I1 := (up2 (up2 I5 127 (16 * y_ + c5) (I5 127 (16 * x_ + c5))) 128 (16 * y_ + c5) ((up2 I5 127 (16 * y_ + c5) (I5 127 (16 * x_ + c5))) 128 (16 * x_ + c5)))) (by omega) (by omega) (fun j => by rw [up2_ne (by decide), up2_ne (by decide)]; exact h229_129 j) j) (fun j => by rw [up2_ne (by decide)]; exact cpE_s (I1 := (up2 (up2 (up2 I5 127 (16 * y_ + c5) (I5 127 (16 * x_ + c5))) 128 (16 * y_ + c5) ((up2 I5 127 (16 * y_ + c5) (I5 127 (16 * x_ + c5))) 128 (16 * x_ + c5))) 129 (16 * y_ + c5) ((up2 (up2 I5 127 (16 * y_ + c5) (I5 127 (16 * x_ + c5))) 128 (16 * y_ + c5) ((up2 I5 127 (16 * y_ + c5) (I5 127 (16 * x_ + c5))) 128 (16 * x_ + c5))) 129 (16 * x_ + c5)))) (by omega) (by omega) (fun j => by rw [up2_ne (by decide), up2_ne (by decide), up2_ne (by decide)]; exact h229_130 j) j) (fun j => by exact cpE_s (I1 := (up2 (up2 (up2 (up2 I5 127 (16 * y_ + c5) (I5 127 (16 * x_ + c5))) 128 (16 * y_ + c5) ((up2 I5 127 (16 * y_ + c5) (I5 127 (16 * x_ + c5))) 128 (16 * x_ + c5))) 129 (16 * y_ + c5) ((up2 (up2 I5 127 (16 * y_ + c5) (I5 127 (16 * x_ + c5))) 128 (16 * y_ + c5) ((up2 I5 127 (16 * y_ + c5) (I5 127 (16 * x_ + c5))) 128 (16 * x_ + c5))) 129 (16 * x_ + c5))) 130 (16 * y_ + c5) ((up2 (up2 (up2 I5 127 (16 * y_ + c5) (I5 127 (16 * x_ + c5))) 128 (16 * y_ + c5) ((up2 I5 127 (16 * y_ + c5) (I5 127 (16 * x_ + c5))) 128 (16 * x_ + c5))) 129 (16 * y_ + c5) ((up2 (up2 I5 127 (16 * y_ + c5) (I5 127 (16 * x_ + c5))) 128 (16 * y_ + c5) ((up2 I5 127 (16 * y_ + c5) (I5 127 (16 * x_ + c5))) 128 (16 * x_ + c5))) 129 (16 * x_ + c5))) 130 (16 * x_ + c5)))) (by omega) (by omega) (fun j => by rw [up2_ne (by decide), up2_ne (by decide), up2_ne (by decide), up2_ne (by decide)]; exact h229_131 j) j) (fun k q127 q128 q129 q130 q131 => by rw [up2_ne q131, up2_ne q130, up2_ne q129, up2_ne q128, up2_ne q127]; exact hF229 k q127 q128 q129 q130 q131)
                          refine V.sub [1, 2, 3, 0] rfl ?_
                          exact L229 17 0 (up2 I4 126 y_ (I4 126 x_)) (by omega) (Nat.zero_le _) (fun j => cpE_0.symm) (fun j => cpE_0.symm) (fun j => cpE_0.symm) (fun j => cpE_0.symm) (fun j => cpE_0.symm) (fun k _ _ _ _ _ => rfl)
                        · simp (disch := omega) only [nI_leI, nI_ltI, nI_eq, nI_eq0] at hb184
                          refine r_aload_n C 0 (dk oX10_copy_2 2 rfl) rfl ?_
                          refine r_getR C (dk oX10_copy_2 3 rfl) fl_X10_32 rfl (km hn rfl) ?_
                          refine r_bipush C (dk oX10_copy_2 4 rfl) (v := nI 120) (by decide) ?_
                          refine r_iload_n C 2 (dk oX10_copy_2 5 rfl) rfl ?_
                          refine r_imul C (dk oX10_copy_2 6 rfl) ?_
                          rw [pk_mul]
                          refine r_iload_n C 3 (dk oX10_copy_2 7 rfl) rfl ?_
                          refine r_iadd C (dk oX10_copy_2 8 rfl) ?_
                          rw [nI_add]
                          refine r_aload_n C 0 (dk oX10_copy_2 9 rfl) rfl ?_
                          refine r_getR C (dk oX10_copy_2 10 rfl) fl_X10_32 rfl (km hn rfl) ?_
                          refine r_bipush C (dk oX10_copy_2 11 rfl) (v := nI 120) (by decide) ?_
                          refine r_iload_n C 1 (dk oX10_copy_2 12 rfl) rfl ?_
                          refine r_imul C (dk oX10_copy_2 13 rfl) ?_
                          rw [pk_mul]
                          refine r_iload_n C 3 (dk oX10_copy_2 14 rfl) rfl ?_
                          refine r_iadd C (dk oX10_copy_2 15 rfl) ?_
                          rw [nI_add]
                          refine r_iald C _ (dk oX10_copy_2 16 rfl) rfl (km hn rfl) rfl (by omega) (by decide) ?_
                          refine r_iast C _ (dk oX10_copy_2 17 rfl) rfl (km hn rfl) rfl (by omega) (by decide) ?_
                          refine r_iinc (lo' := [(3, _), (0, _), (1, _), (2, _)]) C 3 (dk oX10_copy_2 18 rfl) rfl (by first | exact nI_inc _ | rfl) (by decide) rfl ?_
                          refine r_goto (tgt := 181) C (dk oX10_copy_2 19 rfl) (by decide) ?_
                          refine V.sub [1, 2, 3, 0] rfl ?_
                          exact ih (c4 + 1) _ (by omega) (by omega) (fun j => by exact cpE_s (I1 := I4) (by omega) (by omega) (fun j => by exact h181_125 j) j) (fun k q125 => by rw [up2_ne q125]; exact hF181 k q125)
                    refine V.sub [1, 2, 3, 0] rfl ?_
                    exact L181 121 0 I3 (by omega) (Nat.zero_le _) (fun j => cpE_0.symm) (fun k _ => rfl)
                  · simp (disch := omega) only [nI_leI, nI_ltI, nI_eq, nI_eq0] at hb126
                    refine r_aload_n C 0 (dk oX10_copy_1 23 rfl) rfl ?_
                    refine r_getR C (dk oX10_copy_1 24 rfl) fl_X10_25 rfl (km hn rfl) ?_
                    refine r_bipush C (dk oX10_copy_1 25 rfl) (v := nI 10) (by decide) ?_
                    refine r_iload_n C 2 (dk oX10_copy_1 26 rfl) rfl ?_
                    refine r_imul C (dk oX10_copy_1 27 rfl) ?_
                    rw [pk_mul]
                    refine r_iload_n C 3 (dk oX10_copy_1 28 rfl) rfl ?_
                    refine r_iadd C (dk oX10_copy_1 29 rfl) ?_
                    rw [nI_add]
                    refine r_aload_n C 0 (dk oX10_copy_1 30 rfl) rfl ?_
                    refine r_getR C (dk oX10_copy_1 31 rfl) fl_X10_25 rfl (km hn rfl) ?_
                    refine r_bipush C (dk oX10_copy_1 32 rfl) (v := nI 10) (by decide) ?_
                    refine r_iload_n C 1 (dk oX10_copy_1 33 rfl) rfl ?_
                    refine r_imul C (dk oX10_copy_1 34 rfl) ?_
                    rw [pk_mul]
                    refine r_iload_n C 3 (dk oX10_copy_1 35 rfl) rfl ?_
                    refine r_iadd C (dk oX10_copy_1 36 rfl) ?_
                    rw [nI_add]
                    refine r_iald C _ (dk oX10_copy_1 37 rfl) rfl (km hn rfl) rfl (by omega) (by decide) ?_
                    refine r_iast C _ (dk oX10_copy_1 38 rfl) rfl (km hn rfl) rfl (by omega) (by decide) ?_
                    refine r_aload_n C 0 (dk oX10_copy_1 39 rfl) rfl ?_
                    refine r_getR C (dk oX10_copy_1 40 rfl) fl_X10_28 rfl (km hn rfl) ?_
                    refine r_bipush C (dk oX10_copy_1 41 rfl) (v := nI 10) (by decide) ?_
                    refine r_iload_n C 2 (dk oX10_copy_1 42 rfl) rfl ?_
                    refine r_imul C (dk oX10_copy_1 43 rfl) ?_
                    rw [pk_mul]
                    refine r_iload_n C 3 (dk oX10_copy_1 44 rfl) rfl ?_
                    refine r_iadd C (dk oX10_copy_1 45 rfl) ?_
                    rw [nI_add]
                    refine r_aload_n C 0 (dk oX10_copy_1 46 rfl) rfl ?_
                    refine r_getR C (dk oX10_copy_1 47 rfl) fl_X10_28 rfl (km hn rfl) ?_
                    refine r_bipush C (dk oX10_copy_1 48 rfl) (v := nI 10) (by decide) ?_
                    refine r_iload_n C 1 (dk oX10_copy_1 49 rfl) rfl ?_
                    refine r_imul C (dk oX10_copy_1 50 rfl) ?_
                    rw [pk_mul]
                    refine r_iload_n C 3 (dk oX10_copy_1 51 rfl) rfl ?_
                    refine r_iadd C (dk oX10_copy_1 52 rfl) ?_
                    rw [nI_add]
                    refine r_zald C _ (dk oX10_copy_1 53 rfl) rfl (km hn rfl) rfl (by omega) (by decide) ?_
                    refine r_zast C _ (dk oX10_copy_1 54 rfl) rfl (km hn rfl) rfl (by omega) (by decide) (by rw [up2_ne (by decide), h123_124]; exact cpE_z hzA (by omega) _ (by omega)) ?_
                    refine r_iinc (lo' := [(3, _), (0, _), (1, _), (2, _)]) C 3 (dk oX10_copy_1 55 rfl) rfl (by first | exact nI_inc _ | rfl) (by decide) rfl ?_
                    refine r_goto (tgt := 123) C (dk oX10_copy_1 56 rfl) (by decide) ?_
                    refine V.sub [1, 2, 3, 0] rfl ?_
                    exact ih (c3 + 1) _ (by omega) (by omega) (fun j => by rw [up2_ne (by decide)]; exact cpE_s (I1 := I3) (by omega) (by omega) (fun j => by exact h123_123 j) j) (fun j => by exact cpE_s (I1 := (up2 I3 123 (10 * y_ + c3) (I3 123 (10 * x_ + c3)))) (by omega) (by omega) (fun j => by rw [up2_ne (by decide)]; exact h123_124 j) j) (fun k q123 q124 => by rw [up2_ne q124, up2_ne q123]; exact hF123 k q123 q124)
              refine V.sub [1, 2, 3, 0] rfl ?_
              exact L123 11 0 (up2 I2 122 y_ (I2 122 x_)) (by omega) (Nat.zero_le _) (fun j => cpE_0.symm) (fun j => cpE_0.symm) (fun k _ _ => rfl)
            · simp (disch := omega) only [nI_leI, nI_ltI, nI_eq, nI_eq0] at hb76
              refine r_aload_n C 0 (dk oX10_copy_0 52 rfl) rfl ?_
              refine r_getR C (dk oX10_copy_0 53 rfl) fl_X10_16 rfl (km hn rfl) ?_
              refine r_sipush C (dk oX10_copy_0 54 rfl) (v := nI 720) (by decide) ?_
              refine r_iload_n C 2 (dk oX10_copy_0 55 rfl) rfl ?_
              refine r_imul C (dk oX10_copy_0 56 rfl) ?_
              rw [pk_mul]
              refine r_iload_n C 3 (dk oX10_copy_0 57 rfl) rfl ?_
              refine r_iadd C (dk oX10_copy_0 58 rfl) ?_
              rw [nI_add]
              refine r_aload_n C 0 (dk oX10_copy_0 59 rfl) rfl ?_
              refine r_getR C (dk oX10_copy_1 0 rfl) fl_X10_16 rfl (km hn rfl) ?_
              refine r_sipush C (dk oX10_copy_1 1 rfl) (v := nI 720) (by decide) ?_
              refine r_iload_n C 1 (dk oX10_copy_1 2 rfl) rfl ?_
              refine r_imul C (dk oX10_copy_1 3 rfl) ?_
              rw [pk_mul]
              refine r_iload_n C 3 (dk oX10_copy_1 4 rfl) rfl ?_
              refine r_iadd C (dk oX10_copy_1 5 rfl) ?_
              rw [nI_add]
              refine r_iald C _ (dk oX10_copy_1 6 rfl) rfl (km hn rfl) rfl (by omega) (by decide) ?_
              refine r_iast C _ (dk oX10_copy_1 7 rfl) rfl (km hn rfl) rfl (by omega) (by decide) ?_
              refine r_iinc (lo' := [(3, _), (0, _), (1, _), (2, _)]) C 3 (dk oX10_copy_1 8 rfl) rfl (by first | exact nI_inc _ | rfl) (by decide) rfl ?_
              refine r_goto (tgt := 72) C (dk oX10_copy_1 9 rfl) (by decide) ?_
              refine V.sub [1, 2, 3, 0] rfl ?_
              exact ih (c2 + 1) _ (by omega) (by omega) (fun j => by exact cpE_s (I1 := I2) (by omega) (by omega) (fun j => by exact h72_120 j) j) (fun k q120 => by rw [up2_ne q120]; exact hF72 k q120)
        refine V.sub [1, 2, 3, 0] rfl ?_
        exact L72 721 0 I1 (by omega) (Nat.zero_le _) (fun j => cpE_0.symm) (fun k _ => rfl)
      · simp (disch := omega) only [nI_leI, nI_ltI, nI_eq, nI_eq0] at hb17
        refine r_aload_n C 0 (dk oX10_copy_0 13 rfl) rfl ?_
        refine r_getR C (dk oX10_copy_0 14 rfl) fl_X10_13 rfl (km hn rfl) ?_
        refine r_bipush C (dk oX10_copy_0 15 rfl) (v := nI 6) (by decide) ?_
        refine r_iload_n C 2 (dk oX10_copy_0 16 rfl) rfl ?_
        refine r_imul C (dk oX10_copy_0 17 rfl) ?_
        rw [pk_mul]
        refine r_iload_n C 3 (dk oX10_copy_0 18 rfl) rfl ?_
        refine r_iadd C (dk oX10_copy_0 19 rfl) ?_
        rw [nI_add]
        refine r_aload_n C 0 (dk oX10_copy_0 20 rfl) rfl ?_
        refine r_getR C (dk oX10_copy_0 21 rfl) fl_X10_13 rfl (km hn rfl) ?_
        refine r_bipush C (dk oX10_copy_0 22 rfl) (v := nI 6) (by decide) ?_
        refine r_iload_n C 1 (dk oX10_copy_0 23 rfl) rfl ?_
        refine r_imul C (dk oX10_copy_0 24 rfl) ?_
        rw [pk_mul]
        refine r_iload_n C 3 (dk oX10_copy_0 25 rfl) rfl ?_
        refine r_iadd C (dk oX10_copy_0 26 rfl) ?_
        rw [nI_add]
        refine r_iald C _ (dk oX10_copy_0 27 rfl) rfl (km hn rfl) rfl (by omega) (by decide) ?_
        refine r_iast C _ (dk oX10_copy_0 28 rfl) rfl (km hn rfl) rfl (by omega) (by decide) ?_
        refine r_aload_n C 0 (dk oX10_copy_0 29 rfl) rfl ?_
        refine r_getR C (dk oX10_copy_0 30 rfl) fl_X10_19 rfl (km hn rfl) ?_
        refine r_bipush C (dk oX10_copy_0 31 rfl) (v := nI 6) (by decide) ?_
        refine r_iload_n C 2 (dk oX10_copy_0 32 rfl) rfl ?_
        refine r_imul C (dk oX10_copy_0 33 rfl) ?_
        rw [pk_mul]
        refine r_iload_n C 3 (dk oX10_copy_0 34 rfl) rfl ?_
        refine r_iadd C (dk oX10_copy_0 35 rfl) ?_
        rw [nI_add]
        refine r_aload_n C 0 (dk oX10_copy_0 36 rfl) rfl ?_
        refine r_getR C (dk oX10_copy_0 37 rfl) fl_X10_19 rfl (km hn rfl) ?_
        refine r_bipush C (dk oX10_copy_0 38 rfl) (v := nI 6) (by decide) ?_
        refine r_iload_n C 1 (dk oX10_copy_0 39 rfl) rfl ?_
        refine r_imul C (dk oX10_copy_0 40 rfl) ?_
        rw [pk_mul]
        refine r_iload_n C 3 (dk oX10_copy_0 41 rfl) rfl ?_
        refine r_iadd C (dk oX10_copy_0 42 rfl) ?_
        rw [nI_add]
        refine r_iald C _ (dk oX10_copy_0 43 rfl) rfl (km hn rfl) rfl (by omega) (by decide) ?_
        refine r_iast C _ (dk oX10_copy_0 44 rfl) rfl (km hn rfl) rfl (by omega) (by decide) ?_
        refine r_iinc (lo' := [(3, _), (0, _), (1, _), (2, _)]) C 3 (dk oX10_copy_0 45 rfl) rfl (by first | exact nI_inc _ | rfl) (by decide) rfl ?_
        refine r_goto (tgt := 14) C (dk oX10_copy_0 46 rfl) (by decide) ?_
        refine V.sub [1, 2, 3, 0] rfl ?_
        exact ih (c1 + 1) _ (by omega) (by omega) (fun j => by rw [up2_ne (by decide)]; exact cpE_s (I1 := I1) (by omega) (by omega) (fun j => by exact h14_119 j) j) (fun j => by exact cpE_s (I1 := (up2 I1 119 (6 * y_ + c1) (I1 119 (6 * x_ + c1)))) (by omega) (by omega) (fun j => by rw [up2_ne (by decide)]; exact h14_121 j) j) (fun k q119 q121 => by rw [up2_ne q121, up2_ne q119]; exact hF14 k q119 q121)
  refine V.sub [1, 2, 3, 0] rfl ?_
  exact L14 7 0 (up2 I 118 y_ (I 118 x_)) (by omega) (Nat.zero_le _) (fun j => cpE_0.symm) (fun j => cpE_0.symm) (fun k _ _ => rfl)

end MOD6
