section SCALE
variable {l : Launch} {n : Nat} {ad : Nat → Nat} {cA : Nat → ClassId} {D : va_G} {z : Zw}
theorem rmR2 {h h' k : Nat} (h1 : h' < h) (h2 : k ≤ 80) : h' + 1 ≤ (rmL h).frames ∧ 8 + (k + 11) + 100 * h' ≤ (rmL h).locals := ⟨h1, by show 8 + (k + 11) + 100 * h' ≤ 100 * h; omega⟩
theorem cut_1 {p : Nat → Bool} {od : Nat → Nat} {v k : Nat} (h : p k = true) : cutN p od v (k + 1) = cutN p od v k * (1000 - od k) / 1000 := if_pos h
theorem cut_0 {p : Nat → Bool} {od : Nat → Nat} {v k : Nat} (h : p k = false) : cutN p od v (k + 1) = cutN p od v k := if_neg (by rw [h]; decide)
set_option maxHeartbeats 1000000 in
set_option maxRecDepth 100000 in
theorem c38_X6_cutBy (hn : 117 ≤ n) (I : MI) (J : MJ) (k_ : Prf) (hK : CPrf I 8 k_.1 k_.2.1 k_.2.2.1 k_.2.2.2.1 k_.2.2.2.2.1 k_.2.2.2.2.2) (Φ : Nat → FS) (hM : FcM I 38 Φ) (B x_ : Nat) (hB : B < 2 ^ 16) (hx : x_ < 2) (v : Nat → Nat) (hv : ∀ f, f < 12 → I 53 f = nI (v f) ∧ v f ≤ 1000) : Cv l n ad cA D z 1 yX6_cutBy cX6_cutBy 7 I J [.ref (ad 52), .ref (ad 33), .ref (ad 38), .int (nI B), .int (nI x_)] (fun I' J' => J' = J ∧ (∀ k, k ≠ 53 → I' k = I k) ∧ ∀ f, f < 12 → I' 53 f = nI (cutN (cutP B k_.2.1 k_.2.2.1 Φ (nI x_) f) k_.2.2.2.1 (v f) k_.1)) := by
  refine Cv.of (by decide) (Nat.le_of_ble_eq_true rfl) ?_
  intro p e s m args below meth c A C hin Z Q hret
  obtain ⟨p1, p2, p3, p4⟩ := hK
  refine r_iconst C (dk oX6_cutBy 0 rfl) (v := nI 0) (by decide) ?_
  refine r_istore (lo' := [(5, _), (0, _), (1, _), (2, _), (3, _), (4, _)]) C (dk oX6_cutBy 1 rfl) (by decide) rfl ?_
  have L3 : ∀ (d_ : Nat) (j_ : Nat) (I1 : MI), k_.1 - j_ < d_ → j_ ≤ k_.1 → (∀ k, k ≠ 53 → I1 k = I k) → (∀ f, f < 12 → I1 53 f = nI (cutN (cutP B k_.2.1 k_.2.2.1 Φ (nI x_) f) k_.2.2.2.1 (v f) j_)) → V p l e (rmL 1) s m args below meth c Q D A 7 0 0 n ad (mE cA ad I1 J) 3 [(0, .ref (ad 52)), (1, .ref (ad 33)), (2, .ref (ad 38)), (3, .int (nI B)), (4, .int (nI x_)), (5, .int (nI j_))] [] := by
    intro d_
    induction d_ with
    | zero => intros; exact absurd (by assumption) (Nat.not_lt_zero _)
    | succ d_ ih => 
      intro j_ I1 hd_ hj hF hV
      refine r_iload C 5 (dk oX6_cutBy 2 rfl) rfl ?_
      refine r_aload_n C 1 (dk oX6_cutBy 3 rfl) rfl ?_
      refine r_getI C (dk oX6_cutBy 4 rfl) fl_X6_22 rfl (kn hn rfl) ?_
      rw [hF 33 (by decide), p2]
      refine r_icmp_ge (tgt := 99) C (dk oX6_cutBy 5 rfl) (by decide) (fun hb9 => ?_) (fun hb9 => ?_)
      · simp (disch := omega) only [nI_leI, nI_ltI, nI_eq, nI_eq0] at hb9
        refine hret (dk oX6_cutBy 49 rfl) ?_
        exact ⟨rfl, hF, fun f hf => by rw [hV f hf, show j_ = k_.1 by omega]⟩
      · simp (disch := omega) only [nI_leI, nI_ltI, nI_eq, nI_eq0] at hb9
        refine r_iload C 5 (dk oX6_cutBy 6 rfl) rfl ?_
        refine r_bipush C (dk oX6_cutBy 7 rfl) (v := nI 16) (by decide) ?_
        refine r_icmp_ge (tgt := 99) C (dk oX6_cutBy 8 rfl) (by decide) (fun hb16 => absurd hb16 (by rw [nI_leI (by omega) (by omega)]; omega)) (fun hb16 => ?_)
        refine r_aload_n C 1 (dk oX6_cutBy 9 rfl) rfl ?_
        refine r_getR C (dk oX6_cutBy 10 rfl) fl_X6_28 rfl (kn hn rfl) ?_
        have q4 := p4 j_ (by omega)
        refine r_iload C 5 (dk oX6_cutBy 11 rfl) rfl ?_
        refine r_iald C _ (dk oX6_cutBy 12 rfl) rfl (kn hn rfl) rfl (by omega) (by decide) ?_
        rw [hF 35 (by decide), q4.2.2.1]
        have hf12 := q4.2.2.2.1
        refine r_istore (lo' := [(6, _), (0, _), (1, _), (2, _), (3, _), (4, _), (5, _)]) C (dk oX6_cutBy 13 rfl) (by decide) rfl ?_
        refine r_iload_n C 4 (dk oX6_cutBy 14 rfl) rfl ?_
        refine r_iload C 6 (dk oX6_cutBy 15 rfl) rfl ?_
        refine r_isi C Z (dk oX6_cutBy 16 rfl) cl_X6_31 st_X9_has (c_X9_has I1 J B j_ (by omega) (by omega)) rfl rfl (Nat.le_of_ble_eq_true rfl) ⟨Nat.le_of_ble_eq_true rfl, Nat.le_of_ble_eq_true rfl⟩ ⟨Nat.zero_le _, Nat.zero_le _⟩ (fun r31 I31 J31 h31 => ?_)
        obtain ⟨h31, e1_, e2_⟩ := h31
        have e1_ := e1_.symm
        have e2_ := e2_.symm
        subst e1_
        subst e2_
        subst h31
        refine r_if_eq (tgt := 93) C (dk oX6_cutBy 17 rfl) (by decide) (fun hb34 => ?_) (fun hb34 => ?_)
        · rw [b32_0] at hb34
          refine r_iinc (lo' := [(5, _), (6, _), (0, _), (1, _), (2, _), (3, _), (4, _)]) C 6 (dk oX6_cutBy 47 rfl) rfl (by first | exact nI_inc _ | rfl) (by decide) rfl ?_
          refine r_goto (tgt := 3) C (dk oX6_cutBy 48 rfl) (by decide) ?_
          refine V.sub [2, 3, 4, 5, 6, 0] rfl ?_
          first
            | (refine ih (j_ + 1) _ (by omega) (by omega) hF (fun f hf => ?_)
               rw [hV f hf, cut_0]
               first
                 | (show (B.testBit j_ && decide (k_.2.2.1 j_ = f) && decide (berF (k_.2.1 j_) (Φ (k_.2.2.1 j_)) = nI x_)) = false
                    rw [hb34]; rfl)
                 | (show (B.testBit j_ && decide (k_.2.2.1 j_ = f) && decide (berF (k_.2.1 j_) (Φ (k_.2.2.1 j_)) = nI x_)) = false
                    rw [decide_eq_false hb60, Bool.and_false]))
            | (refine ih (j_ + 1) _ (by omega) (by omega) (fun k hk => by rw [up2_ne hk]; exact hF k hk) (fun f hf => ?_)
               by_cases e : f = k_.2.2.1 j_
               · subst e
                 rw [up2_at, cut_1]
                 show (B.testBit j_ && decide (k_.2.2.1 j_ = k_.2.2.1 j_) && decide (berF (k_.2.1 j_) (Φ (k_.2.2.1 j_)) = nI x_)) = true
                 rw [hb34, decide_eq_true rfl, decide_eq_true hb60]; rfl
               · rw [up2_off e, hV f hf, cut_0]
                 show (B.testBit j_ && decide (k_.2.2.1 j_ = f) && decide (berF (k_.2.1 j_) (Φ (k_.2.2.1 j_)) = nI x_)) = false
                 rw [decide_eq_false (Ne.symm e), Bool.and_false]; rfl)
        · rw [b32_n] at hb34
          refine r_iload C 0 (dk oX6_cutBy 18 rfl) rfl ?_
          refine r_isi C Z (dk oX6_cutBy 19 rfl) cl_X6_35 st_X9_isFact (c_X9_isFact I1 J (nI (k_.2.2.1 j_))) rfl rfl (Nat.le_of_ble_eq_true rfl) ⟨Nat.le_of_ble_eq_true rfl, Nat.le_of_ble_eq_true rfl⟩ ⟨Nat.zero_le _, Nat.zero_le _⟩ (fun r39 I39 J39 h39 => ?_)
          obtain ⟨h39, e1_, e2_⟩ := h39
          have e1_ := e1_.symm
          have e2_ := e2_.symm
          subst e1_
          subst e2_
          subst h39
          refine r_if_eq (tgt := 93) C (dk oX6_cutBy 20 rfl) (by decide) (fun hb42 => absurd hb42 (by rw [b32_n, decide_eq_true_eq]; exact ⟨nI_pos' (by omega), nI_lt (by omega) (by decide)⟩)) (fun hb42 => ?_)
          refine r_aload_n C 3 (dk oX6_cutBy 21 rfl) rfl ?_
          refine r_aload_n C 2 (dk oX6_cutBy 22 rfl) rfl ?_
          refine r_getR C (dk oX6_cutBy 23 rfl) fl_X6_39 rfl (kn hn rfl) ?_
          refine r_iload C 6 (dk oX6_cutBy 24 rfl) rfl ?_
          refine r_iald C _ (dk oX6_cutBy 25 rfl) rfl (kn hn rfl) rfl (by omega) (by decide) ?_
          have hF34 := hF 34 (by decide)
          rw [hF34, q4.1]
          refine r_iload C 0 (dk oX6_cutBy 26 rfl) rfl ?_
          refine r_ivi C Z (dk oX6_cutBy 27 rfl) cl_X6_42 ci_X2_bearing rfl (kn hn rfl) (c38_X2_bearing hn I1 J Φ (fun f hf i hi => by rw [hF _ (by omega)]; exact hM f hf i hi) (k_.2.1 j_) (k_.2.2.1 j_) q4.2.1 hf12) rfl rfl (Nat.le_of_ble_eq_true rfl) ⟨Nat.le_of_ble_eq_true rfl, Nat.le_of_ble_eq_true rfl⟩ ⟨Nat.zero_le _, Nat.zero_le _⟩ (fun r55 I55 J55 h55 => ?_)
          obtain ⟨h55, e1_, e2_⟩ := h55
          have e1_ := e1_.symm
          have e2_ := e2_.symm
          subst e1_
          subst e2_
          subst h55
          refine r_iload C 5 (dk oX6_cutBy 28 rfl) rfl ?_
          refine r_icmp_ne (tgt := 93) C (dk oX6_cutBy 29 rfl) (by decide) (fun hb60 => ?_) (fun hb60 => ?_)
          · refine r_iinc (lo' := [(5, _), (6, _), (0, _), (1, _), (2, _), (3, _), (4, _)]) C 6 (dk oX6_cutBy 47 rfl) rfl (by first | exact nI_inc _ | rfl) (by decide) rfl ?_
            refine r_goto (tgt := 3) C (dk oX6_cutBy 48 rfl) (by decide) ?_
            refine V.sub [2, 3, 4, 5, 6, 0] rfl ?_
            first
              | (refine ih (j_ + 1) _ (by omega) (by omega) hF (fun f hf => ?_)
                 rw [hV f hf, cut_0]
                 first
                   | (show (B.testBit j_ && decide (k_.2.2.1 j_ = f) && decide (berF (k_.2.1 j_) (Φ (k_.2.2.1 j_)) = nI x_)) = false
                      rw [hb34]; rfl)
                   | (show (B.testBit j_ && decide (k_.2.2.1 j_ = f) && decide (berF (k_.2.1 j_) (Φ (k_.2.2.1 j_)) = nI x_)) = false
                      rw [decide_eq_false hb60, Bool.and_false]))
              | (refine ih (j_ + 1) _ (by omega) (by omega) (fun k hk => by rw [up2_ne hk]; exact hF k hk) (fun f hf => ?_)
                 by_cases e : f = k_.2.2.1 j_
                 · subst e
                   rw [up2_at, cut_1]
                   show (B.testBit j_ && decide (k_.2.2.1 j_ = k_.2.2.1 j_) && decide (berF (k_.2.1 j_) (Φ (k_.2.2.1 j_)) = nI x_)) = true
                   rw [hb34, decide_eq_true rfl, decide_eq_true hb60]; rfl
                 · rw [up2_off e, hV f hf, cut_0]
                   show (B.testBit j_ && decide (k_.2.2.1 j_ = f) && decide (berF (k_.2.1 j_) (Φ (k_.2.2.1 j_)) = nI x_)) = false
                   rw [decide_eq_false (Ne.symm e), Bool.and_false]; rfl)
          · refine r_aload_n C 1 (dk oX6_cutBy 30 rfl) rfl ?_
            refine r_getR C (dk oX6_cutBy 31 rfl) fl_X6_9 rfl (kn hn rfl) ?_
            refine r_iload C 0 (dk oX6_cutBy 32 rfl) rfl ?_
            refine r_aload_n C 1 (dk oX6_cutBy 33 rfl) rfl ?_
            refine r_getR C (dk oX6_cutBy 34 rfl) fl_X6_9 rfl (kn hn rfl) ?_
            refine r_iload C 0 (dk oX6_cutBy 35 rfl) rfl ?_
            refine r_iald C _ (dk oX6_cutBy 36 rfl) rfl (kn hn rfl) rfl (by omega) (by decide) ?_
            rw [hV _ hf12]
            have hcl := @cutN_le (cutP B k_.2.1 k_.2.2.1 Φ (nI x_) (k_.2.2.1 j_)) k_.2.2.2.1 (v (k_.2.2.1 j_)) j_
            have hvl := (hv _ hf12).2
            refine r_sipush C (dk oX6_cutBy 37 rfl) (v := nI 1000) (by decide) ?_
            refine r_aload_n C 2 (dk oX6_cutBy 38 rfl) rfl ?_
            refine r_getR C (dk oX6_cutBy 39 rfl) fl_X6_48 rfl (kn hn rfl) ?_
            refine r_iload C 6 (dk oX6_cutBy 40 rfl) rfl ?_
            refine r_iald C _ (dk oX6_cutBy 41 rfl) rfl (kn hn rfl) rfl (by omega) (by decide) ?_
            rw [hF 36 (by decide), q4.2.2.2.2.1]
            have hod := q4.2.2.2.2.2.1
            refine r_isub C (dk oX6_cutBy 42 rfl) ?_
            rw [pk_sub hod]
            refine r_imul C (dk oX6_cutBy 43 rfl) ?_
            rw [pk_mul]
            have hmul : cutN (cutP B k_.2.1 k_.2.2.1 Φ (nI x_) (k_.2.2.1 j_)) k_.2.2.2.1 (v (k_.2.2.1 j_)) j_ * (1000 - k_.2.2.2.1 j_) ≤ 1000 * 1000 := Nat.mul_le_mul (by omega) (by omega)
            refine r_sipush C (dk oX6_cutBy 44 rfl) (v := nI 1000) (by decide) ?_
            refine r_idiv C (dk oX6_cutBy 45 rfl) (by decide) ?_
            rw [pk_div (by omega) (by decide) (by decide)]
            refine r_iast C _ (dk oX6_cutBy 46 rfl) rfl (kn hn rfl) rfl (by omega) (by decide) ?_
            refine r_iinc (lo' := [(5, _), (6, _), (0, _), (1, _), (2, _), (3, _), (4, _)]) C 6 (dk oX6_cutBy 47 rfl) rfl (by first | exact nI_inc _ | rfl) (by decide) rfl ?_
            refine r_goto (tgt := 3) C (dk oX6_cutBy 48 rfl) (by decide) ?_
            refine V.sub [2, 3, 4, 5, 6, 0] rfl ?_
            first
              | (refine ih (j_ + 1) _ (by omega) (by omega) hF (fun f hf => ?_)
                 rw [hV f hf, cut_0]
                 first
                   | (show (B.testBit j_ && decide (k_.2.2.1 j_ = f) && decide (berF (k_.2.1 j_) (Φ (k_.2.2.1 j_)) = nI x_)) = false
                      rw [hb34]; rfl)
                   | (show (B.testBit j_ && decide (k_.2.2.1 j_ = f) && decide (berF (k_.2.1 j_) (Φ (k_.2.2.1 j_)) = nI x_)) = false
                      rw [decide_eq_false hb60, Bool.and_false]))
              | (refine ih (j_ + 1) _ (by omega) (by omega) (fun k hk => by rw [up2_ne hk]; exact hF k hk) (fun f hf => ?_)
                 by_cases e : f = k_.2.2.1 j_
                 · subst e
                   rw [up2_at, cut_1]
                   show (B.testBit j_ && decide (k_.2.2.1 j_ = k_.2.2.1 j_) && decide (berF (k_.2.1 j_) (Φ (k_.2.2.1 j_)) = nI x_)) = true
                   rw [hb34, decide_eq_true rfl, decide_eq_true hb60]; rfl
                 · rw [up2_off e, hV f hf, cut_0]
                   show (B.testBit j_ && decide (k_.2.2.1 j_ = f) && decide (berF (k_.2.1 j_) (Φ (k_.2.2.1 j_)) = nI x_)) = false
                   rw [decide_eq_false (Ne.symm e), Bool.and_false]; rfl)
  refine V.sub [1, 2, 3, 4, 5, 0] rfl ?_
  exact L3 (k_.1 + 1) 0 I (by omega) (Nat.zero_le _) (fun k _ => rfl) (fun f hf => (hv f hf).1)

set_option maxHeartbeats 1000000 in
set_option maxRecDepth 100000 in
theorem c38_X6_weighFacts (hn : 117 ≤ n) (I : MI) (J : MJ) (k_ : Prf) (hK : CPrf I 8 k_.1 k_.2.1 k_.2.2.1 k_.2.2.2.1 k_.2.2.2.2.1 k_.2.2.2.2.2) (Φ : Nat → FS) (hM : FcM I 38 Φ) (B : Nat) (hB : B < 2 ^ 16) : Cv l n ad cA D z 2 yX6_weighFacts cX6_weighFacts 5 I J [.ref (ad 52), .ref (ad 33), .ref (ad 38), .int (nI B)] (fun I' J' => J' = J ∧ (∀ k, k ≠ 53 → I' k = I k) ∧ ∀ f, f < 12 → I' 53 f = nI (shF_ B k_.1 k_.2.1 k_.2.2.1 k_.2.2.2.1 Φ f)) := by
  refine Cv.of (by decide) (Nat.le_of_ble_eq_true rfl) ?_
  intro p e s m args below meth c A C hin Z Q hret
  refine r_iconst C (dk oX6_weighFacts 0 rfl) (v := nI 0) (by decide) ?_
  refine r_istore (lo' := [(4, _), (0, _), (1, _), (2, _), (3, _)]) C (dk oX6_weighFacts 1 rfl) (by decide) rfl ?_
  have L3 : ∀ (d_ : Nat) (f : Nat) (I1 : MI), 12 - f < d_ → f ≤ 12 → (∀ k, k ≠ 53 → I1 k = I k) → (∀ g, g < f → I1 53 g = nI 1000) → V p l e (rmL 2) s m args below meth c Q D A 5 0 0 n ad (mE cA ad I1 J) 3 [(0, .ref (ad 52)), (1, .ref (ad 33)), (2, .ref (ad 38)), (3, .int (nI B)), (4, .int (nI f))] [] := by
    intro d_
    induction d_ with
    | zero => intros; exact absurd (by assumption) (Nat.not_lt_zero _)
    | succ d_ ih => 
      intro f I1 hd_ hf hF hV
      refine r_iload C 4 (dk oX6_weighFacts 2 rfl) rfl ?_
      refine r_bipush C (dk oX6_weighFacts 3 rfl) (v := nI 12) (by decide) ?_
      refine r_icmp_ge (tgt := 26) C (dk oX6_weighFacts 4 rfl) (by decide) (fun hb7 => ?_) (fun hb7 => ?_)
      · simp (disch := omega) only [nI_leI, nI_ltI, nI_eq, nI_eq0] at hb7
        refine r_aload_n C 0 (dk oX6_weighFacts 12 rfl) rfl ?_
        refine r_aload_n C 1 (dk oX6_weighFacts 13 rfl) rfl ?_
        refine r_aload_n C 2 (dk oX6_weighFacts 14 rfl) rfl ?_
        refine r_iload_n C 3 (dk oX6_weighFacts 15 rfl) rfl ?_
        refine r_iconst C (dk oX6_weighFacts 16 rfl) (v := nI 1) (by decide) ?_
        refine r_ivv C Z (dk oX6_weighFacts 17 rfl) cl_X6_18 ci_X6_cutBy rfl (kn hn rfl) (c38_X6_cutBy hn I1 J k_ (hK.cp (smK.rf (fun k a c => hF k (by omega)))) Φ (fun f hf i hi => by rw [hF _ (by omega)]; exact hM f hf i hi) B 1 hB (by decide) (fun _ => 1000) (fun f hf => ⟨hV f (by omega), Nat.le_refl _⟩)) rfl rfl (Nat.le_of_ble_eq_true rfl) ⟨Nat.le_of_ble_eq_true rfl, Nat.le_of_ble_eq_true rfl⟩ ⟨Nat.zero_le _, Nat.zero_le _⟩ (fun I31 J31 h31 => ?_)
        obtain ⟨e2_, hF31, hV31⟩ := h31
        have e2_ := e2_.symm
        subst e2_
        have hF31 : ∀ k, k ≠ 53 → I31 k = I k := fun k hk => (hF31 k hk).trans (hF k hk)
        refine r_iconst C (dk oX6_weighFacts 18 rfl) (v := nI 0) (by decide) ?_
        refine r_istore (lo' := [(4, _), (0, _), (1, _), (2, _), (3, _)]) C (dk oX6_weighFacts 19 rfl) (by decide) rfl ?_
        have L37 : ∀ (d_ : Nat) (f : Nat) (I2 : MI), 12 - f < d_ → f ≤ 12 → (∀ k, k ≠ 53 → I2 k = I k) → (∀ g, g < f → I2 53 g = nI (1000 - cutN (cutP B k_.2.1 k_.2.2.1 Φ (nI 1) g) k_.2.2.2.1 1000 k_.1)) → (∀ g, f ≤ g → g < 12 → I2 53 g = nI (cutN (cutP B k_.2.1 k_.2.2.1 Φ (nI 1) g) k_.2.2.2.1 1000 k_.1)) → V p l e (rmL 2) s m args below meth c Q D A 5 0 0 n ad (mE cA ad I2 J) 37 [(0, .ref (ad 52)), (1, .ref (ad 33)), (2, .ref (ad 38)), (3, .int (nI B)), (4, .int (nI f))] [] := by
          intro d_
          induction d_ with
          | zero => intros; exact absurd (by assumption) (Nat.not_lt_zero _)
          | succ d_ ih => 
            intro f I2 hd2 hf hF2 h4 h5
            refine r_iload C 4 (dk oX6_weighFacts 20 rfl) rfl ?_
            refine r_bipush C (dk oX6_weighFacts 21 rfl) (v := nI 12) (by decide) ?_
            refine r_icmp_ge (tgt := 68) C (dk oX6_weighFacts 22 rfl) (by decide) (fun hb41 => ?_) (fun hb41 => ?_)
            · simp (disch := omega) only [nI_leI, nI_ltI, nI_eq, nI_eq0] at hb41
              refine r_aload_n C 0 (dk oX6_weighFacts 35 rfl) rfl ?_
              refine r_aload_n C 1 (dk oX6_weighFacts 36 rfl) rfl ?_
              refine r_aload_n C 2 (dk oX6_weighFacts 37 rfl) rfl ?_
              refine r_iload_n C 3 (dk oX6_weighFacts 38 rfl) rfl ?_
              refine r_iconst C (dk oX6_weighFacts 39 rfl) (v := nI 0) (by decide) ?_
              refine r_ivv C Z (dk oX6_weighFacts 40 rfl) cl_X6_18 ci_X6_cutBy rfl (kn hn rfl) (c38_X6_cutBy hn I2 J k_ (hK.cp (smK.rf (fun k a c => hF2 k (by omega)))) Φ (fun f hf i hi => by rw [hF2 _ (by omega)]; exact hM f hf i hi) B 0 hB (by decide) (fun f => 1000 - cutN (cutP B k_.2.1 k_.2.2.1 Φ (nI 1) f) k_.2.2.2.1 1000 k_.1) (fun f hf => ⟨h4 f (by omega), Nat.sub_le _ _⟩)) rfl rfl (Nat.le_of_ble_eq_true rfl) ⟨Nat.le_of_ble_eq_true rfl, Nat.le_of_ble_eq_true rfl⟩ ⟨Nat.zero_le _, Nat.zero_le _⟩ (fun I73 J73 h73 => ?_)
              obtain ⟨e2_, hF73, hV73⟩ := h73
              have e2_ := e2_.symm
              subst e2_
              refine hret (dk oX6_weighFacts 41 rfl) ?_
              exact ⟨rfl, fun k hk => (hF73 k hk).trans (hF2 k hk), hV73⟩
            · simp (disch := omega) only [nI_leI, nI_ltI, nI_eq, nI_eq0] at hb41
              refine r_aload_n C 0 (dk oX6_weighFacts 23 rfl) rfl ?_
              refine r_getR C (dk oX6_weighFacts 24 rfl) fl_X6_9 rfl (kn hn rfl) ?_
              refine r_iload C 4 (dk oX6_weighFacts 25 rfl) rfl ?_
              refine r_sipush C (dk oX6_weighFacts 26 rfl) (v := nI 1000) (by decide) ?_
              refine r_aload_n C 0 (dk oX6_weighFacts 27 rfl) rfl ?_
              refine r_getR C (dk oX6_weighFacts 28 rfl) fl_X6_9 rfl (kn hn rfl) ?_
              refine r_iload C 4 (dk oX6_weighFacts 29 rfl) rfl ?_
              refine r_iald C _ (dk oX6_weighFacts 30 rfl) rfl (kn hn rfl) rfl (by omega) (by decide) ?_
              rw [h5 f (Nat.le_refl _) (by omega)]
              have hcl := @cutN_le (cutP B k_.2.1 k_.2.2.1 Φ (nI 1) f) k_.2.2.2.1 1000 k_.1
              refine r_isub C (dk oX6_weighFacts 31 rfl) ?_
              rw [pk_sub hcl]
              refine r_iast C _ (dk oX6_weighFacts 32 rfl) rfl (kn hn rfl) rfl (by omega) (by decide) ?_
              refine r_iinc (lo' := [(4, _), (0, _), (1, _), (2, _), (3, _)]) C 4 (dk oX6_weighFacts 33 rfl) rfl (by first | exact nI_inc _ | rfl) (by decide) rfl ?_
              refine r_goto (tgt := 37) C (dk oX6_weighFacts 34 rfl) (by decide) ?_
              refine V.sub [1, 2, 3, 4, 0] rfl ?_
              refine ih (f + 1) _ (by omega) (by omega) (fun k hk => by rw [up2_ne hk]; exact hF2 k hk) (fun g hg => ?_) (fun g hg hg2 => by rw [up2_off (by omega)]; exact h5 g (by omega) hg2)
              by_cases e : g = f
              · rw [e, up2_at]
              · rw [up2_off e]; exact h4 g (by omega)
        refine V.sub [1, 2, 3, 4, 0] rfl ?_
        exact L37 13 0 I31 (by omega) (Nat.zero_le _) hF31 (fun g hg => absurd hg (Nat.not_lt_zero _)) (fun g _ hg => hV31 g hg)
      · simp (disch := omega) only [nI_leI, nI_ltI, nI_eq, nI_eq0] at hb7
        refine r_aload_n C 0 (dk oX6_weighFacts 5 rfl) rfl ?_
        refine r_getR C (dk oX6_weighFacts 6 rfl) fl_X6_9 rfl (kn hn rfl) ?_
        refine r_iload C 4 (dk oX6_weighFacts 7 rfl) rfl ?_
        refine r_sipush C (dk oX6_weighFacts 8 rfl) (v := nI 1000) (by decide) ?_
        refine r_iast C _ (dk oX6_weighFacts 9 rfl) rfl (kn hn rfl) rfl (by omega) (by decide) ?_
        refine r_iinc (lo' := [(4, _), (0, _), (1, _), (2, _), (3, _)]) C 4 (dk oX6_weighFacts 10 rfl) rfl (by first | exact nI_inc _ | rfl) (by decide) rfl ?_
        refine r_goto (tgt := 3) C (dk oX6_weighFacts 11 rfl) (by decide) ?_
        refine V.sub [1, 2, 3, 4, 0] rfl ?_
        refine ih (f + 1) _ (by omega) (by omega) (fun k hk => by rw [up2_ne hk]; exact hF k hk) (fun g hg => ?_)
        by_cases e : g = f
        · rw [e, up2_at]
        · rw [up2_off e]; exact hV g (by omega)
  refine V.sub [1, 2, 3, 4, 0] rfl ?_
  exact L3 13 0 I (by omega) (Nat.zero_le _) (fun k _ => rfl) (fun g hg => absurd hg (Nat.not_lt_zero _))

def SP38 (l : Launch) (n : Nat) (ad : Nat → Nat) (cA : Nat → ClassId) (D : va_G) (z : Zw) (op A_ N_ : Nat) (sh : Nat → Nat) (nc : Nat) (co : Nat → Int32) (cd : Nat → List Nat) (m_ : Nat) : Prop := ∀ (I : MI) (J : MJ) (hc : CClm I J 8 nc co cd) (h6 : I 38 6 = nI op) (h7 : I 38 7 = nI N_) (h8 : I 38 8 = nI A_) (hS : ∀ f, f < 12 → I 53 f = nI (sh f)) (v : Nat → Nat) (hv : ∀ c, c < nc → I 54 c = nI (v c)) (shown w : Nat) (hshown : shown < 4096) (hw : w ≤ 1000000), Cv l n ad cA D z (2 + m_) yX6_spread cX6_spread 9 I J [.ref (ad 52), .ref (ad 9), .ref (ad 38), .int (nI (12 - m_)), .int (nI shown), .int (nI w)] (fun I' J' => J' = J ∧ (∀ k, k ≠ 54 → I' k = I k) ∧ ∀ c, c < nc → I' 54 c = nI (v c + spN op sh (fun x => evC (cd c) (A_ ||| (x ^^^ N_))) m_ shown w))
set_option maxHeartbeats 1000000 in
set_option maxRecDepth 100000 in
theorem c38_X6_spread_at (hn : 117 ≤ n) (op A_ N_ : Nat) (hop : op < 4096) (hA : A_ < 4096) (hN : N_ < 4096) (sh : Nat → Nat) (hsh : ∀ f, sh f ≤ 1000) (nc : Nat) (co : Nat → Int32) (cd : Nat → List Nat) (m_ : Nat) (hm : m_ ≤ 12) (hR : ∀ m, m < m_ → SP38 l n ad cA D z op A_ N_ sh nc co cd m) (I : MI) (J : MJ) (hc : CClm I J 8 nc co cd) (h6 : I 38 6 = nI op) (h7 : I 38 7 = nI N_) (h8 : I 38 8 = nI A_) (hS : ∀ f, f < 12 → I 53 f = nI (sh f)) (v : Nat → Nat) (hv : ∀ c, c < nc → I 54 c = nI (v c)) (shown w : Nat) (hshown : shown < 4096) (hw : w ≤ 1000000) : Cv l n ad cA D z (2 + m_) yX6_spread cX6_spread 9 I J [.ref (ad 52), .ref (ad 9), .ref (ad 38), .int (nI (12 - m_)), .int (nI shown), .int (nI w)] (fun I' J' => J' = J ∧ (∀ k, k ≠ 54 → I' k = I k) ∧ ∀ c, c < nc → I' 54 c = nI (v c + spN op sh (fun x => evC (cd c) (A_ ||| (x ^^^ N_))) m_ shown w)) := by
  refine Cv.of (by decide) (Nat.le_of_ble_eq_true rfl) ?_
  intro p e s m args below meth c A C hin Z Q hret
  have hnc := hc.1
  refine r_iload_n C 3 (dk oX6_spread 0 rfl) rfl ?_
  refine r_istore (lo' := [(6, _), (0, _), (1, _), (2, _), (3, _), (4, _), (5, _)]) C (dk oX6_spread 1 rfl) (by decide) rfl ?_
  have L3 : ∀ (d_ : Nat) (f : Nat), 12 - f < d_ → f ≤ 12 → 12 - m_ ≤ f → (∀ c, spN op sh (fun x => evC (cd c) (A_ ||| (x ^^^ N_))) m_ shown w = spN op sh (fun x => evC (cd c) (A_ ||| (x ^^^ N_))) (12 - f) shown w) → V p l e (rmL (2 + m_)) s m args below meth c Q D A 9 0 0 n ad (mE cA ad I J) 3 [(0, .ref (ad 52)), (1, .ref (ad 9)), (2, .ref (ad 38)), (4, .int (nI shown)), (5, .int (nI w)), (6, .int (nI f))] [] := by
    intro d_
    induction d_ with
    | zero => intros; exact absurd (by assumption) (Nat.not_lt_zero _)
    | succ d_ ih => 
      intro f hd_ hf12 hfm hE
      refine r_iload C 5 (dk oX6_spread 2 rfl) rfl ?_
      refine r_bipush C (dk oX6_spread 3 rfl) (v := nI 12) (by decide) ?_
      refine r_icmp_ge (tgt := 28) C (dk oX6_spread 4 rfl) (by decide) (fun hb7 => ?_) (fun hb7 => ?_)
      · simp (disch := omega) only [nI_leI, nI_ltI, nI_eq, nI_eq0] at hb7
        refine r_iload C 5 (dk oX6_spread 12 rfl) rfl ?_
        refine r_bipush C (dk oX6_spread 13 rfl) (v := nI 12) (by decide) ?_
        refine r_icmp_lt (tgt := 96) C (dk oX6_spread 14 rfl) (by decide) (fun hb32 => ?_) (fun hb32 => ?_)
        · first
            | (exfalso; simp (disch := omega) only [nI_leI, nI_ltI, nI_eq, nI_eq0] at hb32; omega)
            | simp (disch := omega) only [nI_leI, nI_ltI, nI_eq, nI_eq0] at hb32
              have hf : f < 12 := by omega
              refine r_iload C 4 (dk oX6_spread 46 rfl) rfl ?_
              refine r_aload_n C 0 (dk oX6_spread 47 rfl) rfl ?_
              refine r_getR C (dk oX6_spread 48 rfl) fl_X6_9 rfl (kn hn rfl) ?_
              refine r_iload C 5 (dk oX6_spread 49 rfl) rfl ?_
              refine r_iald C _ (dk oX6_spread 50 rfl) rfl (kn hn rfl) rfl (by omega) (by decide) ?_
              rw [hS _ (by omega)]
              have hs1 := hsh f
              refine r_imul C (dk oX6_spread 51 rfl) ?_
              rw [pk_mul]
              have hm1 : w * sh f ≤ 1000000 * 1000 := Nat.mul_le_mul hw hs1
              refine r_sipush C (dk oX6_spread 52 rfl) (v := nI 1000) (by decide) ?_
              refine r_idiv C (dk oX6_spread 53 rfl) (by decide) ?_
              rw [pk_div (by omega) (by decide) (by decide)]
              refine r_istore (lo' := [(7, _), (0, _), (1, _), (2, _), (4, _), (5, _), (6, _)]) C (dk oX6_spread 54 rfl) (by decide) rfl ?_
              refine r_iload C 5 (dk oX6_spread 55 rfl) rfl ?_
              refine r_sipush C (dk oX6_spread 56 rfl) (v := nI 1000) (by decide) ?_
              refine r_aload_n C 1 (dk oX6_spread 57 rfl) rfl ?_
              refine r_getR C (dk oX6_spread 58 rfl) fl_X6_9 rfl (kn hn rfl) ?_
              refine r_iload C 6 (dk oX6_spread 59 rfl) rfl ?_
              refine r_iald C _ (dk oX6_spread 60 rfl) rfl (kn hn rfl) rfl (by omega) (by decide) ?_
              rw [hS _ (by omega)]
              refine r_isub C (dk oX6_spread 61 rfl) ?_
              rw [pk_sub hs1]
              refine r_imul C (dk oX6_spread 62 rfl) ?_
              rw [pk_mul]
              have hm2 : w * (1000 - sh f) ≤ 1000000 * 1000 := Nat.mul_le_mul hw (by omega)
              refine r_sipush C (dk oX6_spread 63 rfl) (v := nI 1000) (by decide) ?_
              refine r_idiv C (dk oX6_spread 64 rfl) (by decide) ?_
              rw [pk_div (by omega) (by decide) (by decide)]
              have hop2 : op.testBit (12 - ((11 - f) + 1)) = true := by rw [show 12 - ((11 - f) + 1) = f by omega]; exact hb19
              have hsp : ∀ c, spN op sh (fun x => evC (cd c) (A_ ||| (x ^^^ N_))) (12 - f) shown w = spN op sh (fun x => evC (cd c) (A_ ||| (x ^^^ N_))) (11 - f) (shown ||| 2 ^ f) (w * sh f / 1000) + spN op sh (fun x => evC (cd c) (A_ ||| (x ^^^ N_))) (11 - f) shown (w * (1000 - sh f) / 1000) := fun c => by
                rw [show 12 - f = (11 - f) + 1 by omega]
                conv => lhs; unfold spN
                rw [if_pos hop2, show 12 - ((11 - f) + 1) = f by omega]
              have hl1 : shown ||| 2 ^ f < 4096 := Nat.or_lt_two_pow (n := 12) hshown (Nat.pow_lt_pow_right (by decide) (by omega))
              refine r_istore (lo' := [(8, _), (7, _), (0, _), (1, _), (2, _), (4, _), (5, _), (6, _)]) C (dk oX6_spread 65 rfl) (by decide) rfl ?_
              refine r_iload C 1 (dk oX6_spread 66 rfl) rfl ?_
              refine r_if_le (tgt := 156) C (dk oX6_spread 67 rfl) (by decide) (fun hb134 => ?_) (fun hb134 => ?_)
              · rw [show (0 : Int32) = nI 0 from rfl] at hb134
                simp (disch := omega) only [nI_leI, nI_ltI, nI_eq, nI_eq0] at hb134
                obtain ⟨I5, hI5⟩ : ∃ X, X = I := ⟨I, rfl⟩
                have hF5 : ∀ k, k ≠ 54 → I5 k = I k := fun k _ => by rw [hI5]
                have hV5 : ∀ c, c < nc → I5 54 c = nI (v c + spN op sh (fun x => evC (cd c) (A_ ||| (x ^^^ N_))) (11 - f) (shown ||| 2 ^ f) (w * sh f / 1000)) := fun c hc2 => by rw [hI5, show w * sh f / 1000 = 0 by omega, spN_0, Nat.add_zero]; exact hv c hc2
                rw [← hI5]
                refine r_iload C 0 (dk oX6_spread 81 rfl) rfl ?_
                refine r_if_le (tgt := 175) C (dk oX6_spread 82 rfl) (by decide) (fun hb158 => ?_) (fun hb158 => ?_)
                · rw [show (0 : Int32) = nI 0 from rfl] at hb158
                  simp (disch := omega) only [nI_leI, nI_ltI, nI_eq, nI_eq0] at hb158
                  refine hret (dk oX6_spread 92 rfl) ?_
                  first
                    | (refine ⟨rfl, hF5, fun c hc2 => ?_⟩
                       rw [hE c, hsp c, show w * (1000 - sh f) / 1000 = 0 by omega, spN_0, Nat.add_zero]
                       exact hV5 c hc2)
                    | (refine ⟨rfl, fun k hk => (hF6 k hk).trans (hF5 k hk), fun c hc2 => ?_⟩
                       rw [hE c, hsp c, hV6 c hc2]
                       congr 1
                       omega)
                · rw [show (0 : Int32) = nI 0 from rfl] at hb158
                  simp (disch := omega) only [nI_leI, nI_ltI, nI_eq, nI_eq0] at hb158
                  refine r_aload_n C 2 (dk oX6_spread 83 rfl) rfl ?_
                  refine r_aload_n C 3 (dk oX6_spread 84 rfl) rfl ?_
                  refine r_aload_n C 4 (dk oX6_spread 85 rfl) rfl ?_
                  refine r_iload C 7 (dk oX6_spread 86 rfl) rfl ?_
                  refine r_iconst C (dk oX6_spread 87 rfl) (v := nI 1) (by decide) ?_
                  refine r_iadd C (dk oX6_spread 88 rfl) ?_
                  rw [nI_add, show f + 1 = 12 - (11 - f) by omega]
                  refine r_iload C 5 (dk oX6_spread 89 rfl) rfl ?_
                  refine r_iload C 0 (dk oX6_spread 90 rfl) rfl ?_
                  refine r_isv C Z (dk oX6_spread 91 rfl) cl_X6_66 st_X6_spread (hR (11 - f) (by omega) I5 J (hc.cp (smC.rf (fun k a c => hF5 k (by omega)) (fun k _ _ => rfl))) (by rw [hF5 _ (by decide)]; exact h6) (by rw [hF5 _ (by decide)]; exact h7) (by rw [hF5 _ (by decide)]; exact h8) (fun f hf => by rw [hF5 _ (by decide)]; exact hS f hf) _ hV5 shown (w * (1000 - sh f) / 1000) hshown (by omega)) rfl rfl (Nat.le_of_ble_eq_true rfl) (rmR2 (by omega) (by decide)) ⟨Nat.zero_le _, Nat.zero_le _⟩ (fun I172 J172 h172 => ?_)
                  obtain ⟨e2_, hF6, hV6⟩ := h172
                  have e2_ := e2_.symm
                  subst e2_
                  refine hret (dk oX6_spread 92 rfl) ?_
                  first
                    | (refine ⟨rfl, hF5, fun c hc2 => ?_⟩
                       rw [hE c, hsp c, show w * (1000 - sh f) / 1000 = 0 by omega, spN_0, Nat.add_zero]
                       exact hV5 c hc2)
                    | (refine ⟨rfl, fun k hk => (hF6 k hk).trans (hF5 k hk), fun c hc2 => ?_⟩
                       rw [hE c, hsp c, hV6 c hc2]
                       congr 1
                       omega)
              · rw [show (0 : Int32) = nI 0 from rfl] at hb134
                simp (disch := omega) only [nI_leI, nI_ltI, nI_eq, nI_eq0] at hb134
                refine r_aload_n C 2 (dk oX6_spread 68 rfl) rfl ?_
                refine r_aload_n C 3 (dk oX6_spread 69 rfl) rfl ?_
                refine r_aload_n C 4 (dk oX6_spread 70 rfl) rfl ?_
                refine r_iload C 7 (dk oX6_spread 71 rfl) rfl ?_
                refine r_iconst C (dk oX6_spread 72 rfl) (v := nI 1) (by decide) ?_
                refine r_iadd C (dk oX6_spread 73 rfl) ?_
                rw [nI_add]
                refine r_iload C 5 (dk oX6_spread 74 rfl) rfl ?_
                refine r_iconst C (dk oX6_spread 75 rfl) (v := nI 1) (by decide) ?_
                refine r_iload C 7 (dk oX6_spread 76 rfl) rfl ?_
                refine r_ishl C (dk oX6_spread 77 rfl) ?_
                refine r_ior C (dk oX6_spread 78 rfl) ?_
                rw [or_bit (by omega), show f + 1 = 12 - (11 - f) by omega]
                refine r_iload C 1 (dk oX6_spread 79 rfl) rfl ?_
                refine r_isv C Z (dk oX6_spread 80 rfl) cl_X6_66 st_X6_spread (hR (11 - f) (by omega) I J hc h6 h7 h8 hS v hv (shown ||| 2 ^ f) (w * sh f / 1000) hl1 (by omega)) rfl rfl (Nat.le_of_ble_eq_true rfl) (rmR2 (by omega) (by decide)) ⟨Nat.zero_le _, Nat.zero_le _⟩ (fun I153 J153 h153 => ?_)
                obtain ⟨e2_, hF5, hV5⟩ := h153
                have e2_ := e2_.symm
                subst e2_
                generalize I153 = I5 at hF5 hV5
                refine r_iload C 0 (dk oX6_spread 81 rfl) rfl ?_
                refine r_if_le (tgt := 175) C (dk oX6_spread 82 rfl) (by decide) (fun hb158 => ?_) (fun hb158 => ?_)
                · rw [show (0 : Int32) = nI 0 from rfl] at hb158
                  simp (disch := omega) only [nI_leI, nI_ltI, nI_eq, nI_eq0] at hb158
                  refine hret (dk oX6_spread 92 rfl) ?_
                  first
                    | (refine ⟨rfl, hF5, fun c hc2 => ?_⟩
                       rw [hE c, hsp c, show w * (1000 - sh f) / 1000 = 0 by omega, spN_0, Nat.add_zero]
                       exact hV5 c hc2)
                    | (refine ⟨rfl, fun k hk => (hF6 k hk).trans (hF5 k hk), fun c hc2 => ?_⟩
                       rw [hE c, hsp c, hV6 c hc2]
                       congr 1
                       omega)
                · rw [show (0 : Int32) = nI 0 from rfl] at hb158
                  simp (disch := omega) only [nI_leI, nI_ltI, nI_eq, nI_eq0] at hb158
                  refine r_aload_n C 2 (dk oX6_spread 83 rfl) rfl ?_
                  refine r_aload_n C 3 (dk oX6_spread 84 rfl) rfl ?_
                  refine r_aload_n C 4 (dk oX6_spread 85 rfl) rfl ?_
                  refine r_iload C 7 (dk oX6_spread 86 rfl) rfl ?_
                  refine r_iconst C (dk oX6_spread 87 rfl) (v := nI 1) (by decide) ?_
                  refine r_iadd C (dk oX6_spread 88 rfl) ?_
                  rw [nI_add, show f + 1 = 12 - (11 - f) by omega]
                  refine r_iload C 5 (dk oX6_spread 89 rfl) rfl ?_
                  refine r_iload C 0 (dk oX6_spread 90 rfl) rfl ?_
                  refine r_isv C Z (dk oX6_spread 91 rfl) cl_X6_66 st_X6_spread (hR (11 - f) (by omega) I5 J (hc.cp (smC.rf (fun k a c => hF5 k (by omega)) (fun k _ _ => rfl))) (by rw [hF5 _ (by decide)]; exact h6) (by rw [hF5 _ (by decide)]; exact h7) (by rw [hF5 _ (by decide)]; exact h8) (fun f hf => by rw [hF5 _ (by decide)]; exact hS f hf) _ hV5 shown (w * (1000 - sh f) / 1000) hshown (by omega)) rfl rfl (Nat.le_of_ble_eq_true rfl) (rmR2 (by omega) (by decide)) ⟨Nat.zero_le _, Nat.zero_le _⟩ (fun I172 J172 h172 => ?_)
                  obtain ⟨e2_, hF6, hV6⟩ := h172
                  have e2_ := e2_.symm
                  subst e2_
                  refine hret (dk oX6_spread 92 rfl) ?_
                  first
                    | (refine ⟨rfl, hF5, fun c hc2 => ?_⟩
                       rw [hE c, hsp c, show w * (1000 - sh f) / 1000 = 0 by omega, spN_0, Nat.add_zero]
                       exact hV5 c hc2)
                    | (refine ⟨rfl, fun k hk => (hF6 k hk).trans (hF5 k hk), fun c hc2 => ?_⟩
                       rw [hE c, hsp c, hV6 c hc2]
                       congr 1
                       omega)
        · first
            | (exfalso; simp (disch := omega) only [nI_leI, nI_ltI, nI_eq, nI_eq0] at hb32; omega)
            | simp (disch := omega) only [nI_leI, nI_ltI, nI_eq, nI_eq0] at hb32
              refine r_aload_n C 2 (dk oX6_spread 15 rfl) rfl ?_
              refine r_iload C 3 (dk oX6_spread 16 rfl) rfl ?_
              refine r_ivi C Z (dk oX6_spread 17 rfl) cl_X6_79 ci_X2_soBy rfl (kn hn rfl) (c38_X2_soBy hn I J shown A_ N_ h8 h7) rfl rfl (Nat.le_of_ble_eq_true rfl) (rmR2 (by omega) (by decide)) ⟨Nat.zero_le _, Nat.zero_le _⟩ (fun r38 I38 J38 h38 => ?_)
              obtain ⟨h38, e1_, e2_⟩ := h38
              have e1_ := e1_.symm
              have e2_ := e2_.symm
              subst e1_
              subst e2_
              subst h38
              have hso : A_ ||| (shown ^^^ N_) < 4096 := or_lt12 hA (xor_lt12 hshown hN)
              refine r_istore (lo' := [(7, _), (0, _), (1, _), (2, _), (4, _), (5, _), (6, _)]) C (dk oX6_spread 18 rfl) (by decide) rfl ?_
              refine r_iconst C (dk oX6_spread 19 rfl) (v := nI 0) (by decide) ?_
              refine r_istore (lo' := [(8, _), (7, _), (0, _), (1, _), (2, _), (4, _), (5, _), (6, _)]) C (dk oX6_spread 20 rfl) (by decide) rfl ?_
              have L46 : ∀ (d_ : Nat) (c_ : Nat) (I3 : MI), nc - c_ < d_ → c_ ≤ nc → (∀ k, k ≠ 54 → I3 k = I k) → (∀ c, c < c_ → I3 54 c = nI (v c + (if evC (cd c) (A_ ||| (shown ^^^ N_)) = true then w else 0))) → (∀ c, c_ ≤ c → c < nc → I3 54 c = nI (v c)) → V p l e (rmL (2 + m_)) s m args below meth c Q D A 9 0 0 n ad (mE cA ad I3 J) 46 [(0, .ref (ad 52)), (1, .ref (ad 9)), (2, .ref (ad 38)), (4, .int (nI shown)), (5, .int (nI w)), (7, .int (nI (A_ ||| (shown ^^^ N_)))), (8, .int (nI c_))] [] := by
                intro d_
                induction d_ with
                | zero => intros; exact absurd (by assumption) (Nat.not_lt_zero _)
                | succ d_ ih => 
                  intro c_ I3 hd3 hcn hF hV hV2
                  refine r_iload C 6 (dk oX6_spread 21 rfl) rfl ?_
                  refine r_aload_n C 1 (dk oX6_spread 22 rfl) rfl ?_
                  refine r_getI C (dk oX6_spread 23 rfl) fl_X6_70 rfl (kn hn rfl) ?_
                  rw [hF 9 (by decide), hc.2.1]
                  refine r_icmp_ge (tgt := 95) C (dk oX6_spread 24 rfl) (by decide) (fun hb52 => ?_) (fun hb52 => ?_)
                  · simp (disch := omega) only [nI_leI, nI_ltI, nI_eq, nI_eq0] at hb52
                    refine hret (dk oX6_spread 45 rfl) ?_
                    refine ⟨rfl, hF, fun c hc2 => ?_⟩
                    rw [hV c (by omega), hE c, show 12 - f = 0 by omega]
                    rfl
                  · simp (disch := omega) only [nI_leI, nI_ltI, nI_eq, nI_eq0] at hb52
                    refine r_iload C 6 (dk oX6_spread 25 rfl) rfl ?_
                    refine r_bipush C (dk oX6_spread 26 rfl) (v := nI 6) (by decide) ?_
                    refine r_icmp_ge (tgt := 95) C (dk oX6_spread 27 rfl) (by decide) (fun hb59 => absurd hb59 (by have := hc.1; rw [nI_leI (by omega) (by omega)]; omega)) (fun hb59 => ?_)
                    refine r_aload_n C 0 (dk oX6_spread 28 rfl) rfl ?_
                    refine r_getR C (dk oX6_spread 29 rfl) fl_X6_15 rfl (kn hn rfl) ?_
                    refine r_iload C 6 (dk oX6_spread 30 rfl) rfl ?_
                    refine r_dup2 C (dk oX6_spread 31 rfl) rfl rfl ?_
                    refine r_iald C _ (dk oX6_spread 32 rfl) rfl (kn hn rfl) rfl (by have := hc.1; omega) (by decide) ?_
                    rw [hV2 c_ (Nat.le_refl _) (by omega)]
                    refine r_aload_n C 1 (dk oX6_spread 33 rfl) rfl ?_
                    refine r_iload C 6 (dk oX6_spread 34 rfl) rfl ?_
                    refine r_iload C 5 (dk oX6_spread 35 rfl) rfl ?_
                    refine r_ivi C Z (dk oX6_spread 36 rfl) cl_X6_83 ci_X1_isOwed rfl (kn hn rfl) (c_X1_isOwed hn I3 J c_ (A_ ||| (shown ^^^ N_)) (cd c_) (by have := hc.1; omega) hso (hc.2.2 c_ (by omega)).2.2.2) rfl rfl (Nat.le_of_ble_eq_true rfl) (rmR2 (by omega) (by decide)) ⟨Nat.zero_le _, Nat.zero_le _⟩ (fun r75 I75 J75 h75 => ?_)
                    obtain ⟨h75, e1_, e2_⟩ := h75
                    have e1_ := e1_.symm
                    have e2_ := e2_.symm
                    subst e1_
                    subst e2_
                    subst h75
                    refine r_if_eq (tgt := 86) C (dk oX6_spread 37 rfl) (by decide) (fun hb78 => ?_) (fun hb78 => ?_)
                    · rw [b32_0] at hb78
                      refine r_iconst C (dk oX6_spread 40 rfl) (v := nI 0) (by decide) ?_
                      refine r_topI (show nI 0 = nI (if evC (cd c_) (A_ ||| (shown ^^^ N_)) = true then w else 0) from by rw [if_neg (by rw [hb78]; decide)]) ?_
                      refine r_iadd C (dk oX6_spread 41 rfl) ?_
                      rw [nI_add]
                      refine r_iast C _ (dk oX6_spread 42 rfl) rfl (kn hn rfl) rfl (by have := hc.1; omega) (by decide) ?_
                      refine r_iinc (lo' := [(8, _), (0, _), (1, _), (2, _), (4, _), (5, _), (7, _)]) C 6 (dk oX6_spread 43 rfl) rfl (by first | exact nI_inc _ | rfl) (by decide) rfl ?_
                      refine r_goto (tgt := 46) C (dk oX6_spread 44 rfl) (by decide) ?_
                      refine V.sub [1, 2, 3, 4, 5, 6, 0] rfl ?_
                      refine ih (c_ + 1) _ (by omega) (by omega) (fun k hk => by rw [up2_ne hk]; exact hF k hk) (fun c hc2 => ?_) (fun c hc2 hc3 => by rw [up2_off (by omega)]; exact hV2 c (by omega) hc3)
                      by_cases e : c = c_
                      · rw [e, up2_at]
                      · rw [up2_off e]; exact hV c (by omega)
                    · rw [b32_n] at hb78
                      refine r_iload C 4 (dk oX6_spread 38 rfl) rfl ?_
                      refine r_topI (show nI w = nI (if evC (cd c_) (A_ ||| (shown ^^^ N_)) = true then w else 0) from by rw [if_pos hb78]) ?_
                      refine r_goto (tgt := 87) C (dk oX6_spread 39 rfl) (by decide) ?_
                      refine r_iadd C (dk oX6_spread 41 rfl) ?_
                      rw [nI_add]
                      refine r_iast C _ (dk oX6_spread 42 rfl) rfl (kn hn rfl) rfl (by have := hc.1; omega) (by decide) ?_
                      refine r_iinc (lo' := [(8, _), (0, _), (1, _), (2, _), (4, _), (5, _), (7, _)]) C 6 (dk oX6_spread 43 rfl) rfl (by first | exact nI_inc _ | rfl) (by decide) rfl ?_
                      refine r_goto (tgt := 46) C (dk oX6_spread 44 rfl) (by decide) ?_
                      refine V.sub [1, 2, 3, 4, 5, 6, 0] rfl ?_
                      refine ih (c_ + 1) _ (by omega) (by omega) (fun k hk => by rw [up2_ne hk]; exact hF k hk) (fun c hc2 => ?_) (fun c hc2 hc3 => by rw [up2_off (by omega)]; exact hV2 c (by omega) hc3)
                      by_cases e : c = c_
                      · rw [e, up2_at]
                      · rw [up2_off e]; exact hV c (by omega)
              refine V.sub [2, 3, 4, 5, 6, 1, 0] rfl ?_
              exact L46 (nc + 1) 0 I (by omega) (Nat.zero_le _) (fun k _ => rfl) (fun c hc2 => absurd hc2 (Nat.not_lt_zero _)) (fun c _ hc2 => hv c hc2)
      · simp (disch := omega) only [nI_leI, nI_ltI, nI_eq, nI_eq0] at hb7
        refine r_aload_n C 2 (dk oX6_spread 5 rfl) rfl ?_
        refine r_getI C (dk oX6_spread 6 rfl) fl_X6_76 rfl (kn hn rfl) ?_
        rw [h6]
        refine r_iload C 5 (dk oX6_spread 7 rfl) rfl ?_
        refine r_isi C Z (dk oX6_spread 8 rfl) cl_X6_31 st_X9_has (c_X9_has I J op f (by omega) (by omega)) rfl rfl (Nat.le_of_ble_eq_true rfl) (rmR2 (by omega) (by decide)) ⟨Nat.zero_le _, Nat.zero_le _⟩ (fun r16 I16 J16 h16 => ?_)
        obtain ⟨h16, e1_, e2_⟩ := h16
        have e1_ := e1_.symm
        have e2_ := e2_.symm
        subst e1_
        subst e2_
        subst h16
        refine r_if_ne (tgt := 28) C (dk oX6_spread 9 rfl) (by decide) (fun hb19 => ?_) (fun hb19 => ?_)
        · rw [b32_n] at hb19
          refine r_iload C 5 (dk oX6_spread 12 rfl) rfl ?_
          refine r_bipush C (dk oX6_spread 13 rfl) (v := nI 12) (by decide) ?_
          refine r_icmp_lt (tgt := 96) C (dk oX6_spread 14 rfl) (by decide) (fun hb32 => ?_) (fun hb32 => ?_)
          · first
              | (exfalso; simp (disch := omega) only [nI_leI, nI_ltI, nI_eq, nI_eq0] at hb32; omega)
              | simp (disch := omega) only [nI_leI, nI_ltI, nI_eq, nI_eq0] at hb32
                have hf : f < 12 := by omega
                refine r_iload C 4 (dk oX6_spread 46 rfl) rfl ?_
                refine r_aload_n C 0 (dk oX6_spread 47 rfl) rfl ?_
                refine r_getR C (dk oX6_spread 48 rfl) fl_X6_9 rfl (kn hn rfl) ?_
                refine r_iload C 5 (dk oX6_spread 49 rfl) rfl ?_
                refine r_iald C _ (dk oX6_spread 50 rfl) rfl (kn hn rfl) rfl (by omega) (by decide) ?_
                rw [hS _ (by omega)]
                have hs1 := hsh f
                refine r_imul C (dk oX6_spread 51 rfl) ?_
                rw [pk_mul]
                have hm1 : w * sh f ≤ 1000000 * 1000 := Nat.mul_le_mul hw hs1
                refine r_sipush C (dk oX6_spread 52 rfl) (v := nI 1000) (by decide) ?_
                refine r_idiv C (dk oX6_spread 53 rfl) (by decide) ?_
                rw [pk_div (by omega) (by decide) (by decide)]
                refine r_istore (lo' := [(7, _), (0, _), (1, _), (2, _), (4, _), (5, _), (6, _)]) C (dk oX6_spread 54 rfl) (by decide) rfl ?_
                refine r_iload C 5 (dk oX6_spread 55 rfl) rfl ?_
                refine r_sipush C (dk oX6_spread 56 rfl) (v := nI 1000) (by decide) ?_
                refine r_aload_n C 1 (dk oX6_spread 57 rfl) rfl ?_
                refine r_getR C (dk oX6_spread 58 rfl) fl_X6_9 rfl (kn hn rfl) ?_
                refine r_iload C 6 (dk oX6_spread 59 rfl) rfl ?_
                refine r_iald C _ (dk oX6_spread 60 rfl) rfl (kn hn rfl) rfl (by omega) (by decide) ?_
                rw [hS _ (by omega)]
                refine r_isub C (dk oX6_spread 61 rfl) ?_
                rw [pk_sub hs1]
                refine r_imul C (dk oX6_spread 62 rfl) ?_
                rw [pk_mul]
                have hm2 : w * (1000 - sh f) ≤ 1000000 * 1000 := Nat.mul_le_mul hw (by omega)
                refine r_sipush C (dk oX6_spread 63 rfl) (v := nI 1000) (by decide) ?_
                refine r_idiv C (dk oX6_spread 64 rfl) (by decide) ?_
                rw [pk_div (by omega) (by decide) (by decide)]
                have hop2 : op.testBit (12 - ((11 - f) + 1)) = true := by rw [show 12 - ((11 - f) + 1) = f by omega]; exact hb19
                have hsp : ∀ c, spN op sh (fun x => evC (cd c) (A_ ||| (x ^^^ N_))) (12 - f) shown w = spN op sh (fun x => evC (cd c) (A_ ||| (x ^^^ N_))) (11 - f) (shown ||| 2 ^ f) (w * sh f / 1000) + spN op sh (fun x => evC (cd c) (A_ ||| (x ^^^ N_))) (11 - f) shown (w * (1000 - sh f) / 1000) := fun c => by
                  rw [show 12 - f = (11 - f) + 1 by omega]
                  conv => lhs; unfold spN
                  rw [if_pos hop2, show 12 - ((11 - f) + 1) = f by omega]
                have hl1 : shown ||| 2 ^ f < 4096 := Nat.or_lt_two_pow (n := 12) hshown (Nat.pow_lt_pow_right (by decide) (by omega))
                refine r_istore (lo' := [(8, _), (7, _), (0, _), (1, _), (2, _), (4, _), (5, _), (6, _)]) C (dk oX6_spread 65 rfl) (by decide) rfl ?_
                refine r_iload C 1 (dk oX6_spread 66 rfl) rfl ?_
                refine r_if_le (tgt := 156) C (dk oX6_spread 67 rfl) (by decide) (fun hb134 => ?_) (fun hb134 => ?_)
                · rw [show (0 : Int32) = nI 0 from rfl] at hb134
                  simp (disch := omega) only [nI_leI, nI_ltI, nI_eq, nI_eq0] at hb134
                  obtain ⟨I5, hI5⟩ : ∃ X, X = I := ⟨I, rfl⟩
                  have hF5 : ∀ k, k ≠ 54 → I5 k = I k := fun k _ => by rw [hI5]
                  have hV5 : ∀ c, c < nc → I5 54 c = nI (v c + spN op sh (fun x => evC (cd c) (A_ ||| (x ^^^ N_))) (11 - f) (shown ||| 2 ^ f) (w * sh f / 1000)) := fun c hc2 => by rw [hI5, show w * sh f / 1000 = 0 by omega, spN_0, Nat.add_zero]; exact hv c hc2
                  rw [← hI5]
                  refine r_iload C 0 (dk oX6_spread 81 rfl) rfl ?_
                  refine r_if_le (tgt := 175) C (dk oX6_spread 82 rfl) (by decide) (fun hb158 => ?_) (fun hb158 => ?_)
                  · rw [show (0 : Int32) = nI 0 from rfl] at hb158
                    simp (disch := omega) only [nI_leI, nI_ltI, nI_eq, nI_eq0] at hb158
                    refine hret (dk oX6_spread 92 rfl) ?_
                    first
                      | (refine ⟨rfl, hF5, fun c hc2 => ?_⟩
                         rw [hE c, hsp c, show w * (1000 - sh f) / 1000 = 0 by omega, spN_0, Nat.add_zero]
                         exact hV5 c hc2)
                      | (refine ⟨rfl, fun k hk => (hF6 k hk).trans (hF5 k hk), fun c hc2 => ?_⟩
                         rw [hE c, hsp c, hV6 c hc2]
                         congr 1
                         omega)
                  · rw [show (0 : Int32) = nI 0 from rfl] at hb158
                    simp (disch := omega) only [nI_leI, nI_ltI, nI_eq, nI_eq0] at hb158
                    refine r_aload_n C 2 (dk oX6_spread 83 rfl) rfl ?_
                    refine r_aload_n C 3 (dk oX6_spread 84 rfl) rfl ?_
                    refine r_aload_n C 4 (dk oX6_spread 85 rfl) rfl ?_
                    refine r_iload C 7 (dk oX6_spread 86 rfl) rfl ?_
                    refine r_iconst C (dk oX6_spread 87 rfl) (v := nI 1) (by decide) ?_
                    refine r_iadd C (dk oX6_spread 88 rfl) ?_
                    rw [nI_add, show f + 1 = 12 - (11 - f) by omega]
                    refine r_iload C 5 (dk oX6_spread 89 rfl) rfl ?_
                    refine r_iload C 0 (dk oX6_spread 90 rfl) rfl ?_
                    refine r_isv C Z (dk oX6_spread 91 rfl) cl_X6_66 st_X6_spread (hR (11 - f) (by omega) I5 J (hc.cp (smC.rf (fun k a c => hF5 k (by omega)) (fun k _ _ => rfl))) (by rw [hF5 _ (by decide)]; exact h6) (by rw [hF5 _ (by decide)]; exact h7) (by rw [hF5 _ (by decide)]; exact h8) (fun f hf => by rw [hF5 _ (by decide)]; exact hS f hf) _ hV5 shown (w * (1000 - sh f) / 1000) hshown (by omega)) rfl rfl (Nat.le_of_ble_eq_true rfl) (rmR2 (by omega) (by decide)) ⟨Nat.zero_le _, Nat.zero_le _⟩ (fun I172 J172 h172 => ?_)
                    obtain ⟨e2_, hF6, hV6⟩ := h172
                    have e2_ := e2_.symm
                    subst e2_
                    refine hret (dk oX6_spread 92 rfl) ?_
                    first
                      | (refine ⟨rfl, hF5, fun c hc2 => ?_⟩
                         rw [hE c, hsp c, show w * (1000 - sh f) / 1000 = 0 by omega, spN_0, Nat.add_zero]
                         exact hV5 c hc2)
                      | (refine ⟨rfl, fun k hk => (hF6 k hk).trans (hF5 k hk), fun c hc2 => ?_⟩
                         rw [hE c, hsp c, hV6 c hc2]
                         congr 1
                         omega)
                · rw [show (0 : Int32) = nI 0 from rfl] at hb134
                  simp (disch := omega) only [nI_leI, nI_ltI, nI_eq, nI_eq0] at hb134
                  refine r_aload_n C 2 (dk oX6_spread 68 rfl) rfl ?_
                  refine r_aload_n C 3 (dk oX6_spread 69 rfl) rfl ?_
                  refine r_aload_n C 4 (dk oX6_spread 70 rfl) rfl ?_
                  refine r_iload C 7 (dk oX6_spread 71 rfl) rfl ?_
                  refine r_iconst C (dk oX6_spread 72 rfl) (v := nI 1) (by decide) ?_
                  refine r_iadd C (dk oX6_spread 73 rfl) ?_
                  rw [nI_add]
                  refine r_iload C 5 (dk oX6_spread 74 rfl) rfl ?_
                  refine r_iconst C (dk oX6_spread 75 rfl) (v := nI 1) (by decide) ?_
                  refine r_iload C 7 (dk oX6_spread 76 rfl) rfl ?_
                  refine r_ishl C (dk oX6_spread 77 rfl) ?_
                  refine r_ior C (dk oX6_spread 78 rfl) ?_
                  rw [or_bit (by omega), show f + 1 = 12 - (11 - f) by omega]
                  refine r_iload C 1 (dk oX6_spread 79 rfl) rfl ?_
                  refine r_isv C Z (dk oX6_spread 80 rfl) cl_X6_66 st_X6_spread (hR (11 - f) (by omega) I J hc h6 h7 h8 hS v hv (shown ||| 2 ^ f) (w * sh f / 1000) hl1 (by omega)) rfl rfl (Nat.le_of_ble_eq_true rfl) (rmR2 (by omega) (by decide)) ⟨Nat.zero_le _, Nat.zero_le _⟩ (fun I153 J153 h153 => ?_)
                  obtain ⟨e2_, hF5, hV5⟩ := h153
                  have e2_ := e2_.symm
                  subst e2_
                  generalize I153 = I5 at hF5 hV5
                  refine r_iload C 0 (dk oX6_spread 81 rfl) rfl ?_
                  refine r_if_le (tgt := 175) C (dk oX6_spread 82 rfl) (by decide) (fun hb158 => ?_) (fun hb158 => ?_)
                  · rw [show (0 : Int32) = nI 0 from rfl] at hb158
                    simp (disch := omega) only [nI_leI, nI_ltI, nI_eq, nI_eq0] at hb158
                    refine hret (dk oX6_spread 92 rfl) ?_
                    first
                      | (refine ⟨rfl, hF5, fun c hc2 => ?_⟩
                         rw [hE c, hsp c, show w * (1000 - sh f) / 1000 = 0 by omega, spN_0, Nat.add_zero]
                         exact hV5 c hc2)
                      | (refine ⟨rfl, fun k hk => (hF6 k hk).trans (hF5 k hk), fun c hc2 => ?_⟩
                         rw [hE c, hsp c, hV6 c hc2]
                         congr 1
                         omega)
                  · rw [show (0 : Int32) = nI 0 from rfl] at hb158
                    simp (disch := omega) only [nI_leI, nI_ltI, nI_eq, nI_eq0] at hb158
                    refine r_aload_n C 2 (dk oX6_spread 83 rfl) rfl ?_
                    refine r_aload_n C 3 (dk oX6_spread 84 rfl) rfl ?_
                    refine r_aload_n C 4 (dk oX6_spread 85 rfl) rfl ?_
                    refine r_iload C 7 (dk oX6_spread 86 rfl) rfl ?_
                    refine r_iconst C (dk oX6_spread 87 rfl) (v := nI 1) (by decide) ?_
                    refine r_iadd C (dk oX6_spread 88 rfl) ?_
                    rw [nI_add, show f + 1 = 12 - (11 - f) by omega]
                    refine r_iload C 5 (dk oX6_spread 89 rfl) rfl ?_
                    refine r_iload C 0 (dk oX6_spread 90 rfl) rfl ?_
                    refine r_isv C Z (dk oX6_spread 91 rfl) cl_X6_66 st_X6_spread (hR (11 - f) (by omega) I5 J (hc.cp (smC.rf (fun k a c => hF5 k (by omega)) (fun k _ _ => rfl))) (by rw [hF5 _ (by decide)]; exact h6) (by rw [hF5 _ (by decide)]; exact h7) (by rw [hF5 _ (by decide)]; exact h8) (fun f hf => by rw [hF5 _ (by decide)]; exact hS f hf) _ hV5 shown (w * (1000 - sh f) / 1000) hshown (by omega)) rfl rfl (Nat.le_of_ble_eq_true rfl) (rmR2 (by omega) (by decide)) ⟨Nat.zero_le _, Nat.zero_le _⟩ (fun I172 J172 h172 => ?_)
                    obtain ⟨e2_, hF6, hV6⟩ := h172
                    have e2_ := e2_.symm
                    subst e2_
                    refine hret (dk oX6_spread 92 rfl) ?_
                    first
                      | (refine ⟨rfl, hF5, fun c hc2 => ?_⟩
                         rw [hE c, hsp c, show w * (1000 - sh f) / 1000 = 0 by omega, spN_0, Nat.add_zero]
                         exact hV5 c hc2)
                      | (refine ⟨rfl, fun k hk => (hF6 k hk).trans (hF5 k hk), fun c hc2 => ?_⟩
                         rw [hE c, hsp c, hV6 c hc2]
                         congr 1
                         omega)
          · first
              | (exfalso; simp (disch := omega) only [nI_leI, nI_ltI, nI_eq, nI_eq0] at hb32; omega)
              | simp (disch := omega) only [nI_leI, nI_ltI, nI_eq, nI_eq0] at hb32
                refine r_aload_n C 2 (dk oX6_spread 15 rfl) rfl ?_
                refine r_iload C 3 (dk oX6_spread 16 rfl) rfl ?_
                refine r_ivi C Z (dk oX6_spread 17 rfl) cl_X6_79 ci_X2_soBy rfl (kn hn rfl) (c38_X2_soBy hn I J shown A_ N_ h8 h7) rfl rfl (Nat.le_of_ble_eq_true rfl) (rmR2 (by omega) (by decide)) ⟨Nat.zero_le _, Nat.zero_le _⟩ (fun r38 I38 J38 h38 => ?_)
                obtain ⟨h38, e1_, e2_⟩ := h38
                have e1_ := e1_.symm
                have e2_ := e2_.symm
                subst e1_
                subst e2_
                subst h38
                have hso : A_ ||| (shown ^^^ N_) < 4096 := or_lt12 hA (xor_lt12 hshown hN)
                refine r_istore (lo' := [(7, _), (0, _), (1, _), (2, _), (4, _), (5, _), (6, _)]) C (dk oX6_spread 18 rfl) (by decide) rfl ?_
                refine r_iconst C (dk oX6_spread 19 rfl) (v := nI 0) (by decide) ?_
                refine r_istore (lo' := [(8, _), (7, _), (0, _), (1, _), (2, _), (4, _), (5, _), (6, _)]) C (dk oX6_spread 20 rfl) (by decide) rfl ?_
                have L46 : ∀ (d_ : Nat) (c_ : Nat) (I3 : MI), nc - c_ < d_ → c_ ≤ nc → (∀ k, k ≠ 54 → I3 k = I k) → (∀ c, c < c_ → I3 54 c = nI (v c + (if evC (cd c) (A_ ||| (shown ^^^ N_)) = true then w else 0))) → (∀ c, c_ ≤ c → c < nc → I3 54 c = nI (v c)) → V p l e (rmL (2 + m_)) s m args below meth c Q D A 9 0 0 n ad (mE cA ad I3 J) 46 [(0, .ref (ad 52)), (1, .ref (ad 9)), (2, .ref (ad 38)), (4, .int (nI shown)), (5, .int (nI w)), (7, .int (nI (A_ ||| (shown ^^^ N_)))), (8, .int (nI c_))] [] := by
                  intro d_
                  induction d_ with
                  | zero => intros; exact absurd (by assumption) (Nat.not_lt_zero _)
                  | succ d_ ih => 
                    intro c_ I3 hd3 hcn hF hV hV2
                    refine r_iload C 6 (dk oX6_spread 21 rfl) rfl ?_
                    refine r_aload_n C 1 (dk oX6_spread 22 rfl) rfl ?_
                    refine r_getI C (dk oX6_spread 23 rfl) fl_X6_70 rfl (kn hn rfl) ?_
                    rw [hF 9 (by decide), hc.2.1]
                    refine r_icmp_ge (tgt := 95) C (dk oX6_spread 24 rfl) (by decide) (fun hb52 => ?_) (fun hb52 => ?_)
                    · simp (disch := omega) only [nI_leI, nI_ltI, nI_eq, nI_eq0] at hb52
                      refine hret (dk oX6_spread 45 rfl) ?_
                      refine ⟨rfl, hF, fun c hc2 => ?_⟩
                      rw [hV c (by omega), hE c, show 12 - f = 0 by omega]
                      rfl
                    · simp (disch := omega) only [nI_leI, nI_ltI, nI_eq, nI_eq0] at hb52
                      refine r_iload C 6 (dk oX6_spread 25 rfl) rfl ?_
                      refine r_bipush C (dk oX6_spread 26 rfl) (v := nI 6) (by decide) ?_
                      refine r_icmp_ge (tgt := 95) C (dk oX6_spread 27 rfl) (by decide) (fun hb59 => absurd hb59 (by have := hc.1; rw [nI_leI (by omega) (by omega)]; omega)) (fun hb59 => ?_)
                      refine r_aload_n C 0 (dk oX6_spread 28 rfl) rfl ?_
                      refine r_getR C (dk oX6_spread 29 rfl) fl_X6_15 rfl (kn hn rfl) ?_
                      refine r_iload C 6 (dk oX6_spread 30 rfl) rfl ?_
                      refine r_dup2 C (dk oX6_spread 31 rfl) rfl rfl ?_
                      refine r_iald C _ (dk oX6_spread 32 rfl) rfl (kn hn rfl) rfl (by have := hc.1; omega) (by decide) ?_
                      rw [hV2 c_ (Nat.le_refl _) (by omega)]
                      refine r_aload_n C 1 (dk oX6_spread 33 rfl) rfl ?_
                      refine r_iload C 6 (dk oX6_spread 34 rfl) rfl ?_
                      refine r_iload C 5 (dk oX6_spread 35 rfl) rfl ?_
                      refine r_ivi C Z (dk oX6_spread 36 rfl) cl_X6_83 ci_X1_isOwed rfl (kn hn rfl) (c_X1_isOwed hn I3 J c_ (A_ ||| (shown ^^^ N_)) (cd c_) (by have := hc.1; omega) hso (hc.2.2 c_ (by omega)).2.2.2) rfl rfl (Nat.le_of_ble_eq_true rfl) (rmR2 (by omega) (by decide)) ⟨Nat.zero_le _, Nat.zero_le _⟩ (fun r75 I75 J75 h75 => ?_)
                      obtain ⟨h75, e1_, e2_⟩ := h75
                      have e1_ := e1_.symm
                      have e2_ := e2_.symm
                      subst e1_
                      subst e2_
                      subst h75
                      refine r_if_eq (tgt := 86) C (dk oX6_spread 37 rfl) (by decide) (fun hb78 => ?_) (fun hb78 => ?_)
                      · rw [b32_0] at hb78
                        refine r_iconst C (dk oX6_spread 40 rfl) (v := nI 0) (by decide) ?_
                        refine r_topI (show nI 0 = nI (if evC (cd c_) (A_ ||| (shown ^^^ N_)) = true then w else 0) from by rw [if_neg (by rw [hb78]; decide)]) ?_
                        refine r_iadd C (dk oX6_spread 41 rfl) ?_
                        rw [nI_add]
                        refine r_iast C _ (dk oX6_spread 42 rfl) rfl (kn hn rfl) rfl (by have := hc.1; omega) (by decide) ?_
                        refine r_iinc (lo' := [(8, _), (0, _), (1, _), (2, _), (4, _), (5, _), (7, _)]) C 6 (dk oX6_spread 43 rfl) rfl (by first | exact nI_inc _ | rfl) (by decide) rfl ?_
                        refine r_goto (tgt := 46) C (dk oX6_spread 44 rfl) (by decide) ?_
                        refine V.sub [1, 2, 3, 4, 5, 6, 0] rfl ?_
                        refine ih (c_ + 1) _ (by omega) (by omega) (fun k hk => by rw [up2_ne hk]; exact hF k hk) (fun c hc2 => ?_) (fun c hc2 hc3 => by rw [up2_off (by omega)]; exact hV2 c (by omega) hc3)
                        by_cases e : c = c_
                        · rw [e, up2_at]
                        · rw [up2_off e]; exact hV c (by omega)
                      · rw [b32_n] at hb78
                        refine r_iload C 4 (dk oX6_spread 38 rfl) rfl ?_
                        refine r_topI (show nI w = nI (if evC (cd c_) (A_ ||| (shown ^^^ N_)) = true then w else 0) from by rw [if_pos hb78]) ?_
                        refine r_goto (tgt := 87) C (dk oX6_spread 39 rfl) (by decide) ?_
                        refine r_iadd C (dk oX6_spread 41 rfl) ?_
                        rw [nI_add]
                        refine r_iast C _ (dk oX6_spread 42 rfl) rfl (kn hn rfl) rfl (by have := hc.1; omega) (by decide) ?_
                        refine r_iinc (lo' := [(8, _), (0, _), (1, _), (2, _), (4, _), (5, _), (7, _)]) C 6 (dk oX6_spread 43 rfl) rfl (by first | exact nI_inc _ | rfl) (by decide) rfl ?_
                        refine r_goto (tgt := 46) C (dk oX6_spread 44 rfl) (by decide) ?_
                        refine V.sub [1, 2, 3, 4, 5, 6, 0] rfl ?_
                        refine ih (c_ + 1) _ (by omega) (by omega) (fun k hk => by rw [up2_ne hk]; exact hF k hk) (fun c hc2 => ?_) (fun c hc2 hc3 => by rw [up2_off (by omega)]; exact hV2 c (by omega) hc3)
                        by_cases e : c = c_
                        · rw [e, up2_at]
                        · rw [up2_off e]; exact hV c (by omega)
                refine V.sub [2, 3, 4, 5, 6, 1, 0] rfl ?_
                exact L46 (nc + 1) 0 I (by omega) (Nat.zero_le _) (fun k _ => rfl) (fun c hc2 => absurd hc2 (Nat.not_lt_zero _)) (fun c _ hc2 => hv c hc2)
        · rw [b32_0] at hb19
          refine r_iinc (lo' := [(6, _), (0, _), (1, _), (2, _), (4, _), (5, _)]) C 5 (dk oX6_spread 10 rfl) rfl (by first | exact nI_inc _ | rfl) (by decide) rfl ?_
          refine r_goto (tgt := 3) C (dk oX6_spread 11 rfl) (by decide) ?_
          refine V.sub [1, 2, 3, 4, 5, 0] rfl ?_
          exact ih (f + 1) (by omega) (by omega) (by omega) (fun c => by
            rw [hE c, show 12 - f = (11 - f) + 1 by omega, spN_skip (by rw [show 12 - ((11 - f) + 1) = f by omega]; exact hb19), show 12 - (f + 1) = 11 - f by omega])
  refine V.sub [1, 2, 3, 5, 6, 0] rfl ?_
  exact L3 13 (12 - m_) (by omega) (by omega) (Nat.le_refl _) (fun c => by rw [show 12 - (12 - m_) = m_ by omega])

theorem c38_X6_spread (hn : 117 ≤ n) (op A_ N_ : Nat) (hop : op < 4096) (hA : A_ < 4096) (hN : N_ < 4096) (sh : Nat → Nat) (hsh : ∀ f, sh f ≤ 1000) (nc : Nat) (co : Nat → Int32) (cd : Nat → List Nat) : ∀ k, k ≤ 12 → ∀ m_, m_ ≤ k → SP38 l n ad cA D z op A_ N_ sh nc co cd m_
  | 0, _, m_, hm => fun I J hc h6 h7 h8 hS v hv shown w h1 h2 => c38_X6_spread_at hn op A_ N_ hop hA hN sh hsh nc co cd m_ (by omega) (fun m hm2 => by omega) I J hc h6 h7 h8 hS v hv shown w h1 h2
  | k + 1, hk, m_, hm => fun I J hc h6 h7 h8 hS v hv shown w h1 h2 => c38_X6_spread_at hn op A_ N_ hop hA hN sh hsh nc co cd m_ (by omega) (fun m hm2 => c38_X6_spread hn op A_ N_ hop hA hN sh hsh nc co cd k (by omega) m (by omega)) I J hc h6 h7 h8 hS v hv shown w h1 h2
set_option maxHeartbeats 1000000 in
set_option maxRecDepth 100000 in
theorem c45_X6_cutBy (hn : 117 ≤ n) (I : MI) (J : MJ) (k_ : Prf) (hK : CPrf I 8 k_.1 k_.2.1 k_.2.2.1 k_.2.2.2.1 k_.2.2.2.2.1 k_.2.2.2.2.2) (Φ : Nat → FS) (hM : FcM I 45 Φ) (B x_ : Nat) (hB : B < 2 ^ 16) (hx : x_ < 2) (v : Nat → Nat) (hv : ∀ f, f < 12 → I 53 f = nI (v f) ∧ v f ≤ 1000) : Cv l n ad cA D z 1 yX6_cutBy cX6_cutBy 7 I J [.ref (ad 52), .ref (ad 33), .ref (ad 45), .int (nI B), .int (nI x_)] (fun I' J' => J' = J ∧ (∀ k, k ≠ 53 → I' k = I k) ∧ ∀ f, f < 12 → I' 53 f = nI (cutN (cutP B k_.2.1 k_.2.2.1 Φ (nI x_) f) k_.2.2.2.1 (v f) k_.1)) := by
  refine Cv.of (by decide) (Nat.le_of_ble_eq_true rfl) ?_
  intro p e s m args below meth c A C hin Z Q hret
  obtain ⟨p1, p2, p3, p4⟩ := hK
  refine r_iconst C (dk oX6_cutBy 0 rfl) (v := nI 0) (by decide) ?_
  refine r_istore (lo' := [(5, _), (0, _), (1, _), (2, _), (3, _), (4, _)]) C (dk oX6_cutBy 1 rfl) (by decide) rfl ?_
  have L3 : ∀ (d_ : Nat) (j_ : Nat) (I1 : MI), k_.1 - j_ < d_ → j_ ≤ k_.1 → (∀ k, k ≠ 53 → I1 k = I k) → (∀ f, f < 12 → I1 53 f = nI (cutN (cutP B k_.2.1 k_.2.2.1 Φ (nI x_) f) k_.2.2.2.1 (v f) j_)) → V p l e (rmL 1) s m args below meth c Q D A 7 0 0 n ad (mE cA ad I1 J) 3 [(0, .ref (ad 52)), (1, .ref (ad 33)), (2, .ref (ad 45)), (3, .int (nI B)), (4, .int (nI x_)), (5, .int (nI j_))] [] := by
    intro d_
    induction d_ with
    | zero => intros; exact absurd (by assumption) (Nat.not_lt_zero _)
    | succ d_ ih => 
      intro j_ I1 hd_ hj hF hV
      refine r_iload C 5 (dk oX6_cutBy 2 rfl) rfl ?_
      refine r_aload_n C 1 (dk oX6_cutBy 3 rfl) rfl ?_
      refine r_getI C (dk oX6_cutBy 4 rfl) fl_X6_22 rfl (kn hn rfl) ?_
      rw [hF 33 (by decide), p2]
      refine r_icmp_ge (tgt := 99) C (dk oX6_cutBy 5 rfl) (by decide) (fun hb9 => ?_) (fun hb9 => ?_)
      · simp (disch := omega) only [nI_leI, nI_ltI, nI_eq, nI_eq0] at hb9
        refine hret (dk oX6_cutBy 49 rfl) ?_
        exact ⟨rfl, hF, fun f hf => by rw [hV f hf, show j_ = k_.1 by omega]⟩
      · simp (disch := omega) only [nI_leI, nI_ltI, nI_eq, nI_eq0] at hb9
        refine r_iload C 5 (dk oX6_cutBy 6 rfl) rfl ?_
        refine r_bipush C (dk oX6_cutBy 7 rfl) (v := nI 16) (by decide) ?_
        refine r_icmp_ge (tgt := 99) C (dk oX6_cutBy 8 rfl) (by decide) (fun hb16 => absurd hb16 (by rw [nI_leI (by omega) (by omega)]; omega)) (fun hb16 => ?_)
        refine r_aload_n C 1 (dk oX6_cutBy 9 rfl) rfl ?_
        refine r_getR C (dk oX6_cutBy 10 rfl) fl_X6_28 rfl (kn hn rfl) ?_
        have q4 := p4 j_ (by omega)
        refine r_iload C 5 (dk oX6_cutBy 11 rfl) rfl ?_
        refine r_iald C _ (dk oX6_cutBy 12 rfl) rfl (kn hn rfl) rfl (by omega) (by decide) ?_
        rw [hF 35 (by decide), q4.2.2.1]
        have hf12 := q4.2.2.2.1
        refine r_istore (lo' := [(6, _), (0, _), (1, _), (2, _), (3, _), (4, _), (5, _)]) C (dk oX6_cutBy 13 rfl) (by decide) rfl ?_
        refine r_iload_n C 4 (dk oX6_cutBy 14 rfl) rfl ?_
        refine r_iload C 6 (dk oX6_cutBy 15 rfl) rfl ?_
        refine r_isi C Z (dk oX6_cutBy 16 rfl) cl_X6_31 st_X9_has (c_X9_has I1 J B j_ (by omega) (by omega)) rfl rfl (Nat.le_of_ble_eq_true rfl) ⟨Nat.le_of_ble_eq_true rfl, Nat.le_of_ble_eq_true rfl⟩ ⟨Nat.zero_le _, Nat.zero_le _⟩ (fun r31 I31 J31 h31 => ?_)
        obtain ⟨h31, e1_, e2_⟩ := h31
        have e1_ := e1_.symm
        have e2_ := e2_.symm
        subst e1_
        subst e2_
        subst h31
        refine r_if_eq (tgt := 93) C (dk oX6_cutBy 17 rfl) (by decide) (fun hb34 => ?_) (fun hb34 => ?_)
        · rw [b32_0] at hb34
          refine r_iinc (lo' := [(5, _), (6, _), (0, _), (1, _), (2, _), (3, _), (4, _)]) C 6 (dk oX6_cutBy 47 rfl) rfl (by first | exact nI_inc _ | rfl) (by decide) rfl ?_
          refine r_goto (tgt := 3) C (dk oX6_cutBy 48 rfl) (by decide) ?_
          refine V.sub [2, 3, 4, 5, 6, 0] rfl ?_
          first
            | (refine ih (j_ + 1) _ (by omega) (by omega) hF (fun f hf => ?_)
               rw [hV f hf, cut_0]
               first
                 | (show (B.testBit j_ && decide (k_.2.2.1 j_ = f) && decide (berF (k_.2.1 j_) (Φ (k_.2.2.1 j_)) = nI x_)) = false
                    rw [hb34]; rfl)
                 | (show (B.testBit j_ && decide (k_.2.2.1 j_ = f) && decide (berF (k_.2.1 j_) (Φ (k_.2.2.1 j_)) = nI x_)) = false
                    rw [decide_eq_false hb60, Bool.and_false]))
            | (refine ih (j_ + 1) _ (by omega) (by omega) (fun k hk => by rw [up2_ne hk]; exact hF k hk) (fun f hf => ?_)
               by_cases e : f = k_.2.2.1 j_
               · subst e
                 rw [up2_at, cut_1]
                 show (B.testBit j_ && decide (k_.2.2.1 j_ = k_.2.2.1 j_) && decide (berF (k_.2.1 j_) (Φ (k_.2.2.1 j_)) = nI x_)) = true
                 rw [hb34, decide_eq_true rfl, decide_eq_true hb60]; rfl
               · rw [up2_off e, hV f hf, cut_0]
                 show (B.testBit j_ && decide (k_.2.2.1 j_ = f) && decide (berF (k_.2.1 j_) (Φ (k_.2.2.1 j_)) = nI x_)) = false
                 rw [decide_eq_false (Ne.symm e), Bool.and_false]; rfl)
        · rw [b32_n] at hb34
          refine r_iload C 0 (dk oX6_cutBy 18 rfl) rfl ?_
          refine r_isi C Z (dk oX6_cutBy 19 rfl) cl_X6_35 st_X9_isFact (c_X9_isFact I1 J (nI (k_.2.2.1 j_))) rfl rfl (Nat.le_of_ble_eq_true rfl) ⟨Nat.le_of_ble_eq_true rfl, Nat.le_of_ble_eq_true rfl⟩ ⟨Nat.zero_le _, Nat.zero_le _⟩ (fun r39 I39 J39 h39 => ?_)
          obtain ⟨h39, e1_, e2_⟩ := h39
          have e1_ := e1_.symm
          have e2_ := e2_.symm
          subst e1_
          subst e2_
          subst h39
          refine r_if_eq (tgt := 93) C (dk oX6_cutBy 20 rfl) (by decide) (fun hb42 => absurd hb42 (by rw [b32_n, decide_eq_true_eq]; exact ⟨nI_pos' (by omega), nI_lt (by omega) (by decide)⟩)) (fun hb42 => ?_)
          refine r_aload_n C 3 (dk oX6_cutBy 21 rfl) rfl ?_
          refine r_aload_n C 2 (dk oX6_cutBy 22 rfl) rfl ?_
          refine r_getR C (dk oX6_cutBy 23 rfl) fl_X6_39 rfl (kn hn rfl) ?_
          refine r_iload C 6 (dk oX6_cutBy 24 rfl) rfl ?_
          refine r_iald C _ (dk oX6_cutBy 25 rfl) rfl (kn hn rfl) rfl (by omega) (by decide) ?_
          have hF34 := hF 34 (by decide)
          rw [hF34, q4.1]
          refine r_iload C 0 (dk oX6_cutBy 26 rfl) rfl ?_
          refine r_ivi C Z (dk oX6_cutBy 27 rfl) cl_X6_42 ci_X2_bearing rfl (kn hn rfl) (c45_X2_bearing hn I1 J Φ (fun f hf i hi => by rw [hF _ (by omega)]; exact hM f hf i hi) (k_.2.1 j_) (k_.2.2.1 j_) q4.2.1 hf12) rfl rfl (Nat.le_of_ble_eq_true rfl) ⟨Nat.le_of_ble_eq_true rfl, Nat.le_of_ble_eq_true rfl⟩ ⟨Nat.zero_le _, Nat.zero_le _⟩ (fun r55 I55 J55 h55 => ?_)
          obtain ⟨h55, e1_, e2_⟩ := h55
          have e1_ := e1_.symm
          have e2_ := e2_.symm
          subst e1_
          subst e2_
          subst h55
          refine r_iload C 5 (dk oX6_cutBy 28 rfl) rfl ?_
          refine r_icmp_ne (tgt := 93) C (dk oX6_cutBy 29 rfl) (by decide) (fun hb60 => ?_) (fun hb60 => ?_)
          · refine r_iinc (lo' := [(5, _), (6, _), (0, _), (1, _), (2, _), (3, _), (4, _)]) C 6 (dk oX6_cutBy 47 rfl) rfl (by first | exact nI_inc _ | rfl) (by decide) rfl ?_
            refine r_goto (tgt := 3) C (dk oX6_cutBy 48 rfl) (by decide) ?_
            refine V.sub [2, 3, 4, 5, 6, 0] rfl ?_
            first
              | (refine ih (j_ + 1) _ (by omega) (by omega) hF (fun f hf => ?_)
                 rw [hV f hf, cut_0]
                 first
                   | (show (B.testBit j_ && decide (k_.2.2.1 j_ = f) && decide (berF (k_.2.1 j_) (Φ (k_.2.2.1 j_)) = nI x_)) = false
                      rw [hb34]; rfl)
                   | (show (B.testBit j_ && decide (k_.2.2.1 j_ = f) && decide (berF (k_.2.1 j_) (Φ (k_.2.2.1 j_)) = nI x_)) = false
                      rw [decide_eq_false hb60, Bool.and_false]))
              | (refine ih (j_ + 1) _ (by omega) (by omega) (fun k hk => by rw [up2_ne hk]; exact hF k hk) (fun f hf => ?_)
                 by_cases e : f = k_.2.2.1 j_
                 · subst e
                   rw [up2_at, cut_1]
                   show (B.testBit j_ && decide (k_.2.2.1 j_ = k_.2.2.1 j_) && decide (berF (k_.2.1 j_) (Φ (k_.2.2.1 j_)) = nI x_)) = true
                   rw [hb34, decide_eq_true rfl, decide_eq_true hb60]; rfl
                 · rw [up2_off e, hV f hf, cut_0]
                   show (B.testBit j_ && decide (k_.2.2.1 j_ = f) && decide (berF (k_.2.1 j_) (Φ (k_.2.2.1 j_)) = nI x_)) = false
                   rw [decide_eq_false (Ne.symm e), Bool.and_false]; rfl)
          · refine r_aload_n C 1 (dk oX6_cutBy 30 rfl) rfl ?_
            refine r_getR C (dk oX6_cutBy 31 rfl) fl_X6_9 rfl (kn hn rfl) ?_
            refine r_iload C 0 (dk oX6_cutBy 32 rfl) rfl ?_
            refine r_aload_n C 1 (dk oX6_cutBy 33 rfl) rfl ?_
            refine r_getR C (dk oX6_cutBy 34 rfl) fl_X6_9 rfl (kn hn rfl) ?_
            refine r_iload C 0 (dk oX6_cutBy 35 rfl) rfl ?_
            refine r_iald C _ (dk oX6_cutBy 36 rfl) rfl (kn hn rfl) rfl (by omega) (by decide) ?_
            rw [hV _ hf12]
            have hcl := @cutN_le (cutP B k_.2.1 k_.2.2.1 Φ (nI x_) (k_.2.2.1 j_)) k_.2.2.2.1 (v (k_.2.2.1 j_)) j_
            have hvl := (hv _ hf12).2
            refine r_sipush C (dk oX6_cutBy 37 rfl) (v := nI 1000) (by decide) ?_
            refine r_aload_n C 2 (dk oX6_cutBy 38 rfl) rfl ?_
            refine r_getR C (dk oX6_cutBy 39 rfl) fl_X6_48 rfl (kn hn rfl) ?_
            refine r_iload C 6 (dk oX6_cutBy 40 rfl) rfl ?_
            refine r_iald C _ (dk oX6_cutBy 41 rfl) rfl (kn hn rfl) rfl (by omega) (by decide) ?_
            rw [hF 36 (by decide), q4.2.2.2.2.1]
            have hod := q4.2.2.2.2.2.1
            refine r_isub C (dk oX6_cutBy 42 rfl) ?_
            rw [pk_sub hod]
            refine r_imul C (dk oX6_cutBy 43 rfl) ?_
            rw [pk_mul]
            have hmul : cutN (cutP B k_.2.1 k_.2.2.1 Φ (nI x_) (k_.2.2.1 j_)) k_.2.2.2.1 (v (k_.2.2.1 j_)) j_ * (1000 - k_.2.2.2.1 j_) ≤ 1000 * 1000 := Nat.mul_le_mul (by omega) (by omega)
            refine r_sipush C (dk oX6_cutBy 44 rfl) (v := nI 1000) (by decide) ?_
            refine r_idiv C (dk oX6_cutBy 45 rfl) (by decide) ?_
            rw [pk_div (by omega) (by decide) (by decide)]
            refine r_iast C _ (dk oX6_cutBy 46 rfl) rfl (kn hn rfl) rfl (by omega) (by decide) ?_
            refine r_iinc (lo' := [(5, _), (6, _), (0, _), (1, _), (2, _), (3, _), (4, _)]) C 6 (dk oX6_cutBy 47 rfl) rfl (by first | exact nI_inc _ | rfl) (by decide) rfl ?_
            refine r_goto (tgt := 3) C (dk oX6_cutBy 48 rfl) (by decide) ?_
            refine V.sub [2, 3, 4, 5, 6, 0] rfl ?_
            first
              | (refine ih (j_ + 1) _ (by omega) (by omega) hF (fun f hf => ?_)
                 rw [hV f hf, cut_0]
                 first
                   | (show (B.testBit j_ && decide (k_.2.2.1 j_ = f) && decide (berF (k_.2.1 j_) (Φ (k_.2.2.1 j_)) = nI x_)) = false
                      rw [hb34]; rfl)
                   | (show (B.testBit j_ && decide (k_.2.2.1 j_ = f) && decide (berF (k_.2.1 j_) (Φ (k_.2.2.1 j_)) = nI x_)) = false
                      rw [decide_eq_false hb60, Bool.and_false]))
              | (refine ih (j_ + 1) _ (by omega) (by omega) (fun k hk => by rw [up2_ne hk]; exact hF k hk) (fun f hf => ?_)
                 by_cases e : f = k_.2.2.1 j_
                 · subst e
                   rw [up2_at, cut_1]
                   show (B.testBit j_ && decide (k_.2.2.1 j_ = k_.2.2.1 j_) && decide (berF (k_.2.1 j_) (Φ (k_.2.2.1 j_)) = nI x_)) = true
                   rw [hb34, decide_eq_true rfl, decide_eq_true hb60]; rfl
                 · rw [up2_off e, hV f hf, cut_0]
                   show (B.testBit j_ && decide (k_.2.2.1 j_ = f) && decide (berF (k_.2.1 j_) (Φ (k_.2.2.1 j_)) = nI x_)) = false
                   rw [decide_eq_false (Ne.symm e), Bool.and_false]; rfl)
  refine V.sub [1, 2, 3, 4, 5, 0] rfl ?_
  exact L3 (k_.1 + 1) 0 I (by omega) (Nat.zero_le _) (fun k _ => rfl) (fun f hf => (hv f hf).1)

set_option maxHeartbeats 1000000 in
set_option maxRecDepth 100000 in
theorem c45_X6_weighFacts (hn : 117 ≤ n) (I : MI) (J : MJ) (k_ : Prf) (hK : CPrf I 8 k_.1 k_.2.1 k_.2.2.1 k_.2.2.2.1 k_.2.2.2.2.1 k_.2.2.2.2.2) (Φ : Nat → FS) (hM : FcM I 45 Φ) (B : Nat) (hB : B < 2 ^ 16) : Cv l n ad cA D z 2 yX6_weighFacts cX6_weighFacts 5 I J [.ref (ad 52), .ref (ad 33), .ref (ad 45), .int (nI B)] (fun I' J' => J' = J ∧ (∀ k, k ≠ 53 → I' k = I k) ∧ ∀ f, f < 12 → I' 53 f = nI (shF_ B k_.1 k_.2.1 k_.2.2.1 k_.2.2.2.1 Φ f)) := by
  refine Cv.of (by decide) (Nat.le_of_ble_eq_true rfl) ?_
  intro p e s m args below meth c A C hin Z Q hret
  refine r_iconst C (dk oX6_weighFacts 0 rfl) (v := nI 0) (by decide) ?_
  refine r_istore (lo' := [(4, _), (0, _), (1, _), (2, _), (3, _)]) C (dk oX6_weighFacts 1 rfl) (by decide) rfl ?_
  have L3 : ∀ (d_ : Nat) (f : Nat) (I1 : MI), 12 - f < d_ → f ≤ 12 → (∀ k, k ≠ 53 → I1 k = I k) → (∀ g, g < f → I1 53 g = nI 1000) → V p l e (rmL 2) s m args below meth c Q D A 5 0 0 n ad (mE cA ad I1 J) 3 [(0, .ref (ad 52)), (1, .ref (ad 33)), (2, .ref (ad 45)), (3, .int (nI B)), (4, .int (nI f))] [] := by
    intro d_
    induction d_ with
    | zero => intros; exact absurd (by assumption) (Nat.not_lt_zero _)
    | succ d_ ih => 
      intro f I1 hd_ hf hF hV
      refine r_iload C 4 (dk oX6_weighFacts 2 rfl) rfl ?_
      refine r_bipush C (dk oX6_weighFacts 3 rfl) (v := nI 12) (by decide) ?_
      refine r_icmp_ge (tgt := 26) C (dk oX6_weighFacts 4 rfl) (by decide) (fun hb7 => ?_) (fun hb7 => ?_)
      · simp (disch := omega) only [nI_leI, nI_ltI, nI_eq, nI_eq0] at hb7
        refine r_aload_n C 0 (dk oX6_weighFacts 12 rfl) rfl ?_
        refine r_aload_n C 1 (dk oX6_weighFacts 13 rfl) rfl ?_
        refine r_aload_n C 2 (dk oX6_weighFacts 14 rfl) rfl ?_
        refine r_iload_n C 3 (dk oX6_weighFacts 15 rfl) rfl ?_
        refine r_iconst C (dk oX6_weighFacts 16 rfl) (v := nI 1) (by decide) ?_
        refine r_ivv C Z (dk oX6_weighFacts 17 rfl) cl_X6_18 ci_X6_cutBy rfl (kn hn rfl) (c45_X6_cutBy hn I1 J k_ (hK.cp (smK.rf (fun k a c => hF k (by omega)))) Φ (fun f hf i hi => by rw [hF _ (by omega)]; exact hM f hf i hi) B 1 hB (by decide) (fun _ => 1000) (fun f hf => ⟨hV f (by omega), Nat.le_refl _⟩)) rfl rfl (Nat.le_of_ble_eq_true rfl) ⟨Nat.le_of_ble_eq_true rfl, Nat.le_of_ble_eq_true rfl⟩ ⟨Nat.zero_le _, Nat.zero_le _⟩ (fun I31 J31 h31 => ?_)
        obtain ⟨e2_, hF31, hV31⟩ := h31
        have e2_ := e2_.symm
        subst e2_
        have hF31 : ∀ k, k ≠ 53 → I31 k = I k := fun k hk => (hF31 k hk).trans (hF k hk)
        refine r_iconst C (dk oX6_weighFacts 18 rfl) (v := nI 0) (by decide) ?_
        refine r_istore (lo' := [(4, _), (0, _), (1, _), (2, _), (3, _)]) C (dk oX6_weighFacts 19 rfl) (by decide) rfl ?_
        have L37 : ∀ (d_ : Nat) (f : Nat) (I2 : MI), 12 - f < d_ → f ≤ 12 → (∀ k, k ≠ 53 → I2 k = I k) → (∀ g, g < f → I2 53 g = nI (1000 - cutN (cutP B k_.2.1 k_.2.2.1 Φ (nI 1) g) k_.2.2.2.1 1000 k_.1)) → (∀ g, f ≤ g → g < 12 → I2 53 g = nI (cutN (cutP B k_.2.1 k_.2.2.1 Φ (nI 1) g) k_.2.2.2.1 1000 k_.1)) → V p l e (rmL 2) s m args below meth c Q D A 5 0 0 n ad (mE cA ad I2 J) 37 [(0, .ref (ad 52)), (1, .ref (ad 33)), (2, .ref (ad 45)), (3, .int (nI B)), (4, .int (nI f))] [] := by
          intro d_
          induction d_ with
          | zero => intros; exact absurd (by assumption) (Nat.not_lt_zero _)
          | succ d_ ih => 
            intro f I2 hd2 hf hF2 h4 h5
            refine r_iload C 4 (dk oX6_weighFacts 20 rfl) rfl ?_
            refine r_bipush C (dk oX6_weighFacts 21 rfl) (v := nI 12) (by decide) ?_
            refine r_icmp_ge (tgt := 68) C (dk oX6_weighFacts 22 rfl) (by decide) (fun hb41 => ?_) (fun hb41 => ?_)
            · simp (disch := omega) only [nI_leI, nI_ltI, nI_eq, nI_eq0] at hb41
              refine r_aload_n C 0 (dk oX6_weighFacts 35 rfl) rfl ?_
              refine r_aload_n C 1 (dk oX6_weighFacts 36 rfl) rfl ?_
              refine r_aload_n C 2 (dk oX6_weighFacts 37 rfl) rfl ?_
              refine r_iload_n C 3 (dk oX6_weighFacts 38 rfl) rfl ?_
              refine r_iconst C (dk oX6_weighFacts 39 rfl) (v := nI 0) (by decide) ?_
              refine r_ivv C Z (dk oX6_weighFacts 40 rfl) cl_X6_18 ci_X6_cutBy rfl (kn hn rfl) (c45_X6_cutBy hn I2 J k_ (hK.cp (smK.rf (fun k a c => hF2 k (by omega)))) Φ (fun f hf i hi => by rw [hF2 _ (by omega)]; exact hM f hf i hi) B 0 hB (by decide) (fun f => 1000 - cutN (cutP B k_.2.1 k_.2.2.1 Φ (nI 1) f) k_.2.2.2.1 1000 k_.1) (fun f hf => ⟨h4 f (by omega), Nat.sub_le _ _⟩)) rfl rfl (Nat.le_of_ble_eq_true rfl) ⟨Nat.le_of_ble_eq_true rfl, Nat.le_of_ble_eq_true rfl⟩ ⟨Nat.zero_le _, Nat.zero_le _⟩ (fun I73 J73 h73 => ?_)
              obtain ⟨e2_, hF73, hV73⟩ := h73
              have e2_ := e2_.symm
              subst e2_
              refine hret (dk oX6_weighFacts 41 rfl) ?_
              exact ⟨rfl, fun k hk => (hF73 k hk).trans (hF2 k hk), hV73⟩
            · simp (disch := omega) only [nI_leI, nI_ltI, nI_eq, nI_eq0] at hb41
              refine r_aload_n C 0 (dk oX6_weighFacts 23 rfl) rfl ?_
              refine r_getR C (dk oX6_weighFacts 24 rfl) fl_X6_9 rfl (kn hn rfl) ?_
              refine r_iload C 4 (dk oX6_weighFacts 25 rfl) rfl ?_
              refine r_sipush C (dk oX6_weighFacts 26 rfl) (v := nI 1000) (by decide) ?_
              refine r_aload_n C 0 (dk oX6_weighFacts 27 rfl) rfl ?_
              refine r_getR C (dk oX6_weighFacts 28 rfl) fl_X6_9 rfl (kn hn rfl) ?_
              refine r_iload C 4 (dk oX6_weighFacts 29 rfl) rfl ?_
              refine r_iald C _ (dk oX6_weighFacts 30 rfl) rfl (kn hn rfl) rfl (by omega) (by decide) ?_
              rw [h5 f (Nat.le_refl _) (by omega)]
              have hcl := @cutN_le (cutP B k_.2.1 k_.2.2.1 Φ (nI 1) f) k_.2.2.2.1 1000 k_.1
              refine r_isub C (dk oX6_weighFacts 31 rfl) ?_
              rw [pk_sub hcl]
              refine r_iast C _ (dk oX6_weighFacts 32 rfl) rfl (kn hn rfl) rfl (by omega) (by decide) ?_
              refine r_iinc (lo' := [(4, _), (0, _), (1, _), (2, _), (3, _)]) C 4 (dk oX6_weighFacts 33 rfl) rfl (by first | exact nI_inc _ | rfl) (by decide) rfl ?_
              refine r_goto (tgt := 37) C (dk oX6_weighFacts 34 rfl) (by decide) ?_
              refine V.sub [1, 2, 3, 4, 0] rfl ?_
              refine ih (f + 1) _ (by omega) (by omega) (fun k hk => by rw [up2_ne hk]; exact hF2 k hk) (fun g hg => ?_) (fun g hg hg2 => by rw [up2_off (by omega)]; exact h5 g (by omega) hg2)
              by_cases e : g = f
              · rw [e, up2_at]
              · rw [up2_off e]; exact h4 g (by omega)
        refine V.sub [1, 2, 3, 4, 0] rfl ?_
        exact L37 13 0 I31 (by omega) (Nat.zero_le _) hF31 (fun g hg => absurd hg (Nat.not_lt_zero _)) (fun g _ hg => hV31 g hg)
      · simp (disch := omega) only [nI_leI, nI_ltI, nI_eq, nI_eq0] at hb7
        refine r_aload_n C 0 (dk oX6_weighFacts 5 rfl) rfl ?_
        refine r_getR C (dk oX6_weighFacts 6 rfl) fl_X6_9 rfl (kn hn rfl) ?_
        refine r_iload C 4 (dk oX6_weighFacts 7 rfl) rfl ?_
        refine r_sipush C (dk oX6_weighFacts 8 rfl) (v := nI 1000) (by decide) ?_
        refine r_iast C _ (dk oX6_weighFacts 9 rfl) rfl (kn hn rfl) rfl (by omega) (by decide) ?_
        refine r_iinc (lo' := [(4, _), (0, _), (1, _), (2, _), (3, _)]) C 4 (dk oX6_weighFacts 10 rfl) rfl (by first | exact nI_inc _ | rfl) (by decide) rfl ?_
        refine r_goto (tgt := 3) C (dk oX6_weighFacts 11 rfl) (by decide) ?_
        refine V.sub [1, 2, 3, 4, 0] rfl ?_
        refine ih (f + 1) _ (by omega) (by omega) (fun k hk => by rw [up2_ne hk]; exact hF k hk) (fun g hg => ?_)
        by_cases e : g = f
        · rw [e, up2_at]
        · rw [up2_off e]; exact hV g (by omega)
  refine V.sub [1, 2, 3, 4, 0] rfl ?_
  exact L3 13 0 I (by omega) (Nat.zero_le _) (fun k _ => rfl) (fun g hg => absurd hg (Nat.not_lt_zero _))

def SP45 (l : Launch) (n : Nat) (ad : Nat → Nat) (cA : Nat → ClassId) (D : va_G) (z : Zw) (op A_ N_ : Nat) (sh : Nat → Nat) (nc : Nat) (co : Nat → Int32) (cd : Nat → List Nat) (m_ : Nat) : Prop := ∀ (I : MI) (J : MJ) (hc : CClm I J 8 nc co cd) (h6 : I 45 6 = nI op) (h7 : I 45 7 = nI N_) (h8 : I 45 8 = nI A_) (hS : ∀ f, f < 12 → I 53 f = nI (sh f)) (v : Nat → Nat) (hv : ∀ c, c < nc → I 54 c = nI (v c)) (shown w : Nat) (hshown : shown < 4096) (hw : w ≤ 1000000), Cv l n ad cA D z (2 + m_) yX6_spread cX6_spread 9 I J [.ref (ad 52), .ref (ad 9), .ref (ad 45), .int (nI (12 - m_)), .int (nI shown), .int (nI w)] (fun I' J' => J' = J ∧ (∀ k, k ≠ 54 → I' k = I k) ∧ ∀ c, c < nc → I' 54 c = nI (v c + spN op sh (fun x => evC (cd c) (A_ ||| (x ^^^ N_))) m_ shown w))
set_option maxHeartbeats 1000000 in
set_option maxRecDepth 100000 in
theorem c45_X6_spread_at (hn : 117 ≤ n) (op A_ N_ : Nat) (hop : op < 4096) (hA : A_ < 4096) (hN : N_ < 4096) (sh : Nat → Nat) (hsh : ∀ f, sh f ≤ 1000) (nc : Nat) (co : Nat → Int32) (cd : Nat → List Nat) (m_ : Nat) (hm : m_ ≤ 12) (hR : ∀ m, m < m_ → SP45 l n ad cA D z op A_ N_ sh nc co cd m) (I : MI) (J : MJ) (hc : CClm I J 8 nc co cd) (h6 : I 45 6 = nI op) (h7 : I 45 7 = nI N_) (h8 : I 45 8 = nI A_) (hS : ∀ f, f < 12 → I 53 f = nI (sh f)) (v : Nat → Nat) (hv : ∀ c, c < nc → I 54 c = nI (v c)) (shown w : Nat) (hshown : shown < 4096) (hw : w ≤ 1000000) : Cv l n ad cA D z (2 + m_) yX6_spread cX6_spread 9 I J [.ref (ad 52), .ref (ad 9), .ref (ad 45), .int (nI (12 - m_)), .int (nI shown), .int (nI w)] (fun I' J' => J' = J ∧ (∀ k, k ≠ 54 → I' k = I k) ∧ ∀ c, c < nc → I' 54 c = nI (v c + spN op sh (fun x => evC (cd c) (A_ ||| (x ^^^ N_))) m_ shown w)) := by
  refine Cv.of (by decide) (Nat.le_of_ble_eq_true rfl) ?_
  intro p e s m args below meth c A C hin Z Q hret
  have hnc := hc.1
  refine r_iload_n C 3 (dk oX6_spread 0 rfl) rfl ?_
  refine r_istore (lo' := [(6, _), (0, _), (1, _), (2, _), (3, _), (4, _), (5, _)]) C (dk oX6_spread 1 rfl) (by decide) rfl ?_
  have L3 : ∀ (d_ : Nat) (f : Nat), 12 - f < d_ → f ≤ 12 → 12 - m_ ≤ f → (∀ c, spN op sh (fun x => evC (cd c) (A_ ||| (x ^^^ N_))) m_ shown w = spN op sh (fun x => evC (cd c) (A_ ||| (x ^^^ N_))) (12 - f) shown w) → V p l e (rmL (2 + m_)) s m args below meth c Q D A 9 0 0 n ad (mE cA ad I J) 3 [(0, .ref (ad 52)), (1, .ref (ad 9)), (2, .ref (ad 45)), (4, .int (nI shown)), (5, .int (nI w)), (6, .int (nI f))] [] := by
    intro d_
    induction d_ with
    | zero => intros; exact absurd (by assumption) (Nat.not_lt_zero _)
    | succ d_ ih => 
      intro f hd_ hf12 hfm hE
      refine r_iload C 5 (dk oX6_spread 2 rfl) rfl ?_
      refine r_bipush C (dk oX6_spread 3 rfl) (v := nI 12) (by decide) ?_
      refine r_icmp_ge (tgt := 28) C (dk oX6_spread 4 rfl) (by decide) (fun hb7 => ?_) (fun hb7 => ?_)
      · simp (disch := omega) only [nI_leI, nI_ltI, nI_eq, nI_eq0] at hb7
        refine r_iload C 5 (dk oX6_spread 12 rfl) rfl ?_
        refine r_bipush C (dk oX6_spread 13 rfl) (v := nI 12) (by decide) ?_
        refine r_icmp_lt (tgt := 96) C (dk oX6_spread 14 rfl) (by decide) (fun hb32 => ?_) (fun hb32 => ?_)
        · first
            | (exfalso; simp (disch := omega) only [nI_leI, nI_ltI, nI_eq, nI_eq0] at hb32; omega)
            | simp (disch := omega) only [nI_leI, nI_ltI, nI_eq, nI_eq0] at hb32
              have hf : f < 12 := by omega
              refine r_iload C 4 (dk oX6_spread 46 rfl) rfl ?_
              refine r_aload_n C 0 (dk oX6_spread 47 rfl) rfl ?_
              refine r_getR C (dk oX6_spread 48 rfl) fl_X6_9 rfl (kn hn rfl) ?_
              refine r_iload C 5 (dk oX6_spread 49 rfl) rfl ?_
              refine r_iald C _ (dk oX6_spread 50 rfl) rfl (kn hn rfl) rfl (by omega) (by decide) ?_
              rw [hS _ (by omega)]
              have hs1 := hsh f
              refine r_imul C (dk oX6_spread 51 rfl) ?_
              rw [pk_mul]
              have hm1 : w * sh f ≤ 1000000 * 1000 := Nat.mul_le_mul hw hs1
              refine r_sipush C (dk oX6_spread 52 rfl) (v := nI 1000) (by decide) ?_
              refine r_idiv C (dk oX6_spread 53 rfl) (by decide) ?_
              rw [pk_div (by omega) (by decide) (by decide)]
              refine r_istore (lo' := [(7, _), (0, _), (1, _), (2, _), (4, _), (5, _), (6, _)]) C (dk oX6_spread 54 rfl) (by decide) rfl ?_
              refine r_iload C 5 (dk oX6_spread 55 rfl) rfl ?_
              refine r_sipush C (dk oX6_spread 56 rfl) (v := nI 1000) (by decide) ?_
              refine r_aload_n C 1 (dk oX6_spread 57 rfl) rfl ?_
              refine r_getR C (dk oX6_spread 58 rfl) fl_X6_9 rfl (kn hn rfl) ?_
              refine r_iload C 6 (dk oX6_spread 59 rfl) rfl ?_
              refine r_iald C _ (dk oX6_spread 60 rfl) rfl (kn hn rfl) rfl (by omega) (by decide) ?_
              rw [hS _ (by omega)]
              refine r_isub C (dk oX6_spread 61 rfl) ?_
              rw [pk_sub hs1]
              refine r_imul C (dk oX6_spread 62 rfl) ?_
              rw [pk_mul]
              have hm2 : w * (1000 - sh f) ≤ 1000000 * 1000 := Nat.mul_le_mul hw (by omega)
              refine r_sipush C (dk oX6_spread 63 rfl) (v := nI 1000) (by decide) ?_
              refine r_idiv C (dk oX6_spread 64 rfl) (by decide) ?_
              rw [pk_div (by omega) (by decide) (by decide)]
              have hop2 : op.testBit (12 - ((11 - f) + 1)) = true := by rw [show 12 - ((11 - f) + 1) = f by omega]; exact hb19
              have hsp : ∀ c, spN op sh (fun x => evC (cd c) (A_ ||| (x ^^^ N_))) (12 - f) shown w = spN op sh (fun x => evC (cd c) (A_ ||| (x ^^^ N_))) (11 - f) (shown ||| 2 ^ f) (w * sh f / 1000) + spN op sh (fun x => evC (cd c) (A_ ||| (x ^^^ N_))) (11 - f) shown (w * (1000 - sh f) / 1000) := fun c => by
                rw [show 12 - f = (11 - f) + 1 by omega]
                conv => lhs; unfold spN
                rw [if_pos hop2, show 12 - ((11 - f) + 1) = f by omega]
              have hl1 : shown ||| 2 ^ f < 4096 := Nat.or_lt_two_pow (n := 12) hshown (Nat.pow_lt_pow_right (by decide) (by omega))
              refine r_istore (lo' := [(8, _), (7, _), (0, _), (1, _), (2, _), (4, _), (5, _), (6, _)]) C (dk oX6_spread 65 rfl) (by decide) rfl ?_
              refine r_iload C 1 (dk oX6_spread 66 rfl) rfl ?_
              refine r_if_le (tgt := 156) C (dk oX6_spread 67 rfl) (by decide) (fun hb134 => ?_) (fun hb134 => ?_)
              · rw [show (0 : Int32) = nI 0 from rfl] at hb134
                simp (disch := omega) only [nI_leI, nI_ltI, nI_eq, nI_eq0] at hb134
                obtain ⟨I5, hI5⟩ : ∃ X, X = I := ⟨I, rfl⟩
                have hF5 : ∀ k, k ≠ 54 → I5 k = I k := fun k _ => by rw [hI5]
                have hV5 : ∀ c, c < nc → I5 54 c = nI (v c + spN op sh (fun x => evC (cd c) (A_ ||| (x ^^^ N_))) (11 - f) (shown ||| 2 ^ f) (w * sh f / 1000)) := fun c hc2 => by rw [hI5, show w * sh f / 1000 = 0 by omega, spN_0, Nat.add_zero]; exact hv c hc2
                rw [← hI5]
                refine r_iload C 0 (dk oX6_spread 81 rfl) rfl ?_
                refine r_if_le (tgt := 175) C (dk oX6_spread 82 rfl) (by decide) (fun hb158 => ?_) (fun hb158 => ?_)
                · rw [show (0 : Int32) = nI 0 from rfl] at hb158
                  simp (disch := omega) only [nI_leI, nI_ltI, nI_eq, nI_eq0] at hb158
                  refine hret (dk oX6_spread 92 rfl) ?_
                  first
                    | (refine ⟨rfl, hF5, fun c hc2 => ?_⟩
                       rw [hE c, hsp c, show w * (1000 - sh f) / 1000 = 0 by omega, spN_0, Nat.add_zero]
                       exact hV5 c hc2)
                    | (refine ⟨rfl, fun k hk => (hF6 k hk).trans (hF5 k hk), fun c hc2 => ?_⟩
                       rw [hE c, hsp c, hV6 c hc2]
                       congr 1
                       omega)
                · rw [show (0 : Int32) = nI 0 from rfl] at hb158
                  simp (disch := omega) only [nI_leI, nI_ltI, nI_eq, nI_eq0] at hb158
                  refine r_aload_n C 2 (dk oX6_spread 83 rfl) rfl ?_
                  refine r_aload_n C 3 (dk oX6_spread 84 rfl) rfl ?_
                  refine r_aload_n C 4 (dk oX6_spread 85 rfl) rfl ?_
                  refine r_iload C 7 (dk oX6_spread 86 rfl) rfl ?_
                  refine r_iconst C (dk oX6_spread 87 rfl) (v := nI 1) (by decide) ?_
                  refine r_iadd C (dk oX6_spread 88 rfl) ?_
                  rw [nI_add, show f + 1 = 12 - (11 - f) by omega]
                  refine r_iload C 5 (dk oX6_spread 89 rfl) rfl ?_
                  refine r_iload C 0 (dk oX6_spread 90 rfl) rfl ?_
                  refine r_isv C Z (dk oX6_spread 91 rfl) cl_X6_66 st_X6_spread (hR (11 - f) (by omega) I5 J (hc.cp (smC.rf (fun k a c => hF5 k (by omega)) (fun k _ _ => rfl))) (by rw [hF5 _ (by decide)]; exact h6) (by rw [hF5 _ (by decide)]; exact h7) (by rw [hF5 _ (by decide)]; exact h8) (fun f hf => by rw [hF5 _ (by decide)]; exact hS f hf) _ hV5 shown (w * (1000 - sh f) / 1000) hshown (by omega)) rfl rfl (Nat.le_of_ble_eq_true rfl) (rmR2 (by omega) (by decide)) ⟨Nat.zero_le _, Nat.zero_le _⟩ (fun I172 J172 h172 => ?_)
                  obtain ⟨e2_, hF6, hV6⟩ := h172
                  have e2_ := e2_.symm
                  subst e2_
                  refine hret (dk oX6_spread 92 rfl) ?_
                  first
                    | (refine ⟨rfl, hF5, fun c hc2 => ?_⟩
                       rw [hE c, hsp c, show w * (1000 - sh f) / 1000 = 0 by omega, spN_0, Nat.add_zero]
                       exact hV5 c hc2)
                    | (refine ⟨rfl, fun k hk => (hF6 k hk).trans (hF5 k hk), fun c hc2 => ?_⟩
                       rw [hE c, hsp c, hV6 c hc2]
                       congr 1
                       omega)
              · rw [show (0 : Int32) = nI 0 from rfl] at hb134
                simp (disch := omega) only [nI_leI, nI_ltI, nI_eq, nI_eq0] at hb134
                refine r_aload_n C 2 (dk oX6_spread 68 rfl) rfl ?_
                refine r_aload_n C 3 (dk oX6_spread 69 rfl) rfl ?_
                refine r_aload_n C 4 (dk oX6_spread 70 rfl) rfl ?_
                refine r_iload C 7 (dk oX6_spread 71 rfl) rfl ?_
                refine r_iconst C (dk oX6_spread 72 rfl) (v := nI 1) (by decide) ?_
                refine r_iadd C (dk oX6_spread 73 rfl) ?_
                rw [nI_add]
                refine r_iload C 5 (dk oX6_spread 74 rfl) rfl ?_
                refine r_iconst C (dk oX6_spread 75 rfl) (v := nI 1) (by decide) ?_
                refine r_iload C 7 (dk oX6_spread 76 rfl) rfl ?_
                refine r_ishl C (dk oX6_spread 77 rfl) ?_
                refine r_ior C (dk oX6_spread 78 rfl) ?_
                rw [or_bit (by omega), show f + 1 = 12 - (11 - f) by omega]
                refine r_iload C 1 (dk oX6_spread 79 rfl) rfl ?_
                refine r_isv C Z (dk oX6_spread 80 rfl) cl_X6_66 st_X6_spread (hR (11 - f) (by omega) I J hc h6 h7 h8 hS v hv (shown ||| 2 ^ f) (w * sh f / 1000) hl1 (by omega)) rfl rfl (Nat.le_of_ble_eq_true rfl) (rmR2 (by omega) (by decide)) ⟨Nat.zero_le _, Nat.zero_le _⟩ (fun I153 J153 h153 => ?_)
                obtain ⟨e2_, hF5, hV5⟩ := h153
                have e2_ := e2_.symm
                subst e2_
                generalize I153 = I5 at hF5 hV5
                refine r_iload C 0 (dk oX6_spread 81 rfl) rfl ?_
                refine r_if_le (tgt := 175) C (dk oX6_spread 82 rfl) (by decide) (fun hb158 => ?_) (fun hb158 => ?_)
                · rw [show (0 : Int32) = nI 0 from rfl] at hb158
                  simp (disch := omega) only [nI_leI, nI_ltI, nI_eq, nI_eq0] at hb158
                  refine hret (dk oX6_spread 92 rfl) ?_
                  first
                    | (refine ⟨rfl, hF5, fun c hc2 => ?_⟩
                       rw [hE c, hsp c, show w * (1000 - sh f) / 1000 = 0 by omega, spN_0, Nat.add_zero]
                       exact hV5 c hc2)
                    | (refine ⟨rfl, fun k hk => (hF6 k hk).trans (hF5 k hk), fun c hc2 => ?_⟩
                       rw [hE c, hsp c, hV6 c hc2]
                       congr 1
                       omega)
                · rw [show (0 : Int32) = nI 0 from rfl] at hb158
                  simp (disch := omega) only [nI_leI, nI_ltI, nI_eq, nI_eq0] at hb158
                  refine r_aload_n C 2 (dk oX6_spread 83 rfl) rfl ?_
                  refine r_aload_n C 3 (dk oX6_spread 84 rfl) rfl ?_
                  refine r_aload_n C 4 (dk oX6_spread 85 rfl) rfl ?_
                  refine r_iload C 7 (dk oX6_spread 86 rfl) rfl ?_
                  refine r_iconst C (dk oX6_spread 87 rfl) (v := nI 1) (by decide) ?_
                  refine r_iadd C (dk oX6_spread 88 rfl) ?_
                  rw [nI_add, show f + 1 = 12 - (11 - f) by omega]
                  refine r_iload C 5 (dk oX6_spread 89 rfl) rfl ?_
                  refine r_iload C 0 (dk oX6_spread 90 rfl) rfl ?_
                  refine r_isv C Z (dk oX6_spread 91 rfl) cl_X6_66 st_X6_spread (hR (11 - f) (by omega) I5 J (hc.cp (smC.rf (fun k a c => hF5 k (by omega)) (fun k _ _ => rfl))) (by rw [hF5 _ (by decide)]; exact h6) (by rw [hF5 _ (by decide)]; exact h7) (by rw [hF5 _ (by decide)]; exact h8) (fun f hf => by rw [hF5 _ (by decide)]; exact hS f hf) _ hV5 shown (w * (1000 - sh f) / 1000) hshown (by omega)) rfl rfl (Nat.le_of_ble_eq_true rfl) (rmR2 (by omega) (by decide)) ⟨Nat.zero_le _, Nat.zero_le _⟩ (fun I172 J172 h172 => ?_)
                  obtain ⟨e2_, hF6, hV6⟩ := h172
                  have e2_ := e2_.symm
                  subst e2_
                  refine hret (dk oX6_spread 92 rfl) ?_
                  first
                    | (refine ⟨rfl, hF5, fun c hc2 => ?_⟩
                       rw [hE c, hsp c, show w * (1000 - sh f) / 1000 = 0 by omega, spN_0, Nat.add_zero]
                       exact hV5 c hc2)
                    | (refine ⟨rfl, fun k hk => (hF6 k hk).trans (hF5 k hk), fun c hc2 => ?_⟩
                       rw [hE c, hsp c, hV6 c hc2]
                       congr 1
                       omega)
        · first
            | (exfalso; simp (disch := omega) only [nI_leI, nI_ltI, nI_eq, nI_eq0] at hb32; omega)
            | simp (disch := omega) only [nI_leI, nI_ltI, nI_eq, nI_eq0] at hb32
              refine r_aload_n C 2 (dk oX6_spread 15 rfl) rfl ?_
              refine r_iload C 3 (dk oX6_spread 16 rfl) rfl ?_
              refine r_ivi C Z (dk oX6_spread 17 rfl) cl_X6_79 ci_X2_soBy rfl (kn hn rfl) (c45_X2_soBy hn I J shown A_ N_ h8 h7) rfl rfl (Nat.le_of_ble_eq_true rfl) (rmR2 (by omega) (by decide)) ⟨Nat.zero_le _, Nat.zero_le _⟩ (fun r38 I38 J38 h38 => ?_)
              obtain ⟨h38, e1_, e2_⟩ := h38
              have e1_ := e1_.symm
              have e2_ := e2_.symm
              subst e1_
              subst e2_
              subst h38
              have hso : A_ ||| (shown ^^^ N_) < 4096 := or_lt12 hA (xor_lt12 hshown hN)
              refine r_istore (lo' := [(7, _), (0, _), (1, _), (2, _), (4, _), (5, _), (6, _)]) C (dk oX6_spread 18 rfl) (by decide) rfl ?_
              refine r_iconst C (dk oX6_spread 19 rfl) (v := nI 0) (by decide) ?_
              refine r_istore (lo' := [(8, _), (7, _), (0, _), (1, _), (2, _), (4, _), (5, _), (6, _)]) C (dk oX6_spread 20 rfl) (by decide) rfl ?_
              have L46 : ∀ (d_ : Nat) (c_ : Nat) (I3 : MI), nc - c_ < d_ → c_ ≤ nc → (∀ k, k ≠ 54 → I3 k = I k) → (∀ c, c < c_ → I3 54 c = nI (v c + (if evC (cd c) (A_ ||| (shown ^^^ N_)) = true then w else 0))) → (∀ c, c_ ≤ c → c < nc → I3 54 c = nI (v c)) → V p l e (rmL (2 + m_)) s m args below meth c Q D A 9 0 0 n ad (mE cA ad I3 J) 46 [(0, .ref (ad 52)), (1, .ref (ad 9)), (2, .ref (ad 45)), (4, .int (nI shown)), (5, .int (nI w)), (7, .int (nI (A_ ||| (shown ^^^ N_)))), (8, .int (nI c_))] [] := by
                intro d_
                induction d_ with
                | zero => intros; exact absurd (by assumption) (Nat.not_lt_zero _)
                | succ d_ ih => 
                  intro c_ I3 hd3 hcn hF hV hV2
                  refine r_iload C 6 (dk oX6_spread 21 rfl) rfl ?_
                  refine r_aload_n C 1 (dk oX6_spread 22 rfl) rfl ?_
                  refine r_getI C (dk oX6_spread 23 rfl) fl_X6_70 rfl (kn hn rfl) ?_
                  rw [hF 9 (by decide), hc.2.1]
                  refine r_icmp_ge (tgt := 95) C (dk oX6_spread 24 rfl) (by decide) (fun hb52 => ?_) (fun hb52 => ?_)
                  · simp (disch := omega) only [nI_leI, nI_ltI, nI_eq, nI_eq0] at hb52
                    refine hret (dk oX6_spread 45 rfl) ?_
                    refine ⟨rfl, hF, fun c hc2 => ?_⟩
                    rw [hV c (by omega), hE c, show 12 - f = 0 by omega]
                    rfl
                  · simp (disch := omega) only [nI_leI, nI_ltI, nI_eq, nI_eq0] at hb52
                    refine r_iload C 6 (dk oX6_spread 25 rfl) rfl ?_
                    refine r_bipush C (dk oX6_spread 26 rfl) (v := nI 6) (by decide) ?_
                    refine r_icmp_ge (tgt := 95) C (dk oX6_spread 27 rfl) (by decide) (fun hb59 => absurd hb59 (by have := hc.1; rw [nI_leI (by omega) (by omega)]; omega)) (fun hb59 => ?_)
                    refine r_aload_n C 0 (dk oX6_spread 28 rfl) rfl ?_
                    refine r_getR C (dk oX6_spread 29 rfl) fl_X6_15 rfl (kn hn rfl) ?_
                    refine r_iload C 6 (dk oX6_spread 30 rfl) rfl ?_
                    refine r_dup2 C (dk oX6_spread 31 rfl) rfl rfl ?_
                    refine r_iald C _ (dk oX6_spread 32 rfl) rfl (kn hn rfl) rfl (by have := hc.1; omega) (by decide) ?_
                    rw [hV2 c_ (Nat.le_refl _) (by omega)]
                    refine r_aload_n C 1 (dk oX6_spread 33 rfl) rfl ?_
                    refine r_iload C 6 (dk oX6_spread 34 rfl) rfl ?_
                    refine r_iload C 5 (dk oX6_spread 35 rfl) rfl ?_
                    refine r_ivi C Z (dk oX6_spread 36 rfl) cl_X6_83 ci_X1_isOwed rfl (kn hn rfl) (c_X1_isOwed hn I3 J c_ (A_ ||| (shown ^^^ N_)) (cd c_) (by have := hc.1; omega) hso (hc.2.2 c_ (by omega)).2.2.2) rfl rfl (Nat.le_of_ble_eq_true rfl) (rmR2 (by omega) (by decide)) ⟨Nat.zero_le _, Nat.zero_le _⟩ (fun r75 I75 J75 h75 => ?_)
                    obtain ⟨h75, e1_, e2_⟩ := h75
                    have e1_ := e1_.symm
                    have e2_ := e2_.symm
                    subst e1_
                    subst e2_
                    subst h75
                    refine r_if_eq (tgt := 86) C (dk oX6_spread 37 rfl) (by decide) (fun hb78 => ?_) (fun hb78 => ?_)
                    · rw [b32_0] at hb78
                      refine r_iconst C (dk oX6_spread 40 rfl) (v := nI 0) (by decide) ?_
                      refine r_topI (show nI 0 = nI (if evC (cd c_) (A_ ||| (shown ^^^ N_)) = true then w else 0) from by rw [if_neg (by rw [hb78]; decide)]) ?_
                      refine r_iadd C (dk oX6_spread 41 rfl) ?_
                      rw [nI_add]
                      refine r_iast C _ (dk oX6_spread 42 rfl) rfl (kn hn rfl) rfl (by have := hc.1; omega) (by decide) ?_
                      refine r_iinc (lo' := [(8, _), (0, _), (1, _), (2, _), (4, _), (5, _), (7, _)]) C 6 (dk oX6_spread 43 rfl) rfl (by first | exact nI_inc _ | rfl) (by decide) rfl ?_
                      refine r_goto (tgt := 46) C (dk oX6_spread 44 rfl) (by decide) ?_
                      refine V.sub [1, 2, 3, 4, 5, 6, 0] rfl ?_
                      refine ih (c_ + 1) _ (by omega) (by omega) (fun k hk => by rw [up2_ne hk]; exact hF k hk) (fun c hc2 => ?_) (fun c hc2 hc3 => by rw [up2_off (by omega)]; exact hV2 c (by omega) hc3)
                      by_cases e : c = c_
                      · rw [e, up2_at]
                      · rw [up2_off e]; exact hV c (by omega)
                    · rw [b32_n] at hb78
                      refine r_iload C 4 (dk oX6_spread 38 rfl) rfl ?_
                      refine r_topI (show nI w = nI (if evC (cd c_) (A_ ||| (shown ^^^ N_)) = true then w else 0) from by rw [if_pos hb78]) ?_
                      refine r_goto (tgt := 87) C (dk oX6_spread 39 rfl) (by decide) ?_
                      refine r_iadd C (dk oX6_spread 41 rfl) ?_
                      rw [nI_add]
                      refine r_iast C _ (dk oX6_spread 42 rfl) rfl (kn hn rfl) rfl (by have := hc.1; omega) (by decide) ?_
                      refine r_iinc (lo' := [(8, _), (0, _), (1, _), (2, _), (4, _), (5, _), (7, _)]) C 6 (dk oX6_spread 43 rfl) rfl (by first | exact nI_inc _ | rfl) (by decide) rfl ?_
                      refine r_goto (tgt := 46) C (dk oX6_spread 44 rfl) (by decide) ?_
                      refine V.sub [1, 2, 3, 4, 5, 6, 0] rfl ?_
                      refine ih (c_ + 1) _ (by omega) (by omega) (fun k hk => by rw [up2_ne hk]; exact hF k hk) (fun c hc2 => ?_) (fun c hc2 hc3 => by rw [up2_off (by omega)]; exact hV2 c (by omega) hc3)
                      by_cases e : c = c_
                      · rw [e, up2_at]
                      · rw [up2_off e]; exact hV c (by omega)
              refine V.sub [2, 3, 4, 5, 6, 1, 0] rfl ?_
              exact L46 (nc + 1) 0 I (by omega) (Nat.zero_le _) (fun k _ => rfl) (fun c hc2 => absurd hc2 (Nat.not_lt_zero _)) (fun c _ hc2 => hv c hc2)
      · simp (disch := omega) only [nI_leI, nI_ltI, nI_eq, nI_eq0] at hb7
        refine r_aload_n C 2 (dk oX6_spread 5 rfl) rfl ?_
        refine r_getI C (dk oX6_spread 6 rfl) fl_X6_76 rfl (kn hn rfl) ?_
        rw [h6]
        refine r_iload C 5 (dk oX6_spread 7 rfl) rfl ?_
        refine r_isi C Z (dk oX6_spread 8 rfl) cl_X6_31 st_X9_has (c_X9_has I J op f (by omega) (by omega)) rfl rfl (Nat.le_of_ble_eq_true rfl) (rmR2 (by omega) (by decide)) ⟨Nat.zero_le _, Nat.zero_le _⟩ (fun r16 I16 J16 h16 => ?_)
        obtain ⟨h16, e1_, e2_⟩ := h16
        have e1_ := e1_.symm
        have e2_ := e2_.symm
        subst e1_
        subst e2_
        subst h16
        refine r_if_ne (tgt := 28) C (dk oX6_spread 9 rfl) (by decide) (fun hb19 => ?_) (fun hb19 => ?_)
        · rw [b32_n] at hb19
          refine r_iload C 5 (dk oX6_spread 12 rfl) rfl ?_
          refine r_bipush C (dk oX6_spread 13 rfl) (v := nI 12) (by decide) ?_
          refine r_icmp_lt (tgt := 96) C (dk oX6_spread 14 rfl) (by decide) (fun hb32 => ?_) (fun hb32 => ?_)
          · first
              | (exfalso; simp (disch := omega) only [nI_leI, nI_ltI, nI_eq, nI_eq0] at hb32; omega)
              | simp (disch := omega) only [nI_leI, nI_ltI, nI_eq, nI_eq0] at hb32
                have hf : f < 12 := by omega
                refine r_iload C 4 (dk oX6_spread 46 rfl) rfl ?_
                refine r_aload_n C 0 (dk oX6_spread 47 rfl) rfl ?_
                refine r_getR C (dk oX6_spread 48 rfl) fl_X6_9 rfl (kn hn rfl) ?_
                refine r_iload C 5 (dk oX6_spread 49 rfl) rfl ?_
                refine r_iald C _ (dk oX6_spread 50 rfl) rfl (kn hn rfl) rfl (by omega) (by decide) ?_
                rw [hS _ (by omega)]
                have hs1 := hsh f
                refine r_imul C (dk oX6_spread 51 rfl) ?_
                rw [pk_mul]
                have hm1 : w * sh f ≤ 1000000 * 1000 := Nat.mul_le_mul hw hs1
                refine r_sipush C (dk oX6_spread 52 rfl) (v := nI 1000) (by decide) ?_
                refine r_idiv C (dk oX6_spread 53 rfl) (by decide) ?_
                rw [pk_div (by omega) (by decide) (by decide)]
                refine r_istore (lo' := [(7, _), (0, _), (1, _), (2, _), (4, _), (5, _), (6, _)]) C (dk oX6_spread 54 rfl) (by decide) rfl ?_
                refine r_iload C 5 (dk oX6_spread 55 rfl) rfl ?_
                refine r_sipush C (dk oX6_spread 56 rfl) (v := nI 1000) (by decide) ?_
                refine r_aload_n C 1 (dk oX6_spread 57 rfl) rfl ?_
                refine r_getR C (dk oX6_spread 58 rfl) fl_X6_9 rfl (kn hn rfl) ?_
                refine r_iload C 6 (dk oX6_spread 59 rfl) rfl ?_
                refine r_iald C _ (dk oX6_spread 60 rfl) rfl (kn hn rfl) rfl (by omega) (by decide) ?_
                rw [hS _ (by omega)]
                refine r_isub C (dk oX6_spread 61 rfl) ?_
                rw [pk_sub hs1]
                refine r_imul C (dk oX6_spread 62 rfl) ?_
                rw [pk_mul]
                have hm2 : w * (1000 - sh f) ≤ 1000000 * 1000 := Nat.mul_le_mul hw (by omega)
                refine r_sipush C (dk oX6_spread 63 rfl) (v := nI 1000) (by decide) ?_
                refine r_idiv C (dk oX6_spread 64 rfl) (by decide) ?_
                rw [pk_div (by omega) (by decide) (by decide)]
                have hop2 : op.testBit (12 - ((11 - f) + 1)) = true := by rw [show 12 - ((11 - f) + 1) = f by omega]; exact hb19
                have hsp : ∀ c, spN op sh (fun x => evC (cd c) (A_ ||| (x ^^^ N_))) (12 - f) shown w = spN op sh (fun x => evC (cd c) (A_ ||| (x ^^^ N_))) (11 - f) (shown ||| 2 ^ f) (w * sh f / 1000) + spN op sh (fun x => evC (cd c) (A_ ||| (x ^^^ N_))) (11 - f) shown (w * (1000 - sh f) / 1000) := fun c => by
                  rw [show 12 - f = (11 - f) + 1 by omega]
                  conv => lhs; unfold spN
                  rw [if_pos hop2, show 12 - ((11 - f) + 1) = f by omega]
                have hl1 : shown ||| 2 ^ f < 4096 := Nat.or_lt_two_pow (n := 12) hshown (Nat.pow_lt_pow_right (by decide) (by omega))
                refine r_istore (lo' := [(8, _), (7, _), (0, _), (1, _), (2, _), (4, _), (5, _), (6, _)]) C (dk oX6_spread 65 rfl) (by decide) rfl ?_
                refine r_iload C 1 (dk oX6_spread 66 rfl) rfl ?_
                refine r_if_le (tgt := 156) C (dk oX6_spread 67 rfl) (by decide) (fun hb134 => ?_) (fun hb134 => ?_)
                · rw [show (0 : Int32) = nI 0 from rfl] at hb134
                  simp (disch := omega) only [nI_leI, nI_ltI, nI_eq, nI_eq0] at hb134
                  obtain ⟨I5, hI5⟩ : ∃ X, X = I := ⟨I, rfl⟩
                  have hF5 : ∀ k, k ≠ 54 → I5 k = I k := fun k _ => by rw [hI5]
                  have hV5 : ∀ c, c < nc → I5 54 c = nI (v c + spN op sh (fun x => evC (cd c) (A_ ||| (x ^^^ N_))) (11 - f) (shown ||| 2 ^ f) (w * sh f / 1000)) := fun c hc2 => by rw [hI5, show w * sh f / 1000 = 0 by omega, spN_0, Nat.add_zero]; exact hv c hc2
                  rw [← hI5]
                  refine r_iload C 0 (dk oX6_spread 81 rfl) rfl ?_
                  refine r_if_le (tgt := 175) C (dk oX6_spread 82 rfl) (by decide) (fun hb158 => ?_) (fun hb158 => ?_)
                  · rw [show (0 : Int32) = nI 0 from rfl] at hb158
                    simp (disch := omega) only [nI_leI, nI_ltI, nI_eq, nI_eq0] at hb158
                    refine hret (dk oX6_spread 92 rfl) ?_
                    first
                      | (refine ⟨rfl, hF5, fun c hc2 => ?_⟩
                         rw [hE c, hsp c, show w * (1000 - sh f) / 1000 = 0 by omega, spN_0, Nat.add_zero]
                         exact hV5 c hc2)
                      | (refine ⟨rfl, fun k hk => (hF6 k hk).trans (hF5 k hk), fun c hc2 => ?_⟩
                         rw [hE c, hsp c, hV6 c hc2]
                         congr 1
                         omega)
                  · rw [show (0 : Int32) = nI 0 from rfl] at hb158
                    simp (disch := omega) only [nI_leI, nI_ltI, nI_eq, nI_eq0] at hb158
                    refine r_aload_n C 2 (dk oX6_spread 83 rfl) rfl ?_
                    refine r_aload_n C 3 (dk oX6_spread 84 rfl) rfl ?_
                    refine r_aload_n C 4 (dk oX6_spread 85 rfl) rfl ?_
                    refine r_iload C 7 (dk oX6_spread 86 rfl) rfl ?_
                    refine r_iconst C (dk oX6_spread 87 rfl) (v := nI 1) (by decide) ?_
                    refine r_iadd C (dk oX6_spread 88 rfl) ?_
                    rw [nI_add, show f + 1 = 12 - (11 - f) by omega]
                    refine r_iload C 5 (dk oX6_spread 89 rfl) rfl ?_
                    refine r_iload C 0 (dk oX6_spread 90 rfl) rfl ?_
                    refine r_isv C Z (dk oX6_spread 91 rfl) cl_X6_66 st_X6_spread (hR (11 - f) (by omega) I5 J (hc.cp (smC.rf (fun k a c => hF5 k (by omega)) (fun k _ _ => rfl))) (by rw [hF5 _ (by decide)]; exact h6) (by rw [hF5 _ (by decide)]; exact h7) (by rw [hF5 _ (by decide)]; exact h8) (fun f hf => by rw [hF5 _ (by decide)]; exact hS f hf) _ hV5 shown (w * (1000 - sh f) / 1000) hshown (by omega)) rfl rfl (Nat.le_of_ble_eq_true rfl) (rmR2 (by omega) (by decide)) ⟨Nat.zero_le _, Nat.zero_le _⟩ (fun I172 J172 h172 => ?_)
                    obtain ⟨e2_, hF6, hV6⟩ := h172
                    have e2_ := e2_.symm
                    subst e2_
                    refine hret (dk oX6_spread 92 rfl) ?_
                    first
                      | (refine ⟨rfl, hF5, fun c hc2 => ?_⟩
                         rw [hE c, hsp c, show w * (1000 - sh f) / 1000 = 0 by omega, spN_0, Nat.add_zero]
                         exact hV5 c hc2)
                      | (refine ⟨rfl, fun k hk => (hF6 k hk).trans (hF5 k hk), fun c hc2 => ?_⟩
                         rw [hE c, hsp c, hV6 c hc2]
                         congr 1
                         omega)
                · rw [show (0 : Int32) = nI 0 from rfl] at hb134
                  simp (disch := omega) only [nI_leI, nI_ltI, nI_eq, nI_eq0] at hb134
                  refine r_aload_n C 2 (dk oX6_spread 68 rfl) rfl ?_
                  refine r_aload_n C 3 (dk oX6_spread 69 rfl) rfl ?_
                  refine r_aload_n C 4 (dk oX6_spread 70 rfl) rfl ?_
                  refine r_iload C 7 (dk oX6_spread 71 rfl) rfl ?_
                  refine r_iconst C (dk oX6_spread 72 rfl) (v := nI 1) (by decide) ?_
                  refine r_iadd C (dk oX6_spread 73 rfl) ?_
                  rw [nI_add]
                  refine r_iload C 5 (dk oX6_spread 74 rfl) rfl ?_
                  refine r_iconst C (dk oX6_spread 75 rfl) (v := nI 1) (by decide) ?_
                  refine r_iload C 7 (dk oX6_spread 76 rfl) rfl ?_
                  refine r_ishl C (dk oX6_spread 77 rfl) ?_
                  refine r_ior C (dk oX6_spread 78 rfl) ?_
                  rw [or_bit (by omega), show f + 1 = 12 - (11 - f) by omega]
                  refine r_iload C 1 (dk oX6_spread 79 rfl) rfl ?_
                  refine r_isv C Z (dk oX6_spread 80 rfl) cl_X6_66 st_X6_spread (hR (11 - f) (by omega) I J hc h6 h7 h8 hS v hv (shown ||| 2 ^ f) (w * sh f / 1000) hl1 (by omega)) rfl rfl (Nat.le_of_ble_eq_true rfl) (rmR2 (by omega) (by decide)) ⟨Nat.zero_le _, Nat.zero_le _⟩ (fun I153 J153 h153 => ?_)
                  obtain ⟨e2_, hF5, hV5⟩ := h153
                  have e2_ := e2_.symm
                  subst e2_
                  generalize I153 = I5 at hF5 hV5
                  refine r_iload C 0 (dk oX6_spread 81 rfl) rfl ?_
                  refine r_if_le (tgt := 175) C (dk oX6_spread 82 rfl) (by decide) (fun hb158 => ?_) (fun hb158 => ?_)
                  · rw [show (0 : Int32) = nI 0 from rfl] at hb158
                    simp (disch := omega) only [nI_leI, nI_ltI, nI_eq, nI_eq0] at hb158
                    refine hret (dk oX6_spread 92 rfl) ?_
                    first
                      | (refine ⟨rfl, hF5, fun c hc2 => ?_⟩
                         rw [hE c, hsp c, show w * (1000 - sh f) / 1000 = 0 by omega, spN_0, Nat.add_zero]
                         exact hV5 c hc2)
                      | (refine ⟨rfl, fun k hk => (hF6 k hk).trans (hF5 k hk), fun c hc2 => ?_⟩
                         rw [hE c, hsp c, hV6 c hc2]
                         congr 1
                         omega)
                  · rw [show (0 : Int32) = nI 0 from rfl] at hb158
                    simp (disch := omega) only [nI_leI, nI_ltI, nI_eq, nI_eq0] at hb158
                    refine r_aload_n C 2 (dk oX6_spread 83 rfl) rfl ?_
                    refine r_aload_n C 3 (dk oX6_spread 84 rfl) rfl ?_
                    refine r_aload_n C 4 (dk oX6_spread 85 rfl) rfl ?_
                    refine r_iload C 7 (dk oX6_spread 86 rfl) rfl ?_
                    refine r_iconst C (dk oX6_spread 87 rfl) (v := nI 1) (by decide) ?_
                    refine r_iadd C (dk oX6_spread 88 rfl) ?_
                    rw [nI_add, show f + 1 = 12 - (11 - f) by omega]
                    refine r_iload C 5 (dk oX6_spread 89 rfl) rfl ?_
                    refine r_iload C 0 (dk oX6_spread 90 rfl) rfl ?_
                    refine r_isv C Z (dk oX6_spread 91 rfl) cl_X6_66 st_X6_spread (hR (11 - f) (by omega) I5 J (hc.cp (smC.rf (fun k a c => hF5 k (by omega)) (fun k _ _ => rfl))) (by rw [hF5 _ (by decide)]; exact h6) (by rw [hF5 _ (by decide)]; exact h7) (by rw [hF5 _ (by decide)]; exact h8) (fun f hf => by rw [hF5 _ (by decide)]; exact hS f hf) _ hV5 shown (w * (1000 - sh f) / 1000) hshown (by omega)) rfl rfl (Nat.le_of_ble_eq_true rfl) (rmR2 (by omega) (by decide)) ⟨Nat.zero_le _, Nat.zero_le _⟩ (fun I172 J172 h172 => ?_)
                    obtain ⟨e2_, hF6, hV6⟩ := h172
                    have e2_ := e2_.symm
                    subst e2_
                    refine hret (dk oX6_spread 92 rfl) ?_
                    first
                      | (refine ⟨rfl, hF5, fun c hc2 => ?_⟩
                         rw [hE c, hsp c, show w * (1000 - sh f) / 1000 = 0 by omega, spN_0, Nat.add_zero]
                         exact hV5 c hc2)
                      | (refine ⟨rfl, fun k hk => (hF6 k hk).trans (hF5 k hk), fun c hc2 => ?_⟩
                         rw [hE c, hsp c, hV6 c hc2]
                         congr 1
                         omega)
          · first
              | (exfalso; simp (disch := omega) only [nI_leI, nI_ltI, nI_eq, nI_eq0] at hb32; omega)
              | simp (disch := omega) only [nI_leI, nI_ltI, nI_eq, nI_eq0] at hb32
                refine r_aload_n C 2 (dk oX6_spread 15 rfl) rfl ?_
                refine r_iload C 3 (dk oX6_spread 16 rfl) rfl ?_
                refine r_ivi C Z (dk oX6_spread 17 rfl) cl_X6_79 ci_X2_soBy rfl (kn hn rfl) (c45_X2_soBy hn I J shown A_ N_ h8 h7) rfl rfl (Nat.le_of_ble_eq_true rfl) (rmR2 (by omega) (by decide)) ⟨Nat.zero_le _, Nat.zero_le _⟩ (fun r38 I38 J38 h38 => ?_)
                obtain ⟨h38, e1_, e2_⟩ := h38
                have e1_ := e1_.symm
                have e2_ := e2_.symm
                subst e1_
                subst e2_
                subst h38
                have hso : A_ ||| (shown ^^^ N_) < 4096 := or_lt12 hA (xor_lt12 hshown hN)
                refine r_istore (lo' := [(7, _), (0, _), (1, _), (2, _), (4, _), (5, _), (6, _)]) C (dk oX6_spread 18 rfl) (by decide) rfl ?_
                refine r_iconst C (dk oX6_spread 19 rfl) (v := nI 0) (by decide) ?_
                refine r_istore (lo' := [(8, _), (7, _), (0, _), (1, _), (2, _), (4, _), (5, _), (6, _)]) C (dk oX6_spread 20 rfl) (by decide) rfl ?_
                have L46 : ∀ (d_ : Nat) (c_ : Nat) (I3 : MI), nc - c_ < d_ → c_ ≤ nc → (∀ k, k ≠ 54 → I3 k = I k) → (∀ c, c < c_ → I3 54 c = nI (v c + (if evC (cd c) (A_ ||| (shown ^^^ N_)) = true then w else 0))) → (∀ c, c_ ≤ c → c < nc → I3 54 c = nI (v c)) → V p l e (rmL (2 + m_)) s m args below meth c Q D A 9 0 0 n ad (mE cA ad I3 J) 46 [(0, .ref (ad 52)), (1, .ref (ad 9)), (2, .ref (ad 45)), (4, .int (nI shown)), (5, .int (nI w)), (7, .int (nI (A_ ||| (shown ^^^ N_)))), (8, .int (nI c_))] [] := by
                  intro d_
                  induction d_ with
                  | zero => intros; exact absurd (by assumption) (Nat.not_lt_zero _)
                  | succ d_ ih => 
                    intro c_ I3 hd3 hcn hF hV hV2
                    refine r_iload C 6 (dk oX6_spread 21 rfl) rfl ?_
                    refine r_aload_n C 1 (dk oX6_spread 22 rfl) rfl ?_
                    refine r_getI C (dk oX6_spread 23 rfl) fl_X6_70 rfl (kn hn rfl) ?_
                    rw [hF 9 (by decide), hc.2.1]
                    refine r_icmp_ge (tgt := 95) C (dk oX6_spread 24 rfl) (by decide) (fun hb52 => ?_) (fun hb52 => ?_)
                    · simp (disch := omega) only [nI_leI, nI_ltI, nI_eq, nI_eq0] at hb52
                      refine hret (dk oX6_spread 45 rfl) ?_
                      refine ⟨rfl, hF, fun c hc2 => ?_⟩
                      rw [hV c (by omega), hE c, show 12 - f = 0 by omega]
                      rfl
                    · simp (disch := omega) only [nI_leI, nI_ltI, nI_eq, nI_eq0] at hb52
                      refine r_iload C 6 (dk oX6_spread 25 rfl) rfl ?_
                      refine r_bipush C (dk oX6_spread 26 rfl) (v := nI 6) (by decide) ?_
                      refine r_icmp_ge (tgt := 95) C (dk oX6_spread 27 rfl) (by decide) (fun hb59 => absurd hb59 (by have := hc.1; rw [nI_leI (by omega) (by omega)]; omega)) (fun hb59 => ?_)
                      refine r_aload_n C 0 (dk oX6_spread 28 rfl) rfl ?_
                      refine r_getR C (dk oX6_spread 29 rfl) fl_X6_15 rfl (kn hn rfl) ?_
                      refine r_iload C 6 (dk oX6_spread 30 rfl) rfl ?_
                      refine r_dup2 C (dk oX6_spread 31 rfl) rfl rfl ?_
                      refine r_iald C _ (dk oX6_spread 32 rfl) rfl (kn hn rfl) rfl (by have := hc.1; omega) (by decide) ?_
                      rw [hV2 c_ (Nat.le_refl _) (by omega)]
                      refine r_aload_n C 1 (dk oX6_spread 33 rfl) rfl ?_
                      refine r_iload C 6 (dk oX6_spread 34 rfl) rfl ?_
                      refine r_iload C 5 (dk oX6_spread 35 rfl) rfl ?_
                      refine r_ivi C Z (dk oX6_spread 36 rfl) cl_X6_83 ci_X1_isOwed rfl (kn hn rfl) (c_X1_isOwed hn I3 J c_ (A_ ||| (shown ^^^ N_)) (cd c_) (by have := hc.1; omega) hso (hc.2.2 c_ (by omega)).2.2.2) rfl rfl (Nat.le_of_ble_eq_true rfl) (rmR2 (by omega) (by decide)) ⟨Nat.zero_le _, Nat.zero_le _⟩ (fun r75 I75 J75 h75 => ?_)
                      obtain ⟨h75, e1_, e2_⟩ := h75
                      have e1_ := e1_.symm
                      have e2_ := e2_.symm
                      subst e1_
                      subst e2_
                      subst h75
                      refine r_if_eq (tgt := 86) C (dk oX6_spread 37 rfl) (by decide) (fun hb78 => ?_) (fun hb78 => ?_)
                      · rw [b32_0] at hb78
                        refine r_iconst C (dk oX6_spread 40 rfl) (v := nI 0) (by decide) ?_
                        refine r_topI (show nI 0 = nI (if evC (cd c_) (A_ ||| (shown ^^^ N_)) = true then w else 0) from by rw [if_neg (by rw [hb78]; decide)]) ?_
                        refine r_iadd C (dk oX6_spread 41 rfl) ?_
                        rw [nI_add]
                        refine r_iast C _ (dk oX6_spread 42 rfl) rfl (kn hn rfl) rfl (by have := hc.1; omega) (by decide) ?_
                        refine r_iinc (lo' := [(8, _), (0, _), (1, _), (2, _), (4, _), (5, _), (7, _)]) C 6 (dk oX6_spread 43 rfl) rfl (by first | exact nI_inc _ | rfl) (by decide) rfl ?_
                        refine r_goto (tgt := 46) C (dk oX6_spread 44 rfl) (by decide) ?_
                        refine V.sub [1, 2, 3, 4, 5, 6, 0] rfl ?_
                        refine ih (c_ + 1) _ (by omega) (by omega) (fun k hk => by rw [up2_ne hk]; exact hF k hk) (fun c hc2 => ?_) (fun c hc2 hc3 => by rw [up2_off (by omega)]; exact hV2 c (by omega) hc3)
                        by_cases e : c = c_
                        · rw [e, up2_at]
                        · rw [up2_off e]; exact hV c (by omega)
                      · rw [b32_n] at hb78
                        refine r_iload C 4 (dk oX6_spread 38 rfl) rfl ?_
                        refine r_topI (show nI w = nI (if evC (cd c_) (A_ ||| (shown ^^^ N_)) = true then w else 0) from by rw [if_pos hb78]) ?_
                        refine r_goto (tgt := 87) C (dk oX6_spread 39 rfl) (by decide) ?_
                        refine r_iadd C (dk oX6_spread 41 rfl) ?_
                        rw [nI_add]
                        refine r_iast C _ (dk oX6_spread 42 rfl) rfl (kn hn rfl) rfl (by have := hc.1; omega) (by decide) ?_
                        refine r_iinc (lo' := [(8, _), (0, _), (1, _), (2, _), (4, _), (5, _), (7, _)]) C 6 (dk oX6_spread 43 rfl) rfl (by first | exact nI_inc _ | rfl) (by decide) rfl ?_
                        refine r_goto (tgt := 46) C (dk oX6_spread 44 rfl) (by decide) ?_
                        refine V.sub [1, 2, 3, 4, 5, 6, 0] rfl ?_
                        refine ih (c_ + 1) _ (by omega) (by omega) (fun k hk => by rw [up2_ne hk]; exact hF k hk) (fun c hc2 => ?_) (fun c hc2 hc3 => by rw [up2_off (by omega)]; exact hV2 c (by omega) hc3)
                        by_cases e : c = c_
                        · rw [e, up2_at]
                        · rw [up2_off e]; exact hV c (by omega)
                refine V.sub [2, 3, 4, 5, 6, 1, 0] rfl ?_
                exact L46 (nc + 1) 0 I (by omega) (Nat.zero_le _) (fun k _ => rfl) (fun c hc2 => absurd hc2 (Nat.not_lt_zero _)) (fun c _ hc2 => hv c hc2)
        · rw [b32_0] at hb19
          refine r_iinc (lo' := [(6, _), (0, _), (1, _), (2, _), (4, _), (5, _)]) C 5 (dk oX6_spread 10 rfl) rfl (by first | exact nI_inc _ | rfl) (by decide) rfl ?_
          refine r_goto (tgt := 3) C (dk oX6_spread 11 rfl) (by decide) ?_
          refine V.sub [1, 2, 3, 4, 5, 0] rfl ?_
          exact ih (f + 1) (by omega) (by omega) (by omega) (fun c => by
            rw [hE c, show 12 - f = (11 - f) + 1 by omega, spN_skip (by rw [show 12 - ((11 - f) + 1) = f by omega]; exact hb19), show 12 - (f + 1) = 11 - f by omega])
  refine V.sub [1, 2, 3, 5, 6, 0] rfl ?_
  exact L3 13 (12 - m_) (by omega) (by omega) (Nat.le_refl _) (fun c => by rw [show 12 - (12 - m_) = m_ by omega])

theorem c45_X6_spread (hn : 117 ≤ n) (op A_ N_ : Nat) (hop : op < 4096) (hA : A_ < 4096) (hN : N_ < 4096) (sh : Nat → Nat) (hsh : ∀ f, sh f ≤ 1000) (nc : Nat) (co : Nat → Int32) (cd : Nat → List Nat) : ∀ k, k ≤ 12 → ∀ m_, m_ ≤ k → SP45 l n ad cA D z op A_ N_ sh nc co cd m_
  | 0, _, m_, hm => fun I J hc h6 h7 h8 hS v hv shown w h1 h2 => c45_X6_spread_at hn op A_ N_ hop hA hN sh hsh nc co cd m_ (by omega) (fun m hm2 => by omega) I J hc h6 h7 h8 hS v hv shown w h1 h2
  | k + 1, hk, m_, hm => fun I J hc h6 h7 h8 hS v hv shown w h1 h2 => c45_X6_spread_at hn op A_ N_ hop hA hN sh hsh nc co cd m_ (by omega) (fun m hm2 => c45_X6_spread hn op A_ N_ hop hA hN sh hsh nc co cd k (by omega) m (by omega)) I J hc h6 h7 h8 hS v hv shown w h1 h2
set_option maxHeartbeats 1000000 in
set_option maxRecDepth 100000 in
theorem c38_X6_weighClaims (hn : 117 ≤ n) (I : MI) (J : MJ) (cl : Clm) (hc : CClm I J 8 cl.1 cl.2.1 cl.2.2) (k_ : Prf) (hK : CPrf I 8 k_.1 k_.2.1 k_.2.2.1 k_.2.2.2.1 k_.2.2.2.2.1 k_.2.2.2.2.2) (Φ : Nat → FS) (hM : Fc I 38 Φ) (B : Nat) (hB : B < 2 ^ 16) : Ci l n ad cA D z 15 yX6_weighClaims cX6_weighClaims 6 .int I J [.ref (ad 52), .ref (ad 8), .ref (ad 38), .int (nI B)] (fun r I' J' => r = wtF cl k_ Φ B ∧ J' = J ∧ (∀ k, k ≠ 53 → k ≠ 54 → I' k = I k) ∧ (∀ f, f < 12 → I' 53 f = nI (shF_ B k_.1 k_.2.1 k_.2.2.1 k_.2.2.2.1 Φ f)) ∧ ∀ c, c < cl.1 → I' 54 c = nI (chF B k_.1 k_.2.1 k_.2.2.1 k_.2.2.2.1 Φ (cl.2.2 c))) := by
  refine Ci.of (by decide) (Nat.le_of_ble_eq_true rfl) ?_
  intro p e s m args below meth c A C hin Z Q hret
  obtain ⟨nc, co, cd⟩ := cl
  have hnc := hc.1
  dsimp only at hc hnc ⊢
  refine r_aload_n C 0 (dk oX6_weighClaims 0 rfl) rfl ?_
  refine r_aload_n C 1 (dk oX6_weighClaims 1 rfl) rfl ?_
  refine r_getR C (dk oX6_weighClaims 2 rfl) fl_X6_51 rfl (kn hn rfl) ?_
  refine r_aload_n C 2 (dk oX6_weighClaims 3 rfl) rfl ?_
  refine r_iload_n C 3 (dk oX6_weighClaims 4 rfl) rfl ?_
  refine r_ivv C Z (dk oX6_weighClaims 5 rfl) cl_X6_57 ci_X6_weighFacts rfl (kn hn rfl) (c38_X6_weighFacts hn I J k_ hK Φ hM.1 B hB) rfl rfl (Nat.le_of_ble_eq_true rfl) ⟨Nat.le_of_ble_eq_true rfl, Nat.le_of_ble_eq_true rfl⟩ ⟨Nat.zero_le _, Nat.zero_le _⟩ (fun I7 J7 h7 => ?_)
  obtain ⟨e2_, hF7, hS7⟩ := h7
  have e2_ := e2_.symm
  subst e2_
  refine r_iconst C (dk oX6_weighClaims 6 rfl) (v := nI 0) (by decide) ?_
  refine r_istore (lo' := [(4, _), (0, _), (1, _), (2, _), (3, _)]) C (dk oX6_weighClaims 7 rfl) (by decide) rfl ?_
  have L13 : ∀ (d_ : Nat) (c_ : Nat) (I1 : MI), 6 - c_ < d_ → c_ ≤ 6 → (∀ k, k ≠ 53 → k ≠ 54 → I1 k = I k) → (∀ f, f < 12 → I1 53 f = nI (shF_ B k_.1 k_.2.1 k_.2.2.1 k_.2.2.2.1 Φ f)) → (∀ c, c < c_ → I1 54 c = nI 0) → V p l e (rmL 15) s m args below meth c Q D A 6 0 0 n ad (mE cA ad I1 J) 13 [(0, .ref (ad 52)), (1, .ref (ad 8)), (2, .ref (ad 38)), (3, .int (nI B)), (4, .int (nI c_))] [] := by
    intro d_
    induction d_ with
    | zero => intros; exact absurd (by assumption) (Nat.not_lt_zero _)
    | succ d_ ih => 
      intro c_ I1 hd_ hc6 hF hS1 hZ
      refine r_iload C 4 (dk oX6_weighClaims 8 rfl) rfl ?_
      refine r_bipush C (dk oX6_weighClaims 9 rfl) (v := nI 6) (by decide) ?_
      refine r_icmp_ge (tgt := 34) C (dk oX6_weighClaims 10 rfl) (by decide) (fun hb17 => ?_) (fun hb17 => ?_)
      · simp (disch := omega) only [nI_leI, nI_ltI, nI_eq, nI_eq0] at hb17
        refine r_aload_n C 0 (dk oX6_weighClaims 18 rfl) rfl ?_
        refine r_aload_n C 1 (dk oX6_weighClaims 19 rfl) rfl ?_
        refine r_getR C (dk oX6_weighClaims 20 rfl) fl_X6_61 rfl (kn hn rfl) ?_
        refine r_aload_n C 2 (dk oX6_weighClaims 21 rfl) rfl ?_
        refine r_iconst C (dk oX6_weighClaims 22 rfl) (v := nI 0) (by decide) ?_
        refine r_iconst C (dk oX6_weighClaims 23 rfl) (v := nI 0) (by decide) ?_
        refine r_ldc C (dk oX6_weighClaims 24 rfl) kn_X6_65 ?_
        rw [show (1000000 : Int32) = nI 1000000 from rfl]
        refine r_isv C Z (dk oX6_weighClaims 25 rfl) cl_X6_66 st_X6_spread (c38_X6_spread hn (opN Φ) (bS (fun f => asB (Φ f)) 12) (bS (fun f => onB (Φ f)) 12) opN_lt (bS_lt 12) (bS_lt 12) (shF_ B k_.1 k_.2.1 k_.2.2.1 k_.2.2.2.1 Φ) (fun _ => shF_le) nc co cd 12 (Nat.le_refl _) 12 (Nat.le_refl _) I1 J (hc.cp (smC.rf (fun k a c => hF k (by omega) (by omega)) (fun k _ _ => rfl))) (by rw [hF _ (by decide) (by decide)]; exact hM.2.1) (by rw [hF _ (by decide) (by decide)]; exact hM.2.2.1) (by rw [hF _ (by decide) (by decide)]; exact hM.2.2.2) hS1 (fun _ => 0) (fun c hc2 => hZ c (by omega)) 0 1000000 (by decide) (Nat.le_refl _)) rfl rfl (Nat.le_of_ble_eq_true rfl) ⟨Nat.le_of_ble_eq_true rfl, Nat.le_of_ble_eq_true rfl⟩ ⟨Nat.zero_le _, Nat.zero_le _⟩ (fun I44 J44 h44 => ?_)
        obtain ⟨e2_, hF44, hV44⟩ := h44
        have e2_ := e2_.symm
        subst e2_
        have hF3 : ∀ k, k ≠ 53 → k ≠ 54 → I44 k = I k := fun k a b => (hF44 k b).trans (hF k a b)
        have hS3 : ∀ f, f < 12 → I44 53 f = nI (shF_ B k_.1 k_.2.1 k_.2.2.1 k_.2.2.2.1 Φ f) := fun f hf => by rw [hF44 53 (by decide)]; exact hS1 f hf
        have hV3 : ∀ c, c < nc → I44 54 c = nI (chF B k_.1 k_.2.1 k_.2.2.1 k_.2.2.2.1 Φ (cd c)) := fun c hc2 => by rw [hV44 c hc2, Nat.zero_add]; rfl
        refine r_iconst C (dk oX6_weighClaims 26 rfl) (v := nI 0) (by decide) ?_
        refine r_istore (lo' := [(4, _), (0, _), (1, _), (2, _), (3, _)]) C (dk oX6_weighClaims 27 rfl) (by decide) rfl ?_
        refine r_iconst C (dk oX6_weighClaims 28 rfl) (v := nI 0) (by decide) ?_
        refine r_istore (lo' := [(5, _), (4, _), (0, _), (1, _), (2, _), (3, _)]) C (dk oX6_weighClaims 29 rfl) (by decide) rfl ?_
        have L53 : ∀ (d_ : Nat) (c_ : Nat), nc - c_ < d_ → c_ ≤ nc → V p l e (rmL 15) s m args below meth c Q D A 6 0 0 n ad (mE cA ad I44 J) 53 [(0, .ref (ad 52)), (1, .ref (ad 8)), (2, .ref (ad 38)), (3, .int (nI B)), (4, .int (wtN co (fun c => chF B k_.1 k_.2.1 k_.2.2.1 k_.2.2.2.1 Φ (cd c)) c_)), (5, .int (nI c_))] [] := by
          intro d_
          induction d_ with
          | zero => intros; exact absurd (by assumption) (Nat.not_lt_zero _)
          | succ d_ ih => 
            intro c_ hd5 hcn
            refine r_iload C 5 (dk oX6_weighClaims 30 rfl) rfl ?_
            refine r_aload_n C 1 (dk oX6_weighClaims 31 rfl) rfl ?_
            refine r_getR C (dk oX6_weighClaims 32 rfl) fl_X6_61 rfl (kn hn rfl) ?_
            refine r_getI C (dk oX6_weighClaims 33 rfl) fl_X6_70 rfl (kn hn rfl) ?_
            rw [hF3 9 (by decide) (by decide), hc.2.1]
            refine r_icmp_ge (tgt := 105) C (dk oX6_weighClaims 34 rfl) (by decide) (fun hb62 => ?_) (fun hb62 => ?_)
            · simp (disch := omega) only [nI_leI, nI_ltI, nI_eq, nI_eq0] at hb62
              refine r_iload C 4 (dk oX6_weighClaims 55 rfl) rfl ?_
              refine hret (dk oX6_weighClaims 56 rfl) rfl ?_
              refine ⟨?_, rfl, hF3, hS3, hV3⟩
              rw [show c_ = nc by omega]; rfl
            · simp (disch := omega) only [nI_leI, nI_ltI, nI_eq, nI_eq0] at hb62
              refine r_iload C 5 (dk oX6_weighClaims 35 rfl) rfl ?_
              refine r_bipush C (dk oX6_weighClaims 36 rfl) (v := nI 6) (by decide) ?_
              refine r_icmp_ge (tgt := 105) C (dk oX6_weighClaims 37 rfl) (by decide) (fun hb69 => absurd hb69 (by rw [nI_leI (by omega) (by omega)]; omega)) (fun hb69 => ?_)
              refine r_iload C 4 (dk oX6_weighClaims 38 rfl) rfl ?_
              refine r_aload_n C 1 (dk oX6_weighClaims 39 rfl) rfl ?_
              refine r_getR C (dk oX6_weighClaims 40 rfl) fl_X6_61 rfl (kn hn rfl) ?_
              refine r_getR C (dk oX6_weighClaims 41 rfl) fl_X6_73 rfl (kn hn rfl) ?_
              refine r_iload C 5 (dk oX6_weighClaims 42 rfl) rfl ?_
              refine r_iald C _ (dk oX6_weighClaims 43 rfl) rfl (kn hn rfl) rfl (by omega) (by decide) ?_
              rw [hF3 10 (by decide) (by decide), (hc.2.2 c_ (by omega)).1]
              refine r_aload_n C 0 (dk oX6_weighClaims 44 rfl) rfl ?_
              refine r_getR C (dk oX6_weighClaims 45 rfl) fl_X6_15 rfl (kn hn rfl) ?_
              refine r_iload C 5 (dk oX6_weighClaims 46 rfl) rfl ?_
              refine r_iald C _ (dk oX6_weighClaims 47 rfl) rfl (kn hn rfl) rfl (by omega) (by decide) ?_
              rw [hV3 c_ (by omega)]
              refine r_imul C (dk oX6_weighClaims 48 rfl) ?_
              refine r_sipush C (dk oX6_weighClaims 49 rfl) (v := nI 1000) (by decide) ?_
              refine r_idiv C (dk oX6_weighClaims 50 rfl) (by decide) ?_
              refine r_iadd C (dk oX6_weighClaims 51 rfl) ?_
              refine r_istore (lo' := [(4, _), (0, _), (1, _), (2, _), (3, _), (5, _)]) C (dk oX6_weighClaims 52 rfl) (by decide) rfl ?_
              refine r_iinc (lo' := [(5, _), (4, _), (0, _), (1, _), (2, _), (3, _)]) C 5 (dk oX6_weighClaims 53 rfl) rfl (by first | exact nI_inc _ | rfl) (by decide) rfl ?_
              refine r_goto (tgt := 53) C (dk oX6_weighClaims 54 rfl) (by decide) ?_
              refine V.sub [2, 3, 4, 5, 1, 0] rfl ?_
              exact ih (c_ + 1) (by omega) (by omega)
        refine V.sub [2, 3, 4, 5, 1, 0] rfl ?_
        exact L53 (nc + 1) 0 (by omega) (Nat.zero_le _)
      · simp (disch := omega) only [nI_leI, nI_ltI, nI_eq, nI_eq0] at hb17
        refine r_aload_n C 0 (dk oX6_weighClaims 11 rfl) rfl ?_
        refine r_getR C (dk oX6_weighClaims 12 rfl) fl_X6_15 rfl (kn hn rfl) ?_
        refine r_iload C 4 (dk oX6_weighClaims 13 rfl) rfl ?_
        refine r_iconst C (dk oX6_weighClaims 14 rfl) (v := nI 0) (by decide) ?_
        refine r_iast C _ (dk oX6_weighClaims 15 rfl) rfl (kn hn rfl) rfl (by omega) (by decide) ?_
        refine r_iinc (lo' := [(4, _), (0, _), (1, _), (2, _), (3, _)]) C 4 (dk oX6_weighClaims 16 rfl) rfl (by first | exact nI_inc _ | rfl) (by decide) rfl ?_
        refine r_goto (tgt := 13) C (dk oX6_weighClaims 17 rfl) (by decide) ?_
        refine V.sub [1, 2, 3, 4, 0] rfl ?_
        refine ih (c_ + 1) _ (by omega) (by omega) (fun k a b => by rw [up2_ne b]; exact hF k a b) (fun f hf => by rw [up2_ne (by decide)]; exact hS1 f hf) (fun c hc2 => ?_)
        by_cases e : c = c_
        · rw [e, up2_at]
        · rw [up2_off e]; exact hZ c (by omega)
  refine V.sub [1, 2, 3, 4, 0] rfl ?_
  exact L13 7 0 I7 (by omega) (Nat.zero_le _) (fun k a _ => hF7 k a) hS7 (fun c hc2 => absurd hc2 (Nat.not_lt_zero _))

set_option maxHeartbeats 1000000 in
set_option maxRecDepth 100000 in
theorem c45_X6_weighClaims (hn : 117 ≤ n) (I : MI) (J : MJ) (cl : Clm) (hc : CClm I J 8 cl.1 cl.2.1 cl.2.2) (k_ : Prf) (hK : CPrf I 8 k_.1 k_.2.1 k_.2.2.1 k_.2.2.2.1 k_.2.2.2.2.1 k_.2.2.2.2.2) (Φ : Nat → FS) (hM : Fc I 45 Φ) (B : Nat) (hB : B < 2 ^ 16) : Ci l n ad cA D z 15 yX6_weighClaims cX6_weighClaims 6 .int I J [.ref (ad 52), .ref (ad 8), .ref (ad 45), .int (nI B)] (fun r I' J' => r = wtF cl k_ Φ B ∧ J' = J ∧ (∀ k, k ≠ 53 → k ≠ 54 → I' k = I k) ∧ (∀ f, f < 12 → I' 53 f = nI (shF_ B k_.1 k_.2.1 k_.2.2.1 k_.2.2.2.1 Φ f)) ∧ ∀ c, c < cl.1 → I' 54 c = nI (chF B k_.1 k_.2.1 k_.2.2.1 k_.2.2.2.1 Φ (cl.2.2 c))) := by
  refine Ci.of (by decide) (Nat.le_of_ble_eq_true rfl) ?_
  intro p e s m args below meth c A C hin Z Q hret
  obtain ⟨nc, co, cd⟩ := cl
  have hnc := hc.1
  dsimp only at hc hnc ⊢
  refine r_aload_n C 0 (dk oX6_weighClaims 0 rfl) rfl ?_
  refine r_aload_n C 1 (dk oX6_weighClaims 1 rfl) rfl ?_
  refine r_getR C (dk oX6_weighClaims 2 rfl) fl_X6_51 rfl (kn hn rfl) ?_
  refine r_aload_n C 2 (dk oX6_weighClaims 3 rfl) rfl ?_
  refine r_iload_n C 3 (dk oX6_weighClaims 4 rfl) rfl ?_
  refine r_ivv C Z (dk oX6_weighClaims 5 rfl) cl_X6_57 ci_X6_weighFacts rfl (kn hn rfl) (c45_X6_weighFacts hn I J k_ hK Φ hM.1 B hB) rfl rfl (Nat.le_of_ble_eq_true rfl) ⟨Nat.le_of_ble_eq_true rfl, Nat.le_of_ble_eq_true rfl⟩ ⟨Nat.zero_le _, Nat.zero_le _⟩ (fun I7 J7 h7 => ?_)
  obtain ⟨e2_, hF7, hS7⟩ := h7
  have e2_ := e2_.symm
  subst e2_
  refine r_iconst C (dk oX6_weighClaims 6 rfl) (v := nI 0) (by decide) ?_
  refine r_istore (lo' := [(4, _), (0, _), (1, _), (2, _), (3, _)]) C (dk oX6_weighClaims 7 rfl) (by decide) rfl ?_
  have L13 : ∀ (d_ : Nat) (c_ : Nat) (I1 : MI), 6 - c_ < d_ → c_ ≤ 6 → (∀ k, k ≠ 53 → k ≠ 54 → I1 k = I k) → (∀ f, f < 12 → I1 53 f = nI (shF_ B k_.1 k_.2.1 k_.2.2.1 k_.2.2.2.1 Φ f)) → (∀ c, c < c_ → I1 54 c = nI 0) → V p l e (rmL 15) s m args below meth c Q D A 6 0 0 n ad (mE cA ad I1 J) 13 [(0, .ref (ad 52)), (1, .ref (ad 8)), (2, .ref (ad 45)), (3, .int (nI B)), (4, .int (nI c_))] [] := by
    intro d_
    induction d_ with
    | zero => intros; exact absurd (by assumption) (Nat.not_lt_zero _)
    | succ d_ ih => 
      intro c_ I1 hd_ hc6 hF hS1 hZ
      refine r_iload C 4 (dk oX6_weighClaims 8 rfl) rfl ?_
      refine r_bipush C (dk oX6_weighClaims 9 rfl) (v := nI 6) (by decide) ?_
      refine r_icmp_ge (tgt := 34) C (dk oX6_weighClaims 10 rfl) (by decide) (fun hb17 => ?_) (fun hb17 => ?_)
      · simp (disch := omega) only [nI_leI, nI_ltI, nI_eq, nI_eq0] at hb17
        refine r_aload_n C 0 (dk oX6_weighClaims 18 rfl) rfl ?_
        refine r_aload_n C 1 (dk oX6_weighClaims 19 rfl) rfl ?_
        refine r_getR C (dk oX6_weighClaims 20 rfl) fl_X6_61 rfl (kn hn rfl) ?_
        refine r_aload_n C 2 (dk oX6_weighClaims 21 rfl) rfl ?_
        refine r_iconst C (dk oX6_weighClaims 22 rfl) (v := nI 0) (by decide) ?_
        refine r_iconst C (dk oX6_weighClaims 23 rfl) (v := nI 0) (by decide) ?_
        refine r_ldc C (dk oX6_weighClaims 24 rfl) kn_X6_65 ?_
        rw [show (1000000 : Int32) = nI 1000000 from rfl]
        refine r_isv C Z (dk oX6_weighClaims 25 rfl) cl_X6_66 st_X6_spread (c45_X6_spread hn (opN Φ) (bS (fun f => asB (Φ f)) 12) (bS (fun f => onB (Φ f)) 12) opN_lt (bS_lt 12) (bS_lt 12) (shF_ B k_.1 k_.2.1 k_.2.2.1 k_.2.2.2.1 Φ) (fun _ => shF_le) nc co cd 12 (Nat.le_refl _) 12 (Nat.le_refl _) I1 J (hc.cp (smC.rf (fun k a c => hF k (by omega) (by omega)) (fun k _ _ => rfl))) (by rw [hF _ (by decide) (by decide)]; exact hM.2.1) (by rw [hF _ (by decide) (by decide)]; exact hM.2.2.1) (by rw [hF _ (by decide) (by decide)]; exact hM.2.2.2) hS1 (fun _ => 0) (fun c hc2 => hZ c (by omega)) 0 1000000 (by decide) (Nat.le_refl _)) rfl rfl (Nat.le_of_ble_eq_true rfl) ⟨Nat.le_of_ble_eq_true rfl, Nat.le_of_ble_eq_true rfl⟩ ⟨Nat.zero_le _, Nat.zero_le _⟩ (fun I44 J44 h44 => ?_)
        obtain ⟨e2_, hF44, hV44⟩ := h44
        have e2_ := e2_.symm
        subst e2_
        have hF3 : ∀ k, k ≠ 53 → k ≠ 54 → I44 k = I k := fun k a b => (hF44 k b).trans (hF k a b)
        have hS3 : ∀ f, f < 12 → I44 53 f = nI (shF_ B k_.1 k_.2.1 k_.2.2.1 k_.2.2.2.1 Φ f) := fun f hf => by rw [hF44 53 (by decide)]; exact hS1 f hf
        have hV3 : ∀ c, c < nc → I44 54 c = nI (chF B k_.1 k_.2.1 k_.2.2.1 k_.2.2.2.1 Φ (cd c)) := fun c hc2 => by rw [hV44 c hc2, Nat.zero_add]; rfl
        refine r_iconst C (dk oX6_weighClaims 26 rfl) (v := nI 0) (by decide) ?_
        refine r_istore (lo' := [(4, _), (0, _), (1, _), (2, _), (3, _)]) C (dk oX6_weighClaims 27 rfl) (by decide) rfl ?_
        refine r_iconst C (dk oX6_weighClaims 28 rfl) (v := nI 0) (by decide) ?_
        refine r_istore (lo' := [(5, _), (4, _), (0, _), (1, _), (2, _), (3, _)]) C (dk oX6_weighClaims 29 rfl) (by decide) rfl ?_
        have L53 : ∀ (d_ : Nat) (c_ : Nat), nc - c_ < d_ → c_ ≤ nc → V p l e (rmL 15) s m args below meth c Q D A 6 0 0 n ad (mE cA ad I44 J) 53 [(0, .ref (ad 52)), (1, .ref (ad 8)), (2, .ref (ad 45)), (3, .int (nI B)), (4, .int (wtN co (fun c => chF B k_.1 k_.2.1 k_.2.2.1 k_.2.2.2.1 Φ (cd c)) c_)), (5, .int (nI c_))] [] := by
          intro d_
          induction d_ with
          | zero => intros; exact absurd (by assumption) (Nat.not_lt_zero _)
          | succ d_ ih => 
            intro c_ hd5 hcn
            refine r_iload C 5 (dk oX6_weighClaims 30 rfl) rfl ?_
            refine r_aload_n C 1 (dk oX6_weighClaims 31 rfl) rfl ?_
            refine r_getR C (dk oX6_weighClaims 32 rfl) fl_X6_61 rfl (kn hn rfl) ?_
            refine r_getI C (dk oX6_weighClaims 33 rfl) fl_X6_70 rfl (kn hn rfl) ?_
            rw [hF3 9 (by decide) (by decide), hc.2.1]
            refine r_icmp_ge (tgt := 105) C (dk oX6_weighClaims 34 rfl) (by decide) (fun hb62 => ?_) (fun hb62 => ?_)
            · simp (disch := omega) only [nI_leI, nI_ltI, nI_eq, nI_eq0] at hb62
              refine r_iload C 4 (dk oX6_weighClaims 55 rfl) rfl ?_
              refine hret (dk oX6_weighClaims 56 rfl) rfl ?_
              refine ⟨?_, rfl, hF3, hS3, hV3⟩
              rw [show c_ = nc by omega]; rfl
            · simp (disch := omega) only [nI_leI, nI_ltI, nI_eq, nI_eq0] at hb62
              refine r_iload C 5 (dk oX6_weighClaims 35 rfl) rfl ?_
              refine r_bipush C (dk oX6_weighClaims 36 rfl) (v := nI 6) (by decide) ?_
              refine r_icmp_ge (tgt := 105) C (dk oX6_weighClaims 37 rfl) (by decide) (fun hb69 => absurd hb69 (by rw [nI_leI (by omega) (by omega)]; omega)) (fun hb69 => ?_)
              refine r_iload C 4 (dk oX6_weighClaims 38 rfl) rfl ?_
              refine r_aload_n C 1 (dk oX6_weighClaims 39 rfl) rfl ?_
              refine r_getR C (dk oX6_weighClaims 40 rfl) fl_X6_61 rfl (kn hn rfl) ?_
              refine r_getR C (dk oX6_weighClaims 41 rfl) fl_X6_73 rfl (kn hn rfl) ?_
              refine r_iload C 5 (dk oX6_weighClaims 42 rfl) rfl ?_
              refine r_iald C _ (dk oX6_weighClaims 43 rfl) rfl (kn hn rfl) rfl (by omega) (by decide) ?_
              rw [hF3 10 (by decide) (by decide), (hc.2.2 c_ (by omega)).1]
              refine r_aload_n C 0 (dk oX6_weighClaims 44 rfl) rfl ?_
              refine r_getR C (dk oX6_weighClaims 45 rfl) fl_X6_15 rfl (kn hn rfl) ?_
              refine r_iload C 5 (dk oX6_weighClaims 46 rfl) rfl ?_
              refine r_iald C _ (dk oX6_weighClaims 47 rfl) rfl (kn hn rfl) rfl (by omega) (by decide) ?_
              rw [hV3 c_ (by omega)]
              refine r_imul C (dk oX6_weighClaims 48 rfl) ?_
              refine r_sipush C (dk oX6_weighClaims 49 rfl) (v := nI 1000) (by decide) ?_
              refine r_idiv C (dk oX6_weighClaims 50 rfl) (by decide) ?_
              refine r_iadd C (dk oX6_weighClaims 51 rfl) ?_
              refine r_istore (lo' := [(4, _), (0, _), (1, _), (2, _), (3, _), (5, _)]) C (dk oX6_weighClaims 52 rfl) (by decide) rfl ?_
              refine r_iinc (lo' := [(5, _), (4, _), (0, _), (1, _), (2, _), (3, _)]) C 5 (dk oX6_weighClaims 53 rfl) rfl (by first | exact nI_inc _ | rfl) (by decide) rfl ?_
              refine r_goto (tgt := 53) C (dk oX6_weighClaims 54 rfl) (by decide) ?_
              refine V.sub [2, 3, 4, 5, 1, 0] rfl ?_
              exact ih (c_ + 1) (by omega) (by omega)
        refine V.sub [2, 3, 4, 5, 1, 0] rfl ?_
        exact L53 (nc + 1) 0 (by omega) (Nat.zero_le _)
      · simp (disch := omega) only [nI_leI, nI_ltI, nI_eq, nI_eq0] at hb17
        refine r_aload_n C 0 (dk oX6_weighClaims 11 rfl) rfl ?_
        refine r_getR C (dk oX6_weighClaims 12 rfl) fl_X6_15 rfl (kn hn rfl) ?_
        refine r_iload C 4 (dk oX6_weighClaims 13 rfl) rfl ?_
        refine r_iconst C (dk oX6_weighClaims 14 rfl) (v := nI 0) (by decide) ?_
        refine r_iast C _ (dk oX6_weighClaims 15 rfl) rfl (kn hn rfl) rfl (by omega) (by decide) ?_
        refine r_iinc (lo' := [(4, _), (0, _), (1, _), (2, _), (3, _)]) C 4 (dk oX6_weighClaims 16 rfl) rfl (by first | exact nI_inc _ | rfl) (by decide) rfl ?_
        refine r_goto (tgt := 13) C (dk oX6_weighClaims 17 rfl) (by decide) ?_
        refine V.sub [1, 2, 3, 4, 0] rfl ?_
        refine ih (c_ + 1) _ (by omega) (by omega) (fun k a b => by rw [up2_ne b]; exact hF k a b) (fun f hf => by rw [up2_ne (by decide)]; exact hS1 f hf) (fun c hc2 => ?_)
        by_cases e : c = c_
        · rw [e, up2_at]
        · rw [up2_off e]; exact hZ c (by omega)
  refine V.sub [1, 2, 3, 4, 0] rfl ?_
  exact L13 7 0 I7 (by omega) (Nat.zero_le _) (fun k a _ => hF7 k a) hS7 (fun c hc2 => absurd hc2 (Nat.not_lt_zero _))

end SCALE
