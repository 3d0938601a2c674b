section SUIT
variable {l : Launch} {n : Nat} {ad : Nat → Nat} {cA : Nat → ClassId} {D : va_G} {z : Zw}
set_option maxHeartbeats 1000000 in
set_option maxRecDepth 100000 in
theorem c_X4_lastDay (hn : 117 ≤ n) (I : MI) (J : MJ) (np : Nat) (dy : Nat → Nat) (lt : Nat → Bool) (ac : Nat → Nat → Nat) (hP : CPap I 8 np dy lt ac) : Ci l n ad cA D z 0 yX4_lastDay cX4_lastDay 1 .int I J [.ref (ad 19)] (fun r I' J' => r = nI (if np = 0 then 0 else dy (np - 1)) ∧ I' = I ∧ J' = J) := by
  refine Ci.of (by decide) (Nat.le_of_ble_eq_true rfl) ?_
  intro p e s m args below meth c A C hin Z Q hret
  obtain ⟨p1, p2, p3⟩ := hP
  refine r_aload_n C 0 (dk oX4_lastDay 0 rfl) rfl ?_
  refine r_getI C (dk oX4_lastDay 1 rfl) fl_X4_20 rfl (kn hn rfl) ?_
  rw [p2, show (I : MI) = I from rfl]
  refine r_if_le (tgt := 30) C (dk oX4_lastDay 2 rfl) (by decide) (fun hb4 => ?_) (fun hb4 => ?_)
  · rw [show (0 : Int32) = nI 0 from rfl] at hb4
    simp (disch := omega) only [nI_leI, nI_ltI, nI_eq, nI_eq0] at hb4
    refine r_iconst C (dk oX4_lastDay 15 rfl) (v := nI 0) (by decide) ?_
    refine hret (dk oX4_lastDay 16 rfl) rfl ?_
    refine ⟨?_, rfl, rfl⟩
    first
      | rw [if_neg (by omega)]
      | rw [if_pos (by omega)]
  · rw [show (0 : Int32) = nI 0 from rfl] at hb4
    simp (disch := omega) only [nI_leI, nI_ltI, nI_eq, nI_eq0] at hb4
    refine r_aload_n C 0 (dk oX4_lastDay 3 rfl) rfl ?_
    refine r_getI C (dk oX4_lastDay 4 rfl) fl_X4_20 rfl (kn hn rfl) ?_
    rw [p2]
    refine r_bipush C (dk oX4_lastDay 5 rfl) (v := nI 10) (by decide) ?_
    refine r_icmp_gt (tgt := 30) C (dk oX4_lastDay 6 rfl) (by decide) (fun hb13 => absurd hb13 (by rw [nI_ltI (by omega) (by omega)]; omega)) (fun hb13 => ?_)
    refine r_aload_n C 0 (dk oX4_lastDay 7 rfl) rfl ?_
    refine r_getR C (dk oX4_lastDay 8 rfl) fl_X4_9 rfl (kn hn rfl) ?_
    refine r_aload_n C 0 (dk oX4_lastDay 9 rfl) rfl ?_
    refine r_getI C (dk oX4_lastDay 10 rfl) fl_X4_20 rfl (kn hn rfl) ?_
    rw [p2]
    refine r_iconst C (dk oX4_lastDay 11 rfl) (v := nI 1) (by decide) ?_
    refine r_isub C (dk oX4_lastDay 12 rfl) ?_
    rw [pk_sub (by omega)]
    refine r_iald C _ (dk oX4_lastDay 13 rfl) rfl (kn hn rfl) rfl (by omega) (by decide) ?_
    rw [(p3 (np - 1) (by omega)).1]
    refine r_goto (tgt := 31) C (dk oX4_lastDay 14 rfl) (by decide) ?_
    refine hret (dk oX4_lastDay 16 rfl) rfl ?_
    refine ⟨?_, rfl, rfl⟩
    first
      | rw [if_neg (by omega)]
      | rw [if_pos (by omega)]

set_option maxHeartbeats 1000000 in
set_option maxRecDepth 100000 in
theorem c_X4_add (hn : 117 ≤ n) (I : MI) (J : MJ) (np : Nat) (dy : Nat → Nat) (lt : Nat → Bool) (ac : Nat → Nat → Nat) (hP : CPap I 8 np dy lt ac) (X_ : Nat) (hX1 : X_ < 1024) (hX2 : I 19 1 = nI X_) (d du : Nat) (hd : d < 1000) (hdu : du < 100) (hnp : np < 10) (hdl : (if np = 0 then 0 else dy (np - 1)) ≤ d) (hdd : (if np = 0 then 0 else dy (np - 1)) < 1000) : Ci l n ad cA D z 1 yX4_add cX4_add 5 .int I J [.ref (ad 19), .int (nI d), .int (nI du), .ref (ad 7)] (fun r I' J' => r = nI np ∧ J' = J ∧ I' = up2 (cpA (up2 (up2 I 19 1 (nI (ltS X_ np (decide (0 < np ∧ du < d - dy (np - 1)))))) 20 np (nI d)) 7 (23 + np) 12) 19 0 (nI (np + 1))) := by
  refine Ci.of (by decide) (Nat.le_of_ble_eq_true rfl) ?_
  intro p e s m args below meth c A C hin Z Q hret
  have p1 := hP.1
  have p2 := hP.2.1
  refine r_aload_n C 0 (dk oX4_add 0 rfl) rfl ?_
  refine r_getI C (dk oX4_add 1 rfl) fl_X4_20 rfl (kn hn rfl) ?_
  rw [p2]
  refine r_bipush C (dk oX4_add 2 rfl) (v := nI 10) (by decide) ?_
  refine r_icmp_lt (tgt := 12) C (dk oX4_add 3 rfl) (by decide) (fun hb6 => ?_) (fun hb6 => absurd (nI_lt hnp (by decide)) hb6)
  refine r_aload_n C 0 (dk oX4_add 6 rfl) rfl ?_
  refine r_getI C (dk oX4_add 7 rfl) fl_X4_20 rfl (kn hn rfl) ?_
  rw [p2]
  refine r_if_le (tgt := 33) C (dk oX4_add 8 rfl) (by decide) (fun hb16 => ?_) (fun hb16 => ?_)
  · rw [show (0 : Int32) = nI 0 from rfl] at hb16
    simp (disch := omega) only [nI_leI, nI_ltI, nI_eq, nI_eq0] at hb16
    have hlate : (decide (0 < np ∧ du < d - dy (np - 1))) = false := decide_eq_false (fun q => by omega)
    refine r_iconst C (dk oX4_add 17 rfl) (v := nI 0) (by decide) ?_
    refine r_istore (lo' := [(4, _), (0, _), (1, _), (2, _), (3, _)]) C (dk oX4_add 18 rfl) (by decide) rfl ?_
    refine r_aload_n C 1 (dk oX4_add 19 rfl) rfl ?_
    refine r_iload C 0 (dk oX4_add 20 rfl) rfl ?_
    refine r_if_eq (tgt := 56) C (dk oX4_add 21 rfl) (by decide) (fun hb39 => ?_) (fun hb39 => ?_)
    · first
        | exact absurd hb39 (by decide)
        | refine r_aload_n C 1 (dk oX4_add 30 rfl) rfl ?_
          refine r_getI C (dk oX4_add 31 rfl) fl_X4_29 rfl (kn hn rfl) ?_
          rw [hX2]
          refine r_iconst C (dk oX4_add 32 rfl) (v := nI 1) (by decide) ?_
          refine r_aload_n C 1 (dk oX4_add 33 rfl) rfl ?_
          refine r_getI C (dk oX4_add 34 rfl) fl_X4_20 rfl (kn hn rfl) ?_
          rw [p2]
          refine r_ishl C (dk oX4_add 35 rfl) ?_
          rw [shl1 (by omega)]
          refine r_iconst C (dk oX4_add 36 rfl) (v := -1) (by decide) ?_
          refine r_ixor C (dk oX4_add 37 rfl) ?_
          refine r_iand C (dk oX4_add 38 rfl) ?_
          rw [nI_not (by omega)]
          refine r_putI C (dk oX4_add 39 rfl) fl_X4_29 ft_4_1 rfl (kn hn rfl) ?_
          refine r_aload_n C 1 (dk oX4_add 40 rfl) rfl ?_
          refine r_getR C (dk oX4_add 41 rfl) fl_X4_9 rfl (kn hn rfl) ?_
          refine r_aload_n C 1 (dk oX4_add 42 rfl) rfl ?_
          refine r_getI C (dk oX4_add 43 rfl) fl_X4_20 rfl (kn hn rfl) ?_
          rw [up2_off (by decide), p2]
          refine r_iload_n C 2 (dk oX4_add 44 rfl) rfl ?_
          refine r_iast C _ (dk oX4_add 45 rfl) rfl (kn hn rfl) rfl (by omega) (by decide) ?_
          refine r_aload_n C 4 (dk oX4_add 46 rfl) rfl ?_
          refine r_iconst C (dk oX4_add 47 rfl) (v := nI 0) (by decide) ?_
          refine r_aload_n C 1 (dk oX4_add 48 rfl) rfl ?_
          refine r_getR C (dk oX4_add 49 rfl) fl_X4_17 rfl (kn hn rfl) ?_
          refine r_aload_n C 1 (dk oX4_add 50 rfl) rfl ?_
          refine r_getI C (dk oX4_add 51 rfl) fl_X4_20 rfl (kn hn rfl) ?_
          rw [up2_ne (by decide), up2_off (by decide), p2]
          refine r_aald C _ (dk oX4_add 52 rfl) rfl (by decide) (kn hn rfl) rfl (by omega) (by decide) ?_
          rw [Nat.one_mul]
          refine r_iconst C (dk oX4_add 53 rfl) (v := nI 0) (by decide) ?_
          refine r_bipush C (dk oX4_add 54 rfl) (v := nI 12) (by decide) ?_
          refine r_cpI C 7 (23 + np) (dk oX4_add 55 rfl) cp_X4 rfl (shA_act np hnp).1 (kn hn rfl) (by omega) (by decide) (by decide) (by decide) (by decide) ⟨Nat.le_of_ble_eq_true rfl, Nat.le_of_ble_eq_true rfl⟩ ?_
          refine r_aload_n C 1 (dk oX4_add 56 rfl) rfl ?_
          refine r_dup C (dk oX4_add 57 rfl) rfl ?_
          refine r_getI C (dk oX4_add 58 rfl) fl_X4_20 rfl (kn hn rfl) ?_
          rw [cpA_ne (by omega), up2_ne (by decide), up2_off (by decide), p2]
          refine r_iconst C (dk oX4_add 59 rfl) (v := nI 1) (by decide) ?_
          refine r_iadd C (dk oX4_add 60 rfl) ?_
          rw [nI_add]
          refine r_putI C (dk oX4_add 61 rfl) fl_X4_20 ft_4_0 rfl (kn hn rfl) ?_
          refine r_aload_n C 1 (dk oX4_add 62 rfl) rfl ?_
          refine r_getI C (dk oX4_add 63 rfl) fl_X4_20 rfl (kn hn rfl) ?_
          rw [up2_at]
          refine r_iconst C (dk oX4_add 64 rfl) (v := nI 1) (by decide) ?_
          refine r_isub C (dk oX4_add 65 rfl) ?_
          rw [pk_sub (by omega), Nat.add_sub_cancel]
          refine hret (dk oX4_add 66 rfl) rfl ?_
          refine ⟨rfl, rfl, ?_⟩
          rw [hlate]
          rfl
    · first
        | exact absurd rfl hb39
        | refine r_aload_n C 1 (dk oX4_add 22 rfl) rfl ?_
          refine r_getI C (dk oX4_add 23 rfl) fl_X4_29 rfl (kn hn rfl) ?_
          rw [hX2]
          refine r_iconst C (dk oX4_add 24 rfl) (v := nI 1) (by decide) ?_
          refine r_aload_n C 1 (dk oX4_add 25 rfl) rfl ?_
          refine r_getI C (dk oX4_add 26 rfl) fl_X4_20 rfl (kn hn rfl) ?_
          rw [p2]
          refine r_ishl C (dk oX4_add 27 rfl) ?_
          rw [shl1 (by omega)]
          refine r_ior C (dk oX4_add 28 rfl) ?_
          rw [fa_or]
          refine r_goto (tgt := 69) C (dk oX4_add 29 rfl) (by decide) ?_
          refine r_putI C (dk oX4_add 39 rfl) fl_X4_29 ft_4_1 rfl (kn hn rfl) ?_
          refine r_aload_n C 1 (dk oX4_add 40 rfl) rfl ?_
          refine r_getR C (dk oX4_add 41 rfl) fl_X4_9 rfl (kn hn rfl) ?_
          refine r_aload_n C 1 (dk oX4_add 42 rfl) rfl ?_
          refine r_getI C (dk oX4_add 43 rfl) fl_X4_20 rfl (kn hn rfl) ?_
          rw [up2_off (by decide), p2]
          refine r_iload_n C 2 (dk oX4_add 44 rfl) rfl ?_
          refine r_iast C _ (dk oX4_add 45 rfl) rfl (kn hn rfl) rfl (by omega) (by decide) ?_
          refine r_aload_n C 4 (dk oX4_add 46 rfl) rfl ?_
          refine r_iconst C (dk oX4_add 47 rfl) (v := nI 0) (by decide) ?_
          refine r_aload_n C 1 (dk oX4_add 48 rfl) rfl ?_
          refine r_getR C (dk oX4_add 49 rfl) fl_X4_17 rfl (kn hn rfl) ?_
          refine r_aload_n C 1 (dk oX4_add 50 rfl) rfl ?_
          refine r_getI C (dk oX4_add 51 rfl) fl_X4_20 rfl (kn hn rfl) ?_
          rw [up2_ne (by decide), up2_off (by decide), p2]
          refine r_aald C _ (dk oX4_add 52 rfl) rfl (by decide) (kn hn rfl) rfl (by omega) (by decide) ?_
          rw [Nat.one_mul]
          refine r_iconst C (dk oX4_add 53 rfl) (v := nI 0) (by decide) ?_
          refine r_bipush C (dk oX4_add 54 rfl) (v := nI 12) (by decide) ?_
          refine r_cpI C 7 (23 + np) (dk oX4_add 55 rfl) cp_X4 rfl (shA_act np hnp).1 (kn hn rfl) (by omega) (by decide) (by decide) (by decide) (by decide) ⟨Nat.le_of_ble_eq_true rfl, Nat.le_of_ble_eq_true rfl⟩ ?_
          refine r_aload_n C 1 (dk oX4_add 56 rfl) rfl ?_
          refine r_dup C (dk oX4_add 57 rfl) rfl ?_
          refine r_getI C (dk oX4_add 58 rfl) fl_X4_20 rfl (kn hn rfl) ?_
          rw [cpA_ne (by omega), up2_ne (by decide), up2_off (by decide), p2]
          refine r_iconst C (dk oX4_add 59 rfl) (v := nI 1) (by decide) ?_
          refine r_iadd C (dk oX4_add 60 rfl) ?_
          rw [nI_add]
          refine r_putI C (dk oX4_add 61 rfl) fl_X4_20 ft_4_0 rfl (kn hn rfl) ?_
          refine r_aload_n C 1 (dk oX4_add 62 rfl) rfl ?_
          refine r_getI C (dk oX4_add 63 rfl) fl_X4_20 rfl (kn hn rfl) ?_
          rw [up2_at]
          refine r_iconst C (dk oX4_add 64 rfl) (v := nI 1) (by decide) ?_
          refine r_isub C (dk oX4_add 65 rfl) ?_
          rw [pk_sub (by omega), Nat.add_sub_cancel]
          refine hret (dk oX4_add 66 rfl) rfl ?_
          refine ⟨rfl, rfl, ?_⟩
          rw [hlate]
          rfl
  · rw [show (0 : Int32) = nI 0 from rfl] at hb16
    simp (disch := omega) only [nI_leI, nI_ltI, nI_eq, nI_eq0] at hb16
    refine r_iload_n C 1 (dk oX4_add 9 rfl) rfl ?_
    refine r_aload_n C 0 (dk oX4_add 10 rfl) rfl ?_
    refine r_ivi C Z (dk oX4_add 11 rfl) cl_X4_25 ci_X4_lastDay rfl (kn hn rfl) (c_X4_lastDay hn I J np dy lt ac hP) rfl rfl (Nat.le_of_ble_eq_true rfl) ⟨Nat.le_of_ble_eq_true rfl, Nat.le_of_ble_eq_true rfl⟩ ⟨Nat.zero_le _, Nat.zero_le _⟩ (fun r21 I21 J21 h21 => ?_)
    obtain ⟨h21, e1_, e2_⟩ := h21
    have e1_ := e1_.symm
    have e2_ := e2_.symm
    subst e1_
    subst e2_
    subst h21
    refine r_isub C (dk oX4_add 12 rfl) ?_
    rw [pk_sub hdl]
    refine r_iload_n C 2 (dk oX4_add 13 rfl) rfl ?_
    refine r_icmp_le (tgt := 33) C (dk oX4_add 14 rfl) (by decide) (fun hb26 => ?_) (fun hb26 => ?_)
    · simp (disch := omega) only [nI_leI, nI_ltI, nI_eq, nI_eq0] at hb26
      have hlate : (decide (0 < np ∧ du < d - dy (np - 1))) = false := decide_eq_false (fun q => by rw [if_neg (by omega)] at hb26; omega)
      refine r_iconst C (dk oX4_add 17 rfl) (v := nI 0) (by decide) ?_
      refine r_istore (lo' := [(4, _), (0, _), (1, _), (2, _), (3, _)]) C (dk oX4_add 18 rfl) (by decide) rfl ?_
      refine r_aload_n C 1 (dk oX4_add 19 rfl) rfl ?_
      refine r_iload C 0 (dk oX4_add 20 rfl) rfl ?_
      refine r_if_eq (tgt := 56) C (dk oX4_add 21 rfl) (by decide) (fun hb39 => ?_) (fun hb39 => ?_)
      · first
          | exact absurd hb39 (by decide)
          | refine r_aload_n C 1 (dk oX4_add 30 rfl) rfl ?_
            refine r_getI C (dk oX4_add 31 rfl) fl_X4_29 rfl (kn hn rfl) ?_
            rw [hX2]
            refine r_iconst C (dk oX4_add 32 rfl) (v := nI 1) (by decide) ?_
            refine r_aload_n C 1 (dk oX4_add 33 rfl) rfl ?_
            refine r_getI C (dk oX4_add 34 rfl) fl_X4_20 rfl (kn hn rfl) ?_
            rw [p2]
            refine r_ishl C (dk oX4_add 35 rfl) ?_
            rw [shl1 (by omega)]
            refine r_iconst C (dk oX4_add 36 rfl) (v := -1) (by decide) ?_
            refine r_ixor C (dk oX4_add 37 rfl) ?_
            refine r_iand C (dk oX4_add 38 rfl) ?_
            rw [nI_not (by omega)]
            refine r_putI C (dk oX4_add 39 rfl) fl_X4_29 ft_4_1 rfl (kn hn rfl) ?_
            refine r_aload_n C 1 (dk oX4_add 40 rfl) rfl ?_
            refine r_getR C (dk oX4_add 41 rfl) fl_X4_9 rfl (kn hn rfl) ?_
            refine r_aload_n C 1 (dk oX4_add 42 rfl) rfl ?_
            refine r_getI C (dk oX4_add 43 rfl) fl_X4_20 rfl (kn hn rfl) ?_
            rw [up2_off (by decide), p2]
            refine r_iload_n C 2 (dk oX4_add 44 rfl) rfl ?_
            refine r_iast C _ (dk oX4_add 45 rfl) rfl (kn hn rfl) rfl (by omega) (by decide) ?_
            refine r_aload_n C 4 (dk oX4_add 46 rfl) rfl ?_
            refine r_iconst C (dk oX4_add 47 rfl) (v := nI 0) (by decide) ?_
            refine r_aload_n C 1 (dk oX4_add 48 rfl) rfl ?_
            refine r_getR C (dk oX4_add 49 rfl) fl_X4_17 rfl (kn hn rfl) ?_
            refine r_aload_n C 1 (dk oX4_add 50 rfl) rfl ?_
            refine r_getI C (dk oX4_add 51 rfl) fl_X4_20 rfl (kn hn rfl) ?_
            rw [up2_ne (by decide), up2_off (by decide), p2]
            refine r_aald C _ (dk oX4_add 52 rfl) rfl (by decide) (kn hn rfl) rfl (by omega) (by decide) ?_
            rw [Nat.one_mul]
            refine r_iconst C (dk oX4_add 53 rfl) (v := nI 0) (by decide) ?_
            refine r_bipush C (dk oX4_add 54 rfl) (v := nI 12) (by decide) ?_
            refine r_cpI C 7 (23 + np) (dk oX4_add 55 rfl) cp_X4 rfl (shA_act np hnp).1 (kn hn rfl) (by omega) (by decide) (by decide) (by decide) (by decide) ⟨Nat.le_of_ble_eq_true rfl, Nat.le_of_ble_eq_true rfl⟩ ?_
            refine r_aload_n C 1 (dk oX4_add 56 rfl) rfl ?_
            refine r_dup C (dk oX4_add 57 rfl) rfl ?_
            refine r_getI C (dk oX4_add 58 rfl) fl_X4_20 rfl (kn hn rfl) ?_
            rw [cpA_ne (by omega), up2_ne (by decide), up2_off (by decide), p2]
            refine r_iconst C (dk oX4_add 59 rfl) (v := nI 1) (by decide) ?_
            refine r_iadd C (dk oX4_add 60 rfl) ?_
            rw [nI_add]
            refine r_putI C (dk oX4_add 61 rfl) fl_X4_20 ft_4_0 rfl (kn hn rfl) ?_
            refine r_aload_n C 1 (dk oX4_add 62 rfl) rfl ?_
            refine r_getI C (dk oX4_add 63 rfl) fl_X4_20 rfl (kn hn rfl) ?_
            rw [up2_at]
            refine r_iconst C (dk oX4_add 64 rfl) (v := nI 1) (by decide) ?_
            refine r_isub C (dk oX4_add 65 rfl) ?_
            rw [pk_sub (by omega), Nat.add_sub_cancel]
            refine hret (dk oX4_add 66 rfl) rfl ?_
            refine ⟨rfl, rfl, ?_⟩
            rw [hlate]
            rfl
      · first
          | exact absurd rfl hb39
          | refine r_aload_n C 1 (dk oX4_add 22 rfl) rfl ?_
            refine r_getI C (dk oX4_add 23 rfl) fl_X4_29 rfl (kn hn rfl) ?_
            rw [hX2]
            refine r_iconst C (dk oX4_add 24 rfl) (v := nI 1) (by decide) ?_
            refine r_aload_n C 1 (dk oX4_add 25 rfl) rfl ?_
            refine r_getI C (dk oX4_add 26 rfl) fl_X4_20 rfl (kn hn rfl) ?_
            rw [p2]
            refine r_ishl C (dk oX4_add 27 rfl) ?_
            rw [shl1 (by omega)]
            refine r_ior C (dk oX4_add 28 rfl) ?_
            rw [fa_or]
            refine r_goto (tgt := 69) C (dk oX4_add 29 rfl) (by decide) ?_
            refine r_putI C (dk oX4_add 39 rfl) fl_X4_29 ft_4_1 rfl (kn hn rfl) ?_
            refine r_aload_n C 1 (dk oX4_add 40 rfl) rfl ?_
            refine r_getR C (dk oX4_add 41 rfl) fl_X4_9 rfl (kn hn rfl) ?_
            refine r_aload_n C 1 (dk oX4_add 42 rfl) rfl ?_
            refine r_getI C (dk oX4_add 43 rfl) fl_X4_20 rfl (kn hn rfl) ?_
            rw [up2_off (by decide), p2]
            refine r_iload_n C 2 (dk oX4_add 44 rfl) rfl ?_
            refine r_iast C _ (dk oX4_add 45 rfl) rfl (kn hn rfl) rfl (by omega) (by decide) ?_
            refine r_aload_n C 4 (dk oX4_add 46 rfl) rfl ?_
            refine r_iconst C (dk oX4_add 47 rfl) (v := nI 0) (by decide) ?_
            refine r_aload_n C 1 (dk oX4_add 48 rfl) rfl ?_
            refine r_getR C (dk oX4_add 49 rfl) fl_X4_17 rfl (kn hn rfl) ?_
            refine r_aload_n C 1 (dk oX4_add 50 rfl) rfl ?_
            refine r_getI C (dk oX4_add 51 rfl) fl_X4_20 rfl (kn hn rfl) ?_
            rw [up2_ne (by decide), up2_off (by decide), p2]
            refine r_aald C _ (dk oX4_add 52 rfl) rfl (by decide) (kn hn rfl) rfl (by omega) (by decide) ?_
            rw [Nat.one_mul]
            refine r_iconst C (dk oX4_add 53 rfl) (v := nI 0) (by decide) ?_
            refine r_bipush C (dk oX4_add 54 rfl) (v := nI 12) (by decide) ?_
            refine r_cpI C 7 (23 + np) (dk oX4_add 55 rfl) cp_X4 rfl (shA_act np hnp).1 (kn hn rfl) (by omega) (by decide) (by decide) (by decide) (by decide) ⟨Nat.le_of_ble_eq_true rfl, Nat.le_of_ble_eq_true rfl⟩ ?_
            refine r_aload_n C 1 (dk oX4_add 56 rfl) rfl ?_
            refine r_dup C (dk oX4_add 57 rfl) rfl ?_
            refine r_getI C (dk oX4_add 58 rfl) fl_X4_20 rfl (kn hn rfl) ?_
            rw [cpA_ne (by omega), up2_ne (by decide), up2_off (by decide), p2]
            refine r_iconst C (dk oX4_add 59 rfl) (v := nI 1) (by decide) ?_
            refine r_iadd C (dk oX4_add 60 rfl) ?_
            rw [nI_add]
            refine r_putI C (dk oX4_add 61 rfl) fl_X4_20 ft_4_0 rfl (kn hn rfl) ?_
            refine r_aload_n C 1 (dk oX4_add 62 rfl) rfl ?_
            refine r_getI C (dk oX4_add 63 rfl) fl_X4_20 rfl (kn hn rfl) ?_
            rw [up2_at]
            refine r_iconst C (dk oX4_add 64 rfl) (v := nI 1) (by decide) ?_
            refine r_isub C (dk oX4_add 65 rfl) ?_
            rw [pk_sub (by omega), Nat.add_sub_cancel]
            refine hret (dk oX4_add 66 rfl) rfl ?_
            refine ⟨rfl, rfl, ?_⟩
            rw [hlate]
            rfl
    · simp (disch := omega) only [nI_leI, nI_ltI, nI_eq, nI_eq0] at hb26
      have hlate : (decide (0 < np ∧ du < d - dy (np - 1))) = true := decide_eq_true (by rw [if_neg (by omega)] at hb26; omega)
      refine r_iconst C (dk oX4_add 15 rfl) (v := nI 1) (by decide) ?_
      refine r_goto (tgt := 34) C (dk oX4_add 16 rfl) (by decide) ?_
      refine r_istore (lo' := [(4, _), (0, _), (1, _), (2, _), (3, _)]) C (dk oX4_add 18 rfl) (by decide) rfl ?_
      refine r_aload_n C 1 (dk oX4_add 19 rfl) rfl ?_
      refine r_iload C 0 (dk oX4_add 20 rfl) rfl ?_
      refine r_if_eq (tgt := 56) C (dk oX4_add 21 rfl) (by decide) (fun hb39 => ?_) (fun hb39 => ?_)
      · first
          | exact absurd hb39 (by decide)
          | refine r_aload_n C 1 (dk oX4_add 30 rfl) rfl ?_
            refine r_getI C (dk oX4_add 31 rfl) fl_X4_29 rfl (kn hn rfl) ?_
            rw [hX2]
            refine r_iconst C (dk oX4_add 32 rfl) (v := nI 1) (by decide) ?_
            refine r_aload_n C 1 (dk oX4_add 33 rfl) rfl ?_
            refine r_getI C (dk oX4_add 34 rfl) fl_X4_20 rfl (kn hn rfl) ?_
            rw [p2]
            refine r_ishl C (dk oX4_add 35 rfl) ?_
            rw [shl1 (by omega)]
            refine r_iconst C (dk oX4_add 36 rfl) (v := -1) (by decide) ?_
            refine r_ixor C (dk oX4_add 37 rfl) ?_
            refine r_iand C (dk oX4_add 38 rfl) ?_
            rw [nI_not (by omega)]
            refine r_putI C (dk oX4_add 39 rfl) fl_X4_29 ft_4_1 rfl (kn hn rfl) ?_
            refine r_aload_n C 1 (dk oX4_add 40 rfl) rfl ?_
            refine r_getR C (dk oX4_add 41 rfl) fl_X4_9 rfl (kn hn rfl) ?_
            refine r_aload_n C 1 (dk oX4_add 42 rfl) rfl ?_
            refine r_getI C (dk oX4_add 43 rfl) fl_X4_20 rfl (kn hn rfl) ?_
            rw [up2_off (by decide), p2]
            refine r_iload_n C 2 (dk oX4_add 44 rfl) rfl ?_
            refine r_iast C _ (dk oX4_add 45 rfl) rfl (kn hn rfl) rfl (by omega) (by decide) ?_
            refine r_aload_n C 4 (dk oX4_add 46 rfl) rfl ?_
            refine r_iconst C (dk oX4_add 47 rfl) (v := nI 0) (by decide) ?_
            refine r_aload_n C 1 (dk oX4_add 48 rfl) rfl ?_
            refine r_getR C (dk oX4_add 49 rfl) fl_X4_17 rfl (kn hn rfl) ?_
            refine r_aload_n C 1 (dk oX4_add 50 rfl) rfl ?_
            refine r_getI C (dk oX4_add 51 rfl) fl_X4_20 rfl (kn hn rfl) ?_
            rw [up2_ne (by decide), up2_off (by decide), p2]
            refine r_aald C _ (dk oX4_add 52 rfl) rfl (by decide) (kn hn rfl) rfl (by omega) (by decide) ?_
            rw [Nat.one_mul]
            refine r_iconst C (dk oX4_add 53 rfl) (v := nI 0) (by decide) ?_
            refine r_bipush C (dk oX4_add 54 rfl) (v := nI 12) (by decide) ?_
            refine r_cpI C 7 (23 + np) (dk oX4_add 55 rfl) cp_X4 rfl (shA_act np hnp).1 (kn hn rfl) (by omega) (by decide) (by decide) (by decide) (by decide) ⟨Nat.le_of_ble_eq_true rfl, Nat.le_of_ble_eq_true rfl⟩ ?_
            refine r_aload_n C 1 (dk oX4_add 56 rfl) rfl ?_
            refine r_dup C (dk oX4_add 57 rfl) rfl ?_
            refine r_getI C (dk oX4_add 58 rfl) fl_X4_20 rfl (kn hn rfl) ?_
            rw [cpA_ne (by omega), up2_ne (by decide), up2_off (by decide), p2]
            refine r_iconst C (dk oX4_add 59 rfl) (v := nI 1) (by decide) ?_
            refine r_iadd C (dk oX4_add 60 rfl) ?_
            rw [nI_add]
            refine r_putI C (dk oX4_add 61 rfl) fl_X4_20 ft_4_0 rfl (kn hn rfl) ?_
            refine r_aload_n C 1 (dk oX4_add 62 rfl) rfl ?_
            refine r_getI C (dk oX4_add 63 rfl) fl_X4_20 rfl (kn hn rfl) ?_
            rw [up2_at]
            refine r_iconst C (dk oX4_add 64 rfl) (v := nI 1) (by decide) ?_
            refine r_isub C (dk oX4_add 65 rfl) ?_
            rw [pk_sub (by omega), Nat.add_sub_cancel]
            refine hret (dk oX4_add 66 rfl) rfl ?_
            refine ⟨rfl, rfl, ?_⟩
            rw [hlate]
            rfl
      · first
          | exact absurd rfl hb39
          | refine r_aload_n C 1 (dk oX4_add 22 rfl) rfl ?_
            refine r_getI C (dk oX4_add 23 rfl) fl_X4_29 rfl (kn hn rfl) ?_
            rw [hX2]
            refine r_iconst C (dk oX4_add 24 rfl) (v := nI 1) (by decide) ?_
            refine r_aload_n C 1 (dk oX4_add 25 rfl) rfl ?_
            refine r_getI C (dk oX4_add 26 rfl) fl_X4_20 rfl (kn hn rfl) ?_
            rw [p2]
            refine r_ishl C (dk oX4_add 27 rfl) ?_
            rw [shl1 (by omega)]
            refine r_ior C (dk oX4_add 28 rfl) ?_
            rw [fa_or]
            refine r_goto (tgt := 69) C (dk oX4_add 29 rfl) (by decide) ?_
            refine r_putI C (dk oX4_add 39 rfl) fl_X4_29 ft_4_1 rfl (kn hn rfl) ?_
            refine r_aload_n C 1 (dk oX4_add 40 rfl) rfl ?_
            refine r_getR C (dk oX4_add 41 rfl) fl_X4_9 rfl (kn hn rfl) ?_
            refine r_aload_n C 1 (dk oX4_add 42 rfl) rfl ?_
            refine r_getI C (dk oX4_add 43 rfl) fl_X4_20 rfl (kn hn rfl) ?_
            rw [up2_off (by decide), p2]
            refine r_iload_n C 2 (dk oX4_add 44 rfl) rfl ?_
            refine r_iast C _ (dk oX4_add 45 rfl) rfl (kn hn rfl) rfl (by omega) (by decide) ?_
            refine r_aload_n C 4 (dk oX4_add 46 rfl) rfl ?_
            refine r_iconst C (dk oX4_add 47 rfl) (v := nI 0) (by decide) ?_
            refine r_aload_n C 1 (dk oX4_add 48 rfl) rfl ?_
            refine r_getR C (dk oX4_add 49 rfl) fl_X4_17 rfl (kn hn rfl) ?_
            refine r_aload_n C 1 (dk oX4_add 50 rfl) rfl ?_
            refine r_getI C (dk oX4_add 51 rfl) fl_X4_20 rfl (kn hn rfl) ?_
            rw [up2_ne (by decide), up2_off (by decide), p2]
            refine r_aald C _ (dk oX4_add 52 rfl) rfl (by decide) (kn hn rfl) rfl (by omega) (by decide) ?_
            rw [Nat.one_mul]
            refine r_iconst C (dk oX4_add 53 rfl) (v := nI 0) (by decide) ?_
            refine r_bipush C (dk oX4_add 54 rfl) (v := nI 12) (by decide) ?_
            refine r_cpI C 7 (23 + np) (dk oX4_add 55 rfl) cp_X4 rfl (shA_act np hnp).1 (kn hn rfl) (by omega) (by decide) (by decide) (by decide) (by decide) ⟨Nat.le_of_ble_eq_true rfl, Nat.le_of_ble_eq_true rfl⟩ ?_
            refine r_aload_n C 1 (dk oX4_add 56 rfl) rfl ?_
            refine r_dup C (dk oX4_add 57 rfl) rfl ?_
            refine r_getI C (dk oX4_add 58 rfl) fl_X4_20 rfl (kn hn rfl) ?_
            rw [cpA_ne (by omega), up2_ne (by decide), up2_off (by decide), p2]
            refine r_iconst C (dk oX4_add 59 rfl) (v := nI 1) (by decide) ?_
            refine r_iadd C (dk oX4_add 60 rfl) ?_
            rw [nI_add]
            refine r_putI C (dk oX4_add 61 rfl) fl_X4_20 ft_4_0 rfl (kn hn rfl) ?_
            refine r_aload_n C 1 (dk oX4_add 62 rfl) rfl ?_
            refine r_getI C (dk oX4_add 63 rfl) fl_X4_20 rfl (kn hn rfl) ?_
            rw [up2_at]
            refine r_iconst C (dk oX4_add 64 rfl) (v := nI 1) (by decide) ?_
            refine r_isub C (dk oX4_add 65 rfl) ?_
            rw [pk_sub (by omega), Nat.add_sub_cancel]
            refine hret (dk oX4_add 66 rfl) rfl ?_
            refine ⟨rfl, rfl, ?_⟩
            rw [hlate]
            rfl

set_option maxHeartbeats 1000000 in
set_option maxRecDepth 100000 in
theorem c_X4_factSet (hn : 117 ≤ n) (I : MI) (J : MJ) (np : Nat) (dy : Nat → Nat) (lt : Nat → Bool) (ac : Nat → Nat → Nat) (hP : CPap I 8 np dy lt ac) (p_ : Nat) (hp : p_ < np) : Ci l n ad cA D z 0 yX4_factSet cX4_factSet 4 .int I J [.ref (ad 19), .int (nI p_)] (fun r I' J' => r = nI (bS (fun f => decide (0 < ac p_ f)) 12) ∧ I' = I ∧ J' = J) := by
  refine Ci.of (by decide) (Nat.le_of_ble_eq_true rfl) ?_
  intro p e s m args below meth c A C hin Z Q hret
  obtain ⟨p1, p2, p3⟩ := hP
  have pa := (p3 p_ hp).2.2.2
  refine r_iconst C (dk oX4_factSet 0 rfl) (v := nI 0) (by decide) ?_
  refine r_istore_n (lo' := [(2, _), (0, _), (1, _)]) C (dk oX4_factSet 1 rfl) rfl (by decide) rfl ?_
  refine r_iconst C (dk oX4_factSet 2 rfl) (v := nI 0) (by decide) ?_
  refine r_istore_n (lo' := [(3, _), (2, _), (0, _), (1, _)]) C (dk oX4_factSet 3 rfl) rfl (by decide) rfl ?_
  have L4 : ∀ (d_ : Nat) (f : Nat), 12 - f < d_ → f ≤ 12 → V p l e (rmL 0) s m args below meth c Q D A 4 0 0 n ad (mE cA ad I J) 4 [(0, .ref (ad 19)), (1, .int (nI p_)), (2, .int (nI (bS (fun f => decide (0 < ac p_ f)) f))), (3, .int (nI f))] [] := by
    intro d_
    induction d_ with
    | zero => intros; exact absurd (by assumption) (Nat.not_lt_zero _)
    | succ d_ ih => 
      intro f hd_ hf
      refine r_iload_n C 3 (dk oX4_factSet 4 rfl) rfl ?_
      refine r_bipush C (dk oX4_factSet 5 rfl) (v := nI 12) (by decide) ?_
      refine r_icmp_ge (tgt := 33) C (dk oX4_factSet 6 rfl) (by decide) (fun hb7 => ?_) (fun hb7 => ?_)
      · simp (disch := omega) only [nI_leI, nI_ltI, nI_eq, nI_eq0] at hb7
        refine r_iload_n C 2 (dk oX4_factSet 22 rfl) rfl ?_
        refine hret (dk oX4_factSet 23 rfl) rfl ?_
        refine ⟨?_, rfl, rfl⟩
        rw [show f = 12 by omega]
      · simp (disch := omega) only [nI_leI, nI_ltI, nI_eq, nI_eq0] at hb7
        refine r_aload_n C 0 (dk oX4_factSet 7 rfl) rfl ?_
        refine r_getR C (dk oX4_factSet 8 rfl) fl_X4_17 rfl (kn hn rfl) ?_
        refine r_iload_n C 1 (dk oX4_factSet 9 rfl) rfl ?_
        refine r_aald C _ (dk oX4_factSet 10 rfl) rfl (by decide) (kn hn rfl) rfl (by omega) (by decide) ?_
        rw [Nat.one_mul]
        refine r_iload_n C 3 (dk oX4_factSet 11 rfl) rfl ?_
        refine r_iald C _ (dk oX4_factSet 12 rfl) (shA_act p_ (by omega)).1 (by omega) rfl (by omega) (by decide) ?_
        rw [(pa f (by omega)).1]
        refine r_if_eq (tgt := 27) C (dk oX4_factSet 13 rfl) (by decide) (fun hb18 => ?_) (fun hb18 => ?_)
        · have hpf := (pa f (by omega)).2
          simp (disch := omega) only [nI_leI, nI_ltI, nI_eq, nI_eq0] at hb18
          refine r_iinc (lo' := [(3, _), (0, _), (1, _), (2, _)]) C 3 (dk oX4_factSet 20 rfl) rfl (by first | exact nI_inc _ | rfl) (by decide) rfl ?_
          refine r_goto (tgt := 4) C (dk oX4_factSet 21 rfl) (by decide) ?_
          refine V.sub [1, 2, 3, 0] rfl ?_
          have eS : bS (fun f => decide (0 < ac p_ f)) (f + 1) = if decide (0 < ac p_ f) = true then bS (fun f => decide (0 < ac p_ f)) f ||| 2 ^ f else bS (fun f => decide (0 < ac p_ f)) f := rfl
          have hR := ih (f + 1) (by omega) (by omega)
          rw [eS] at hR
          first
            | (rw [if_pos (by rw [decide_eq_true_eq]; omega)] at hR; exact hR)
            | (rw [if_neg (by rw [decide_eq_true_eq]; omega)] at hR; exact hR)
        · have hpf := (pa f (by omega)).2
          simp (disch := omega) only [nI_leI, nI_ltI, nI_eq, nI_eq0] at hb18
          refine r_iload_n C 2 (dk oX4_factSet 14 rfl) rfl ?_
          refine r_iconst C (dk oX4_factSet 15 rfl) (v := nI 1) (by decide) ?_
          refine r_iload_n C 3 (dk oX4_factSet 16 rfl) rfl ?_
          refine r_ishl C (dk oX4_factSet 17 rfl) ?_
          refine r_ior C (dk oX4_factSet 18 rfl) ?_
          rw [or_bit (by omega)]
          refine r_istore_n (lo' := [(2, _), (0, _), (1, _), (3, _)]) C (dk oX4_factSet 19 rfl) rfl (by decide) rfl ?_
          refine r_iinc (lo' := [(3, _), (2, _), (0, _), (1, _)]) C 3 (dk oX4_factSet 20 rfl) rfl (by first | exact nI_inc _ | rfl) (by decide) rfl ?_
          refine r_goto (tgt := 4) C (dk oX4_factSet 21 rfl) (by decide) ?_
          refine V.sub [2, 3, 1, 0] rfl ?_
          have eS : bS (fun f => decide (0 < ac p_ f)) (f + 1) = if decide (0 < ac p_ f) = true then bS (fun f => decide (0 < ac p_ f)) f ||| 2 ^ f else bS (fun f => decide (0 < ac p_ f)) f := rfl
          have hR := ih (f + 1) (by omega) (by omega)
          rw [eS] at hR
          first
            | (rw [if_pos (by rw [decide_eq_true_eq]; omega)] at hR; exact hR)
            | (rw [if_neg (by rw [decide_eq_true_eq]; omega)] at hR; exact hR)
  refine V.sub [2, 3, 1, 0] rfl ?_
  exact L4 13 0 (by omega) (by omega)

set_option maxHeartbeats 1000000 in
set_option maxRecDepth 100000 in
theorem c_X5_add (hn : 117 ≤ n) (I : MI) (J : MJ) (nk : Nat) (sd fo od ct : Nat → Nat) (br : Nat → Bool) (hK : CPrf I 8 nk sd fo od ct br) (hnk : nk < 16) (s_ f o_ c_ : Nat) : Ci l n ad cA D z 0 yX5_add cX5_add 5 .int I J [.ref (ad 33), .int (nI s_), .int (nI f), .int (nI o_), .int (nI c_)] (fun r I' J' => r = nI nk ∧ J' = J ∧ I' = up2 (up2 (up2 (up2 (up2 I 34 nk (nI s_)) 35 nk (nI f)) 36 nk (nI o_)) 37 nk (nI c_)) 33 0 (nI (nk + 1))) := by
  refine Ci.of (by decide) (Nat.le_of_ble_eq_true rfl) ?_
  intro p e s m args below meth c A C hin Z Q hret
  have p2 := hK.2.1
  refine r_aload_n C 0 (dk oX5_add 0 rfl) rfl ?_
  refine r_getI C (dk oX5_add 1 rfl) fl_X5_24 rfl (kn hn rfl) ?_
  rw [p2]
  refine r_bipush C (dk oX5_add 2 rfl) (v := nI 16) (by decide) ?_
  refine r_icmp_lt (tgt := 12) C (dk oX5_add 3 rfl) (by decide) (fun hb6 => ?_) (fun hb6 => absurd (nI_lt hnk (by decide)) hb6)
  refine r_aload_n C 0 (dk oX5_add 6 rfl) rfl ?_
  refine r_getR C (dk oX5_add 7 rfl) fl_X5_9 rfl (kn hn rfl) ?_
  refine r_aload_n C 0 (dk oX5_add 8 rfl) rfl ?_
  refine r_getI C (dk oX5_add 9 rfl) fl_X5_24 rfl (kn hn rfl) ?_
  rw [p2]
  refine r_iload_n C 1 (dk oX5_add 10 rfl) rfl ?_
  refine r_iast C _ (dk oX5_add 11 rfl) rfl (kn hn rfl) rfl (by omega) (by decide) ?_
  refine r_aload_n C 0 (dk oX5_add 12 rfl) rfl ?_
  refine r_getR C (dk oX5_add 13 rfl) fl_X5_15 rfl (kn hn rfl) ?_
  refine r_aload_n C 0 (dk oX5_add 14 rfl) rfl ?_
  refine r_getI C (dk oX5_add 15 rfl) fl_X5_24 rfl (kn hn rfl) ?_
  rw [up2_ne (by decide), p2]
  refine r_iload_n C 2 (dk oX5_add 16 rfl) rfl ?_
  refine r_iast C _ (dk oX5_add 17 rfl) rfl (kn hn rfl) rfl (by omega) (by decide) ?_
  refine r_aload_n C 0 (dk oX5_add 18 rfl) rfl ?_
  refine r_getR C (dk oX5_add 19 rfl) fl_X5_18 rfl (kn hn rfl) ?_
  refine r_aload_n C 0 (dk oX5_add 20 rfl) rfl ?_
  refine r_getI C (dk oX5_add 21 rfl) fl_X5_24 rfl (kn hn rfl) ?_
  rw [up2_ne (by decide), up2_ne (by decide), p2]
  refine r_iload_n C 3 (dk oX5_add 22 rfl) rfl ?_
  refine r_iast C _ (dk oX5_add 23 rfl) rfl (kn hn rfl) rfl (by omega) (by decide) ?_
  refine r_aload_n C 0 (dk oX5_add 24 rfl) rfl ?_
  refine r_getR C (dk oX5_add 25 rfl) fl_X5_21 rfl (kn hn rfl) ?_
  refine r_aload_n C 0 (dk oX5_add 26 rfl) rfl ?_
  refine r_getI C (dk oX5_add 27 rfl) fl_X5_24 rfl (kn hn rfl) ?_
  rw [up2_ne (by decide), up2_ne (by decide), up2_ne (by decide), p2]
  refine r_iload C 4 (dk oX5_add 28 rfl) rfl ?_
  refine r_iast C _ (dk oX5_add 29 rfl) rfl (kn hn rfl) rfl (by omega) (by decide) ?_
  refine r_aload_n C 0 (dk oX5_add 30 rfl) rfl ?_
  refine r_dup C (dk oX5_add 31 rfl) rfl ?_
  refine r_getI C (dk oX5_add 32 rfl) fl_X5_24 rfl (kn hn rfl) ?_
  rw [up2_ne (by decide), up2_ne (by decide), up2_ne (by decide), up2_ne (by decide), p2]
  refine r_iconst C (dk oX5_add 33 rfl) (v := nI 1) (by decide) ?_
  refine r_iadd C (dk oX5_add 34 rfl) ?_
  rw [nI_add]
  refine r_putI C (dk oX5_add 35 rfl) fl_X5_24 ft_5_0 rfl (kn hn rfl) ?_
  refine r_aload_n C 0 (dk oX5_add 36 rfl) rfl ?_
  refine r_getI C (dk oX5_add 37 rfl) fl_X5_24 rfl (kn hn rfl) ?_
  rw [up2_at]
  refine r_iconst C (dk oX5_add 38 rfl) (v := nI 1) (by decide) ?_
  refine r_isub C (dk oX5_add 39 rfl) ?_
  rw [pk_sub (by omega), Nat.add_sub_cancel]
  refine hret (dk oX5_add 40 rfl) rfl ?_
  exact ⟨rfl, rfl, rfl⟩

set_option maxHeartbeats 1000000 in
set_option maxRecDepth 100000 in
theorem c_X5_notBrought (hn : 117 ≤ n) (I : MI) (J : MJ) (nk : Nat) (sd fo od ct : Nat → Nat) (br : Nat → Bool) (hK : CPrf I 8 nk sd fo od ct br) (s_ m_ : Nat) (hs : s_ < 2) (hm : m_ < 100) : Ci l n ad cA D z 1 yX5_notBrought cX5_notBrought 6 .int I J [.ref (ad 33), .int (nI s_), .int (nI m_)] (fun r I' J' => r = nI (chS (fun j => decide (sd j = s_) && !(br j)) m_ nk) ∧ I' = I ∧ J' = J) := by
  refine Ci.of (by decide) (Nat.le_of_ble_eq_true rfl) ?_
  intro p e s m args below meth c A C hin Z Q hret
  obtain ⟨p1, p2, p3, p4⟩ := hK
  have hB := @bS_lt br nk
  have hB2 : bS br nk < 2 ^ 16 := Nat.lt_of_lt_of_le hB (Nat.pow_le_pow_right (by decide) p1)
  refine r_iconst C (dk oX5_notBrought 0 rfl) (v := nI 0) (by decide) ?_
  refine r_istore_n (lo' := [(3, _), (0, _), (1, _), (2, _)]) C (dk oX5_notBrought 1 rfl) rfl (by decide) rfl ?_
  refine r_iconst C (dk oX5_notBrought 2 rfl) (v := nI 0) (by decide) ?_
  refine r_istore (lo' := [(4, _), (3, _), (0, _), (1, _), (2, _)]) C (dk oX5_notBrought 3 rfl) (by decide) rfl ?_
  refine r_iconst C (dk oX5_notBrought 4 rfl) (v := nI 0) (by decide) ?_
  refine r_istore (lo' := [(5, _), (4, _), (3, _), (0, _), (1, _), (2, _)]) C (dk oX5_notBrought 5 rfl) (by decide) rfl ?_
  have L8 : ∀ (d_ : Nat) (k_ : Nat), nk - k_ < d_ → k_ ≤ nk → V p l e (rmL 1) s m args below meth c Q D A 6 0 0 n ad (mE cA ad I J) 8 [(0, .ref (ad 33)), (1, .int (nI s_)), (2, .int (nI m_)), (3, .int (nI (chS (fun j => decide (sd j = s_) && !(br j)) m_ k_))), (4, .int (nI (chN (fun j => decide (sd j = s_) && !(br j)) m_ k_))), (5, .int (nI k_))] [] := by
    intro d_
    induction d_ with
    | zero => intros; exact absurd (by assumption) (Nat.not_lt_zero _)
    | succ d_ ih => 
      intro k_ hd_ hk
      have hcN := @chN_le (fun j => decide (sd j = s_) && !(br j)) m_ k_
      refine r_iload C 5 (dk oX5_notBrought 6 rfl) rfl ?_
      refine r_aload_n C 0 (dk oX5_notBrought 7 rfl) rfl ?_
      refine r_getI C (dk oX5_notBrought 8 rfl) fl_X5_24 rfl (kn hn rfl) ?_
      rw [p2]
      refine r_icmp_ge (tgt := 62) C (dk oX5_notBrought 9 rfl) (by decide) (fun hb14 => ?_) (fun hb14 => ?_)
      · simp (disch := omega) only [nI_leI, nI_ltI, nI_eq, nI_eq0] at hb14
        refine r_iload_n C 3 (dk oX5_notBrought 33 rfl) rfl ?_
        refine hret (dk oX5_notBrought 34 rfl) rfl ?_
        refine ⟨?_, rfl, rfl⟩
        first
          | rw [show k_ = nk by omega]
          | rw [(chS_cap (q := (fun j => decide (sd j = s_) && !(br j))) (m := m_) (k := k_) (by omega) nk (by omega)).1]
      · simp (disch := omega) only [nI_leI, nI_ltI, nI_eq, nI_eq0] at hb14
        refine r_iload C 4 (dk oX5_notBrought 10 rfl) rfl ?_
        refine r_iload_n C 2 (dk oX5_notBrought 11 rfl) rfl ?_
        refine r_icmp_ge (tgt := 62) C (dk oX5_notBrought 12 rfl) (by decide) (fun hb20 => ?_) (fun hb20 => ?_)
        · simp (disch := omega) only [nI_leI, nI_ltI, nI_eq, nI_eq0] at hb20
          refine r_iload_n C 3 (dk oX5_notBrought 33 rfl) rfl ?_
          refine hret (dk oX5_notBrought 34 rfl) rfl ?_
          refine ⟨?_, rfl, rfl⟩
          first
            | rw [show k_ = nk by omega]
            | rw [(chS_cap (q := (fun j => decide (sd j = s_) && !(br j))) (m := m_) (k := k_) (by omega) nk (by omega)).1]
        · simp (disch := omega) only [nI_leI, nI_ltI, nI_eq, nI_eq0] at hb20
          refine r_aload_n C 0 (dk oX5_notBrought 13 rfl) rfl ?_
          refine r_getR C (dk oX5_notBrought 14 rfl) fl_X5_9 rfl (kn hn rfl) ?_
          refine r_iload C 5 (dk oX5_notBrought 15 rfl) rfl ?_
          refine r_iald C _ (dk oX5_notBrought 16 rfl) rfl (kn hn rfl) rfl (by omega) (by decide) ?_
          rw [(p4 k_ (by omega)).1]
          have hsk := (p4 k_ (by omega)).2.1
          refine r_iload_n C 1 (dk oX5_notBrought 17 rfl) rfl ?_
          refine r_icmp_ne (tgt := 56) C (dk oX5_notBrought 18 rfl) (by decide) (fun hb31 => ?_) (fun hb31 => ?_)
          · simp (disch := omega) only [nI_leI, nI_ltI, nI_eq, nI_eq0] at hb31
            refine r_iinc (lo' := [(5, _), (0, _), (1, _), (2, _), (3, _), (4, _)]) C 5 (dk oX5_notBrought 31 rfl) rfl (by first | exact nI_inc _ | rfl) (by decide) rfl ?_
            refine r_goto (tgt := 8) C (dk oX5_notBrought 32 rfl) (by decide) ?_
            refine V.sub [1, 2, 3, 4, 5, 0] rfl ?_
            have e1 : chS (fun j => decide (sd j = s_) && !(br j)) m_ (k_ + 1) = if chN (fun j => decide (sd j = s_) && !(br j)) m_ k_ < m_ ∧ (fun j => decide (sd j = s_) && !(br j)) k_ = true then chS (fun j => decide (sd j = s_) && !(br j)) m_ k_ ||| 2 ^ k_ else chS (fun j => decide (sd j = s_) && !(br j)) m_ k_ := rfl
            have e2 : chN (fun j => decide (sd j = s_) && !(br j)) m_ (k_ + 1) = if chN (fun j => decide (sd j = s_) && !(br j)) m_ k_ < m_ ∧ (fun j => decide (sd j = s_) && !(br j)) k_ = true then chN (fun j => decide (sd j = s_) && !(br j)) m_ k_ + 1 else chN (fun j => decide (sd j = s_) && !(br j)) m_ k_ := rfl
            have hR := ih (k_ + 1) (by omega) (by omega)
            rw [e1, e2] at hR
            first
              | (rw [if_pos ⟨by omega, by show (decide (sd k_ = s_) && !(br k_)) = true; rw [decide_eq_true hb31, hb43]; rfl⟩, if_pos ⟨by omega, by show (decide (sd k_ = s_) && !(br k_)) = true; rw [decide_eq_true hb31, hb43]; rfl⟩] at hR; exact hR)
              | (have hno : ¬ (chN (fun j => decide (sd j = s_) && !(br j)) m_ k_ < m_ ∧ (fun j => decide (sd j = s_) && !(br j)) k_ = true) := fun z => by
                   have z2 : (decide (sd k_ = s_) && !(br k_)) = true := z.2
                   first
                     | (rw [decide_eq_false hb31] at z2; cases z2)
                     | (rw [hb43, Bool.not_true, Bool.and_false] at z2; cases z2)
                 rw [if_neg hno, if_neg hno] at hR; exact hR)
          · simp (disch := omega) only [nI_leI, nI_ltI, nI_eq, nI_eq0] at hb31
            refine r_aload_n C 0 (dk oX5_notBrought 19 rfl) rfl ?_
            refine r_getI C (dk oX5_notBrought 20 rfl) fl_X5_29 rfl (kn hn rfl) ?_
            rw [p3]
            refine r_iload C 5 (dk oX5_notBrought 21 rfl) rfl ?_
            refine r_isi C Z (dk oX5_notBrought 22 rfl) cl_X5_32 st_X9_has (c_X9_has I J (bS br nk) k_ (by omega) (by omega)) rfl rfl (Nat.le_of_ble_eq_true rfl) ⟨Nat.le_of_ble_eq_true rfl, Nat.le_of_ble_eq_true rfl⟩ ⟨Nat.zero_le _, Nat.zero_le _⟩ (fun r40 I40 J40 h40 => ?_)
            obtain ⟨h40, e1_, e2_⟩ := h40
            have e1_ := e1_.symm
            have e2_ := e2_.symm
            subst e1_
            subst e2_
            subst h40
            rw [bS_bit, decide_eq_true (show k_ < nk by omega), Bool.true_and]
            refine r_if_ne (tgt := 56) C (dk oX5_notBrought 23 rfl) (by decide) (fun hb43 => ?_) (fun hb43 => ?_)
            · rw [b32_n] at hb43
              refine r_iinc (lo' := [(5, _), (0, _), (1, _), (2, _), (3, _), (4, _)]) C 5 (dk oX5_notBrought 31 rfl) rfl (by first | exact nI_inc _ | rfl) (by decide) rfl ?_
              refine r_goto (tgt := 8) C (dk oX5_notBrought 32 rfl) (by decide) ?_
              refine V.sub [1, 2, 3, 4, 5, 0] rfl ?_
              have e1 : chS (fun j => decide (sd j = s_) && !(br j)) m_ (k_ + 1) = if chN (fun j => decide (sd j = s_) && !(br j)) m_ k_ < m_ ∧ (fun j => decide (sd j = s_) && !(br j)) k_ = true then chS (fun j => decide (sd j = s_) && !(br j)) m_ k_ ||| 2 ^ k_ else chS (fun j => decide (sd j = s_) && !(br j)) m_ k_ := rfl
              have e2 : chN (fun j => decide (sd j = s_) && !(br j)) m_ (k_ + 1) = if chN (fun j => decide (sd j = s_) && !(br j)) m_ k_ < m_ ∧ (fun j => decide (sd j = s_) && !(br j)) k_ = true then chN (fun j => decide (sd j = s_) && !(br j)) m_ k_ + 1 else chN (fun j => decide (sd j = s_) && !(br j)) m_ k_ := rfl
              have hR := ih (k_ + 1) (by omega) (by omega)
              rw [e1, e2] at hR
              first
                | (rw [if_pos ⟨by omega, by show (decide (sd k_ = s_) && !(br k_)) = true; rw [decide_eq_true hb31, hb43]; rfl⟩, if_pos ⟨by omega, by show (decide (sd k_ = s_) && !(br k_)) = true; rw [decide_eq_true hb31, hb43]; rfl⟩] at hR; exact hR)
                | (have hno : ¬ (chN (fun j => decide (sd j = s_) && !(br j)) m_ k_ < m_ ∧ (fun j => decide (sd j = s_) && !(br j)) k_ = true) := fun z => by
                     have z2 : (decide (sd k_ = s_) && !(br k_)) = true := z.2
                     first
                       | (rw [decide_eq_false hb31] at z2; cases z2)
                       | (rw [hb43, Bool.not_true, Bool.and_false] at z2; cases z2)
                   rw [if_neg hno, if_neg hno] at hR; exact hR)
            · rw [b32_0] at hb43
              refine r_iload_n C 3 (dk oX5_notBrought 24 rfl) rfl ?_
              refine r_iconst C (dk oX5_notBrought 25 rfl) (v := nI 1) (by decide) ?_
              refine r_iload C 5 (dk oX5_notBrought 26 rfl) rfl ?_
              refine r_ishl C (dk oX5_notBrought 27 rfl) ?_
              refine r_ior C (dk oX5_notBrought 28 rfl) ?_
              rw [or_bit (by omega)]
              refine r_istore_n (lo' := [(3, _), (0, _), (1, _), (2, _), (4, _), (5, _)]) C (dk oX5_notBrought 29 rfl) rfl (by decide) rfl ?_
              refine r_iinc (lo' := [(4, _), (3, _), (0, _), (1, _), (2, _), (5, _)]) C 4 (dk oX5_notBrought 30 rfl) rfl (by first | exact nI_inc _ | rfl) (by decide) rfl ?_
              refine r_iinc (lo' := [(5, _), (4, _), (3, _), (0, _), (1, _), (2, _)]) C 5 (dk oX5_notBrought 31 rfl) rfl (by first | exact nI_inc _ | rfl) (by decide) rfl ?_
              refine r_goto (tgt := 8) C (dk oX5_notBrought 32 rfl) (by decide) ?_
              refine V.sub [3, 4, 5, 2, 1, 0] rfl ?_
              have e1 : chS (fun j => decide (sd j = s_) && !(br j)) m_ (k_ + 1) = if chN (fun j => decide (sd j = s_) && !(br j)) m_ k_ < m_ ∧ (fun j => decide (sd j = s_) && !(br j)) k_ = true then chS (fun j => decide (sd j = s_) && !(br j)) m_ k_ ||| 2 ^ k_ else chS (fun j => decide (sd j = s_) && !(br j)) m_ k_ := rfl
              have e2 : chN (fun j => decide (sd j = s_) && !(br j)) m_ (k_ + 1) = if chN (fun j => decide (sd j = s_) && !(br j)) m_ k_ < m_ ∧ (fun j => decide (sd j = s_) && !(br j)) k_ = true then chN (fun j => decide (sd j = s_) && !(br j)) m_ k_ + 1 else chN (fun j => decide (sd j = s_) && !(br j)) m_ k_ := rfl
              have hR := ih (k_ + 1) (by omega) (by omega)
              rw [e1, e2] at hR
              first
                | (rw [if_pos ⟨by omega, by show (decide (sd k_ = s_) && !(br k_)) = true; rw [decide_eq_true hb31, hb43]; rfl⟩, if_pos ⟨by omega, by show (decide (sd k_ = s_) && !(br k_)) = true; rw [decide_eq_true hb31, hb43]; rfl⟩] at hR; exact hR)
                | (have hno : ¬ (chN (fun j => decide (sd j = s_) && !(br j)) m_ k_ < m_ ∧ (fun j => decide (sd j = s_) && !(br j)) k_ = true) := fun z => by
                     have z2 : (decide (sd k_ = s_) && !(br k_)) = true := z.2
                     first
                       | (rw [decide_eq_false hb31] at z2; cases z2)
                       | (rw [hb43, Bool.not_true, Bool.and_false] at z2; cases z2)
                   rw [if_neg hno, if_neg hno] at hR; exact hR)
  refine V.sub [3, 4, 5, 2, 1, 0] rfl ?_
  exact L8 (nk + 1) 0 (by omega) (by omega)

set_option maxHeartbeats 1000000 in
set_option maxRecDepth 100000 in
theorem c_X5_costOf (hn : 117 ≤ n) (I : MI) (J : MJ) (nk : Nat) (sd fo od ct : Nat → Nat) (br : Nat → Bool) (hK : CPrf I 8 nk sd fo od ct br) (S_ : Nat) (hS : S_ < 2 ^ 31) : Ci l n ad cA D z 1 yX5_costOf cX5_costOf 4 .int I J [.ref (ad 33), .int (nI S_)] (fun r I' J' => r = nI (csN ct S_ nk) ∧ I' = I ∧ J' = J) := by
  refine Ci.of (by decide) (Nat.le_of_ble_eq_true rfl) ?_
  intro p e s m args below meth c A C hin Z Q hret
  obtain ⟨p1, p2, p3, p4⟩ := hK
  refine r_iconst C (dk oX5_costOf 0 rfl) (v := nI 0) (by decide) ?_
  refine r_istore_n (lo' := [(2, _), (0, _), (1, _)]) C (dk oX5_costOf 1 rfl) rfl (by decide) rfl ?_
  refine r_iconst C (dk oX5_costOf 2 rfl) (v := nI 0) (by decide) ?_
  refine r_istore_n (lo' := [(3, _), (2, _), (0, _), (1, _)]) C (dk oX5_costOf 3 rfl) rfl (by decide) rfl ?_
  have L4 : ∀ (d_ : Nat) (k_ : Nat), nk - k_ < d_ → k_ ≤ nk → V p l e (rmL 1) s m args below meth c Q D A 4 0 0 n ad (mE cA ad I J) 4 [(0, .ref (ad 33)), (1, .int (nI S_)), (2, .int (nI (csN ct S_ k_))), (3, .int (nI k_))] [] := by
    intro d_
    induction d_ with
    | zero => intros; exact absurd (by assumption) (Nat.not_lt_zero _)
    | succ d_ ih => 
      intro k_ hd_ hk
      refine r_iload_n C 3 (dk oX5_costOf 4 rfl) rfl ?_
      refine r_aload_n C 0 (dk oX5_costOf 5 rfl) rfl ?_
      refine r_getI C (dk oX5_costOf 6 rfl) fl_X5_24 rfl (kn hn rfl) ?_
      rw [p2]
      refine r_icmp_ge (tgt := 35) C (dk oX5_costOf 7 rfl) (by decide) (fun hb9 => ?_) (fun hb9 => ?_)
      · simp (disch := omega) only [nI_leI, nI_ltI, nI_eq, nI_eq0] at hb9
        refine r_iload_n C 2 (dk oX5_costOf 21 rfl) rfl ?_
        refine hret (dk oX5_costOf 22 rfl) rfl ?_
        refine ⟨?_, rfl, rfl⟩
        rw [show k_ = nk by omega]
      · simp (disch := omega) only [nI_leI, nI_ltI, nI_eq, nI_eq0] at hb9
        refine r_iload_n C 1 (dk oX5_costOf 8 rfl) rfl ?_
        refine r_iload_n C 3 (dk oX5_costOf 9 rfl) rfl ?_
        refine r_isi C Z (dk oX5_costOf 10 rfl) cl_X5_32 st_X9_has (c_X9_has I J S_ k_ (by omega) (by omega)) rfl rfl (Nat.le_of_ble_eq_true rfl) ⟨Nat.le_of_ble_eq_true rfl, Nat.le_of_ble_eq_true rfl⟩ ⟨Nat.zero_le _, Nat.zero_le _⟩ (fun r14 I14 J14 h14 => ?_)
        obtain ⟨h14, e1_, e2_⟩ := h14
        have e1_ := e1_.symm
        have e2_ := e2_.symm
        subst e1_
        subst e2_
        subst h14
        refine r_if_eq (tgt := 29) C (dk oX5_costOf 11 rfl) (by decide) (fun hb17 => ?_) (fun hb17 => ?_)
        · rw [b32_0] at hb17
          refine r_iinc (lo' := [(3, _), (0, _), (1, _), (2, _)]) C 3 (dk oX5_costOf 19 rfl) rfl (by first | exact nI_inc _ | rfl) (by decide) rfl ?_
          refine r_goto (tgt := 4) C (dk oX5_costOf 20 rfl) (by decide) ?_
          refine V.sub [1, 2, 3, 0] rfl ?_
          have e1 : csN ct S_ (k_ + 1) = if S_.testBit k_ = true then csN ct S_ k_ + ct k_ else csN ct S_ k_ := rfl
          have hR := ih (k_ + 1) (by omega) (by omega)
          rw [e1] at hR
          first
            | (rw [if_pos hb17] at hR; exact hR)
            | (rw [if_neg (by rw [hb17]; decide)] at hR; exact hR)
        · rw [b32_n] at hb17
          refine r_iload_n C 2 (dk oX5_costOf 12 rfl) rfl ?_
          refine r_aload_n C 0 (dk oX5_costOf 13 rfl) rfl ?_
          refine r_getR C (dk oX5_costOf 14 rfl) fl_X5_21 rfl (kn hn rfl) ?_
          refine r_iload_n C 3 (dk oX5_costOf 15 rfl) rfl ?_
          refine r_iald C _ (dk oX5_costOf 16 rfl) rfl (kn hn rfl) rfl (by omega) (by decide) ?_
          rw [(p4 k_ (by omega)).2.2.2.2.2.2.1]
          refine r_iadd C (dk oX5_costOf 17 rfl) ?_
          rw [nI_add]
          refine r_istore_n (lo' := [(2, _), (0, _), (1, _), (3, _)]) C (dk oX5_costOf 18 rfl) rfl (by decide) rfl ?_
          refine r_iinc (lo' := [(3, _), (2, _), (0, _), (1, _)]) C 3 (dk oX5_costOf 19 rfl) rfl (by first | exact nI_inc _ | rfl) (by decide) rfl ?_
          refine r_goto (tgt := 4) C (dk oX5_costOf 20 rfl) (by decide) ?_
          refine V.sub [2, 3, 1, 0] rfl ?_
          have e1 : csN ct S_ (k_ + 1) = if S_.testBit k_ = true then csN ct S_ k_ + ct k_ else csN ct S_ k_ := rfl
          have hR := ih (k_ + 1) (by omega) (by omega)
          rw [e1] at hR
          first
            | (rw [if_pos hb17] at hR; exact hR)
            | (rw [if_neg (by rw [hb17]; decide)] at hR; exact hR)
  refine V.sub [2, 3, 1, 0] rfl ?_
  exact L4 (nk + 1) 0 (by omega) (by omega)

set_option maxHeartbeats 1000000 in
set_option maxRecDepth 100000 in
theorem c56_8_X1_copyFrom (hn : 117 ≤ n) (I : MI) (J : MJ) : Cv l n ad cA D z 1 yX1_copyFrom cX1_copyFrom 3 I J [.ref (ad 57), .ref (ad 9)] (fun I' J' => smC I I' J J' 8 56 ∧ (∀ k, k ≠ 57 → k ≠ 58 → k ≠ 59 → I' k = I k) ∧ ∀ k, k < 61 ∨ 66 < k → J' k = J k) := by
  refine Cv.of (by decide) (Nat.le_of_ble_eq_true rfl) ?_
  intro p e s m args below meth c A C hin Z Q hret
  have hA8 : ∀ c, c < 6 → shA (13 + 1 * c) = some (1, 64) := by decide
  have hA56 : ∀ c, c < 6 → shA (61 + 1 * c) = some (1, 64) := by decide
  refine r_aload_n C 0 (dk oX1_copyFrom 0 rfl) rfl ?_
  refine r_aload_n C 1 (dk oX1_copyFrom 1 rfl) rfl ?_
  refine r_getI C (dk oX1_copyFrom 2 rfl) fl_X1_23 rfl (kn hn rfl) ?_
  refine r_putI C (dk oX1_copyFrom 3 rfl) fl_X1_23 ft_1_0 rfl (kn hn rfl) ?_
  refine r_aload_n C 1 (dk oX1_copyFrom 4 rfl) rfl ?_
  refine r_getR C (dk oX1_copyFrom 5 rfl) fl_X1_9 rfl (kn hn rfl) ?_
  refine r_iconst C (dk oX1_copyFrom 6 rfl) (v := nI 0) (by decide) ?_
  refine r_aload_n C 0 (dk oX1_copyFrom 7 rfl) rfl ?_
  refine r_getR C (dk oX1_copyFrom 8 rfl) fl_X1_9 rfl (kn hn rfl) ?_
  refine r_iconst C (dk oX1_copyFrom 9 rfl) (v := nI 0) (by decide) ?_
  refine r_bipush C (dk oX1_copyFrom 10 rfl) (v := nI 6) (by decide) ?_
  refine r_cpI C 10 58 (dk oX1_copyFrom 11 rfl) cp_X1 rfl rfl (kn hn rfl) (kn hn rfl) (by decide) (by decide) (by decide) (by decide) ⟨Nat.le_of_ble_eq_true rfl, Nat.le_of_ble_eq_true rfl⟩ ?_
  refine r_aload_n C 1 (dk oX1_copyFrom 12 rfl) rfl ?_
  refine r_getR C (dk oX1_copyFrom 13 rfl) fl_X1_15 rfl (kn hn rfl) ?_
  refine r_iconst C (dk oX1_copyFrom 14 rfl) (v := nI 0) (by decide) ?_
  refine r_aload_n C 0 (dk oX1_copyFrom 15 rfl) rfl ?_
  refine r_getR C (dk oX1_copyFrom 16 rfl) fl_X1_15 rfl (kn hn rfl) ?_
  refine r_iconst C (dk oX1_copyFrom 17 rfl) (v := nI 0) (by decide) ?_
  refine r_bipush C (dk oX1_copyFrom 18 rfl) (v := nI 6) (by decide) ?_
  refine r_cpI C 11 59 (dk oX1_copyFrom 19 rfl) cp_X1 rfl rfl (kn hn rfl) (kn hn rfl) (by decide) (by decide) (by decide) (by decide) ⟨Nat.le_of_ble_eq_true rfl, Nat.le_of_ble_eq_true rfl⟩ ?_
  obtain ⟨I9, hI9⟩ : ∃ X, X = cpA (cpA (up2 I 57 0 (I 9 0)) 10 58 6) 11 59 6 := ⟨_, rfl⟩
  rw [← hI9]
  refine r_iconst C (dk oX1_copyFrom 20 rfl) (v := nI 0) (by decide) ?_
  refine r_istore_n (lo' := [(2, _), (0, _), (1, _)]) C (dk oX1_copyFrom 21 rfl) rfl (by decide) rfl ?_
  have L40 : ∀ (d_ : Nat) (c_ : Nat) (J1 : MJ), 6 - c_ < d_ → c_ ≤ 6 → (∀ c, c < c_ → ∀ w, w < 64 → J1 (61 + c) w = J (13 + c) w) → (∀ k, k < 61 ∨ 66 < k → J1 k = J k) → V p l e (rmL 1) s m args below meth c Q D A 3 0 0 n ad (mE cA ad I9 J1) 40 [(0, .ref (ad 57)), (1, .ref (ad 9)), (2, .int (nI c_))] [] := by
    intro d_
    induction d_ with
    | zero => intros; exact absurd (by assumption) (Nat.not_lt_zero _)
    | succ d_ ih => 
      intro c_ J1 hd_ hc hJ hF
      refine r_iload_n C 2 (dk oX1_copyFrom 22 rfl) rfl ?_
      refine r_bipush C (dk oX1_copyFrom 23 rfl) (v := nI 6) (by decide) ?_
      refine r_icmp_ge (tgt := 71) C (dk oX1_copyFrom 24 rfl) (by decide) (fun hb43 => ?_) (fun hb43 => ?_)
      · simp (disch := omega) only [nI_leI, nI_ltI, nI_eq, nI_eq0] at hb43
        refine hret (dk oX1_copyFrom 39 rfl) ?_
        refine ⟨⟨?_, fun c hc6 => ⟨?_, ?_, fun w hw => hJ c (by omega) w hw⟩⟩, fun k q1 q2 q3 => ?_, hF⟩
        · rw [hI9, cpA_ne (by decide), cpA_ne (by decide), up2_at]
        · rw [hI9, cpA_ne (by decide), cpA_at hc6, up2_ne (by decide)]
        · rw [hI9, cpA_at hc6, cpA_ne (by decide), up2_ne (by decide)]
        · rw [hI9, cpA_ne q3, cpA_ne q2, up2_ne q1]
      · simp (disch := omega) only [nI_leI, nI_ltI, nI_eq, nI_eq0] at hb43
        refine r_aload_n C 1 (dk oX1_copyFrom 25 rfl) rfl ?_
        refine r_getR C (dk oX1_copyFrom 26 rfl) fl_X1_20 rfl (kn hn rfl) ?_
        refine r_iload_n C 2 (dk oX1_copyFrom 27 rfl) rfl ?_
        refine r_aald C _ (dk oX1_copyFrom 28 rfl) rfl (by decide) (kn hn rfl) rfl (by omega) (by decide) ?_
        refine r_iconst C (dk oX1_copyFrom 29 rfl) (v := nI 0) (by decide) ?_
        refine r_aload_n C 0 (dk oX1_copyFrom 30 rfl) rfl ?_
        refine r_getR C (dk oX1_copyFrom 31 rfl) fl_X1_20 rfl (kn hn rfl) ?_
        refine r_iload_n C 2 (dk oX1_copyFrom 32 rfl) rfl ?_
        refine r_aald C _ (dk oX1_copyFrom 33 rfl) rfl (by decide) (kn hn rfl) rfl (by omega) (by decide) ?_
        refine r_iconst C (dk oX1_copyFrom 34 rfl) (v := nI 0) (by decide) ?_
        refine r_bipush C (dk oX1_copyFrom 35 rfl) (v := nI 64) (by decide) ?_
        refine r_cpL C (13 + 1 * c_) (61 + 1 * c_) (dk oX1_copyFrom 36 rfl) cp_X1 (hA8 c_ (by omega)) (hA56 c_ (by omega)) (by omega) (by omega) (by decide) (by decide) (by decide) (by decide) ⟨Nat.le_of_ble_eq_true rfl, Nat.le_of_ble_eq_true rfl⟩ ?_
        refine r_iinc (lo' := [(2, _), (0, _), (1, _)]) C 2 (dk oX1_copyFrom 37 rfl) rfl (by first | exact nI_inc _ | rfl) (by decide) rfl ?_
        refine r_goto (tgt := 40) C (dk oX1_copyFrom 38 rfl) (by decide) ?_
        refine V.sub [1, 2, 0] rfl ?_
        refine ih (c_ + 1) _ (by omega) (by omega) (fun c hcc w hw => ?_) (fun k hk => by rw [cpA_ne (by omega)]; exact hF k hk)
        by_cases e : c = c_
        · subst e
          rw [show 61 + c = 61 + 1 * c by omega, cpA_at hw, hF _ (by omega), Nat.one_mul]
        · rw [cpA_ne (by omega)]
          exact hJ c (by omega) w hw
  refine V.sub [1, 2, 0] rfl ?_
  exact L40 7 0 J (by omega) (by omega) (fun c hc => absurd hc (Nat.not_lt_zero _)) (fun k _ => rfl)

set_option maxHeartbeats 1000000 in
set_option maxRecDepth 100000 in
theorem c56_8_X4_copyFrom (hn : 117 ≤ n) (I : MI) (J : MJ) : Cv l n ad cA D z 1 yX4_copyFrom cX4_copyFrom 3 I J [.ref (ad 67), .ref (ad 19)] (fun I' J' => J' = J ∧ smP I I' 8 56 ∧ ∀ k, k < 67 ∨ 80 < k → I' k = I k) := by
  refine Cv.of (by decide) (Nat.le_of_ble_eq_true rfl) ?_
  intro p e s m args below meth c A C hin Z Q hret
  have hA8 : ∀ c, c < 10 → shA (23 + 1 * c) = some (0, 12) := by decide
  have hA56 : ∀ c, c < 10 → shA (71 + 1 * c) = some (0, 12) := by decide
  refine r_aload_n C 0 (dk oX4_copyFrom 0 rfl) rfl ?_
  refine r_aload_n C 1 (dk oX4_copyFrom 1 rfl) rfl ?_
  refine r_getI C (dk oX4_copyFrom 2 rfl) fl_X4_20 rfl (kn hn rfl) ?_
  refine r_putI C (dk oX4_copyFrom 3 rfl) fl_X4_20 ft_4_0 rfl (kn hn rfl) ?_
  refine r_aload_n C 0 (dk oX4_copyFrom 4 rfl) rfl ?_
  refine r_aload_n C 1 (dk oX4_copyFrom 5 rfl) rfl ?_
  refine r_getI C (dk oX4_copyFrom 6 rfl) fl_X4_29 rfl (kn hn rfl) ?_
  rw [up2_ne (by decide)]
  refine r_putI C (dk oX4_copyFrom 7 rfl) fl_X4_29 ft_4_1 rfl (kn hn rfl) ?_
  refine r_aload_n C 1 (dk oX4_copyFrom 8 rfl) rfl ?_
  refine r_getR C (dk oX4_copyFrom 9 rfl) fl_X4_9 rfl (kn hn rfl) ?_
  refine r_iconst C (dk oX4_copyFrom 10 rfl) (v := nI 0) (by decide) ?_
  refine r_aload_n C 0 (dk oX4_copyFrom 11 rfl) rfl ?_
  refine r_getR C (dk oX4_copyFrom 12 rfl) fl_X4_9 rfl (kn hn rfl) ?_
  refine r_iconst C (dk oX4_copyFrom 13 rfl) (v := nI 0) (by decide) ?_
  refine r_bipush C (dk oX4_copyFrom 14 rfl) (v := nI 10) (by decide) ?_
  refine r_cpI C 20 68 (dk oX4_copyFrom 15 rfl) cp_X4 rfl rfl (kn hn rfl) (kn hn rfl) (by decide) (by decide) (by decide) (by decide) ⟨Nat.le_of_ble_eq_true rfl, Nat.le_of_ble_eq_true rfl⟩ ?_
  refine r_iconst C (dk oX4_copyFrom 16 rfl) (v := nI 0) (by decide) ?_
  refine r_istore_n (lo' := [(2, _), (0, _), (1, _)]) C (dk oX4_copyFrom 17 rfl) rfl (by decide) rfl ?_
  have L33 : ∀ (d_ : Nat) (c_ : Nat) (I1 : MI), 10 - c_ < d_ → c_ ≤ 10 → (∀ c, c < c_ → ∀ w, w < 12 → I1 (71 + c) w = I (23 + c) w) → (∀ k, k < 67 ∨ 80 < k → I1 k = I k) → I1 67 0 = I 19 0 → (∀ p, p < 10 → I1 68 p = I 20 p ∧ I1 67 1 = I 19 1) → V p l e (rmL 1) s m args below meth c Q D A 3 0 0 n ad (mE cA ad I1 J) 33 [(0, .ref (ad 67)), (1, .ref (ad 19)), (2, .int (nI c_))] [] := by
    intro d_
    induction d_ with
    | zero => intros; exact absurd (by assumption) (Nat.not_lt_zero _)
    | succ d_ ih => 
      intro c_ I1 hd_ hc hJ hF h0 h1
      refine r_iload_n C 2 (dk oX4_copyFrom 18 rfl) rfl ?_
      refine r_bipush C (dk oX4_copyFrom 19 rfl) (v := nI 10) (by decide) ?_
      refine r_icmp_ge (tgt := 64) C (dk oX4_copyFrom 20 rfl) (by decide) (fun hb36 => ?_) (fun hb36 => ?_)
      · simp (disch := omega) only [nI_leI, nI_ltI, nI_eq, nI_eq0] at hb36
        refine hret (dk oX4_copyFrom 35 rfl) ?_
        exact ⟨rfl, ⟨h0, fun p hp => ⟨(h1 p hp).1, (h1 p hp).2, fun f hf => hJ p (by omega) f hf⟩⟩, hF⟩
      · simp (disch := omega) only [nI_leI, nI_ltI, nI_eq, nI_eq0] at hb36
        refine r_aload_n C 1 (dk oX4_copyFrom 21 rfl) rfl ?_
        refine r_getR C (dk oX4_copyFrom 22 rfl) fl_X4_17 rfl (kn hn rfl) ?_
        refine r_iload_n C 2 (dk oX4_copyFrom 23 rfl) rfl ?_
        refine r_aald C _ (dk oX4_copyFrom 24 rfl) rfl (by decide) (kn hn rfl) rfl (by omega) (by decide) ?_
        refine r_iconst C (dk oX4_copyFrom 25 rfl) (v := nI 0) (by decide) ?_
        refine r_aload_n C 0 (dk oX4_copyFrom 26 rfl) rfl ?_
        refine r_getR C (dk oX4_copyFrom 27 rfl) fl_X4_17 rfl (kn hn rfl) ?_
        refine r_iload_n C 2 (dk oX4_copyFrom 28 rfl) rfl ?_
        refine r_aald C _ (dk oX4_copyFrom 29 rfl) rfl (by decide) (kn hn rfl) rfl (by omega) (by decide) ?_
        refine r_iconst C (dk oX4_copyFrom 30 rfl) (v := nI 0) (by decide) ?_
        refine r_bipush C (dk oX4_copyFrom 31 rfl) (v := nI 12) (by decide) ?_
        refine r_cpI C (23 + 1 * c_) (71 + 1 * c_) (dk oX4_copyFrom 32 rfl) cp_X4 (hA8 c_ (by omega)) (hA56 c_ (by omega)) (by omega) (by omega) (by decide) (by decide) (by decide) (by decide) ⟨Nat.le_of_ble_eq_true rfl, Nat.le_of_ble_eq_true rfl⟩ ?_
        refine r_iinc (lo' := [(2, _), (0, _), (1, _)]) C 2 (dk oX4_copyFrom 33 rfl) rfl (by first | exact nI_inc _ | rfl) (by decide) rfl ?_
        refine r_goto (tgt := 33) C (dk oX4_copyFrom 34 rfl) (by decide) ?_
        refine V.sub [1, 2, 0] rfl ?_
        refine ih (c_ + 1) _ (by omega) (by omega) (fun c hcc w hw => ?_) (fun k hk => by rw [cpA_ne (by omega)]; exact hF k hk) (by rw [cpA_ne (by omega)]; exact h0) (fun p hp => by rw [cpA_ne (by omega), cpA_ne (by omega)]; exact h1 p hp)
        by_cases e : c = c_
        · subst e
          rw [show 71 + c = 71 + 1 * c by omega, cpA_at hw, hF _ (by omega), Nat.one_mul]
        · rw [cpA_ne (by omega)]
          exact hJ c (by omega) w hw
  refine V.sub [1, 2, 0] rfl ?_
  exact L33 11 0 _ (by omega) (by omega) (fun c hc => absurd hc (Nat.not_lt_zero _)) (fun k hk => by rw [cpA_ne (by omega), up2_ne (by omega), up2_ne (by omega)]) (by rw [cpA_ne (by decide), up2_off (by decide), up2_at]) (fun p hp => ⟨by rw [cpA_at hp, up2_ne (by decide), up2_ne (by decide)], by rw [cpA_ne (by decide), up2_at]⟩)

set_option maxHeartbeats 1000000 in
set_option maxRecDepth 100000 in
theorem c56_8_X5_copyFrom (hn : 117 ≤ n) (I : MI) (J : MJ) : Cv l n ad cA D z 1 yX5_copyFrom cX5_copyFrom 2 I J [.ref (ad 81), .ref (ad 33)] (fun I' J' => J' = J ∧ smK I I' 8 56 ∧ ∀ k, k < 81 ∨ 85 < k → I' k = I k) := by
  refine Cv.of (by decide) (Nat.le_of_ble_eq_true rfl) ?_
  intro p e s m args below meth c A C hin Z Q hret
  refine r_aload_n C 0 (dk oX5_copyFrom 0 rfl) rfl ?_
  refine r_aload_n C 1 (dk oX5_copyFrom 1 rfl) rfl ?_
  refine r_getI C (dk oX5_copyFrom 2 rfl) fl_X5_24 rfl (kn hn rfl) ?_
  refine r_putI C (dk oX5_copyFrom 3 rfl) fl_X5_24 ft_5_0 rfl (kn hn rfl) ?_
  refine r_aload_n C 0 (dk oX5_copyFrom 4 rfl) rfl ?_
  refine r_aload_n C 1 (dk oX5_copyFrom 5 rfl) rfl ?_
  refine r_getI C (dk oX5_copyFrom 6 rfl) fl_X5_29 rfl (kn hn rfl) ?_
  rw [up2_ne (by decide)]
  refine r_putI C (dk oX5_copyFrom 7 rfl) fl_X5_29 ft_5_1 rfl (kn hn rfl) ?_
  refine r_aload_n C 1 (dk oX5_copyFrom 8 rfl) rfl ?_
  refine r_getR C (dk oX5_copyFrom 9 rfl) fl_X5_9 rfl (kn hn rfl) ?_
  refine r_iconst C (dk oX5_copyFrom 10 rfl) (v := nI 0) (by decide) ?_
  refine r_aload_n C 0 (dk oX5_copyFrom 11 rfl) rfl ?_
  refine r_getR C (dk oX5_copyFrom 12 rfl) fl_X5_9 rfl (kn hn rfl) ?_
  refine r_iconst C (dk oX5_copyFrom 13 rfl) (v := nI 0) (by decide) ?_
  refine r_bipush C (dk oX5_copyFrom 14 rfl) (v := nI 16) (by decide) ?_
  refine r_cpI C 34 82 (dk oX5_copyFrom 15 rfl) cp_X5 rfl rfl (kn hn rfl) (kn hn rfl) (by decide) (by decide) (by decide) (by decide) ⟨Nat.le_of_ble_eq_true rfl, Nat.le_of_ble_eq_true rfl⟩ ?_
  refine r_aload_n C 1 (dk oX5_copyFrom 16 rfl) rfl ?_
  refine r_getR C (dk oX5_copyFrom 17 rfl) fl_X5_15 rfl (kn hn rfl) ?_
  refine r_iconst C (dk oX5_copyFrom 18 rfl) (v := nI 0) (by decide) ?_
  refine r_aload_n C 0 (dk oX5_copyFrom 19 rfl) rfl ?_
  refine r_getR C (dk oX5_copyFrom 20 rfl) fl_X5_15 rfl (kn hn rfl) ?_
  refine r_iconst C (dk oX5_copyFrom 21 rfl) (v := nI 0) (by decide) ?_
  refine r_bipush C (dk oX5_copyFrom 22 rfl) (v := nI 16) (by decide) ?_
  refine r_cpI C 35 83 (dk oX5_copyFrom 23 rfl) cp_X5 rfl rfl (kn hn rfl) (kn hn rfl) (by decide) (by decide) (by decide) (by decide) ⟨Nat.le_of_ble_eq_true rfl, Nat.le_of_ble_eq_true rfl⟩ ?_
  refine r_aload_n C 1 (dk oX5_copyFrom 24 rfl) rfl ?_
  refine r_getR C (dk oX5_copyFrom 25 rfl) fl_X5_18 rfl (kn hn rfl) ?_
  refine r_iconst C (dk oX5_copyFrom 26 rfl) (v := nI 0) (by decide) ?_
  refine r_aload_n C 0 (dk oX5_copyFrom 27 rfl) rfl ?_
  refine r_getR C (dk oX5_copyFrom 28 rfl) fl_X5_18 rfl (kn hn rfl) ?_
  refine r_iconst C (dk oX5_copyFrom 29 rfl) (v := nI 0) (by decide) ?_
  refine r_bipush C (dk oX5_copyFrom 30 rfl) (v := nI 16) (by decide) ?_
  refine r_cpI C 36 84 (dk oX5_copyFrom 31 rfl) cp_X5 rfl rfl (kn hn rfl) (kn hn rfl) (by decide) (by decide) (by decide) (by decide) ⟨Nat.le_of_ble_eq_true rfl, Nat.le_of_ble_eq_true rfl⟩ ?_
  refine r_aload_n C 1 (dk oX5_copyFrom 32 rfl) rfl ?_
  refine r_getR C (dk oX5_copyFrom 33 rfl) fl_X5_21 rfl (kn hn rfl) ?_
  refine r_iconst C (dk oX5_copyFrom 34 rfl) (v := nI 0) (by decide) ?_
  refine r_aload_n C 0 (dk oX5_copyFrom 35 rfl) rfl ?_
  refine r_getR C (dk oX5_copyFrom 36 rfl) fl_X5_21 rfl (kn hn rfl) ?_
  refine r_iconst C (dk oX5_copyFrom 37 rfl) (v := nI 0) (by decide) ?_
  refine r_bipush C (dk oX5_copyFrom 38 rfl) (v := nI 16) (by decide) ?_
  refine r_cpI C 37 85 (dk oX5_copyFrom 39 rfl) cp_X5 rfl rfl (kn hn rfl) (kn hn rfl) (by decide) (by decide) (by decide) (by decide) ⟨Nat.le_of_ble_eq_true rfl, Nat.le_of_ble_eq_true rfl⟩ ?_
  refine hret (dk oX5_copyFrom 40 rfl) ?_
  refine ⟨rfl, ⟨?_, ?_, fun k hk => ⟨?_, ?_, ?_, ?_⟩⟩, fun k hk => ?_⟩
  · rw [cpA_ne (by decide), cpA_ne (by decide), cpA_ne (by decide), cpA_ne (by decide), up2_off (by decide), up2_at]
  · rw [cpA_ne (by decide), cpA_ne (by decide), cpA_ne (by decide), cpA_ne (by decide), up2_at]
  · rw [cpA_ne (by decide), cpA_ne (by decide), cpA_ne (by decide), cpA_at hk, up2_ne (by decide), up2_ne (by decide)]
  · rw [cpA_ne (by decide), cpA_ne (by decide), cpA_at hk, cpA_ne (by decide), up2_ne (by decide), up2_ne (by decide)]
  · rw [cpA_ne (by decide), cpA_at hk, cpA_ne (by decide), cpA_ne (by decide), up2_ne (by decide), up2_ne (by decide)]
  · rw [cpA_at hk, cpA_ne (by decide), cpA_ne (by decide), cpA_ne (by decide), up2_ne (by decide), up2_ne (by decide)]
  · rw [cpA_ne (by omega), cpA_ne (by omega), cpA_ne (by omega), cpA_ne (by omega), up2_ne (by omega), up2_ne (by omega)]

set_option maxHeartbeats 1000000 in
set_option maxRecDepth 100000 in
theorem c56_8_X7_copyFrom (hn : 117 ≤ n) (I : MI) (J : MJ) (σ : Su) (hS : CSu I J 8 σ) : Cv l n ad cA D z 2 yX7_copyFrom cX7_copyFrom 2 I J [.ref (ad 56), .ref (ad 8)] (fun I' J' => CSu I' J' 56 σ ∧ (∀ k, k < 56 ∨ 85 < k → I' k = I k) ∧ ∀ k, k < 56 ∨ 85 < k → J' k = J k) := by
  refine Cv.of (by decide) (Nat.le_of_ble_eq_true rfl) ?_
  intro p e s m args below meth c A C hin Z Q hret
  refine r_aload_n C 0 (dk oX7_copyFrom 0 rfl) rfl ?_
  refine r_getR C (dk oX7_copyFrom 1 rfl) fl_X7_12 rfl (kn hn rfl) ?_
  refine r_aload_n C 1 (dk oX7_copyFrom 2 rfl) rfl ?_
  refine r_getR C (dk oX7_copyFrom 3 rfl) fl_X7_12 rfl (kn hn rfl) ?_
  refine r_ivv C Z (dk oX7_copyFrom 4 rfl) cl_X7_46 ci_X1_copyFrom rfl (kn hn rfl) (c56_8_X1_copyFrom hn I J) rfl rfl (Nat.le_of_ble_eq_true rfl) ⟨Nat.le_of_ble_eq_true rfl, Nat.le_of_ble_eq_true rfl⟩ ⟨Nat.zero_le _, Nat.zero_le _⟩ (fun I8 J8 h8 => ?_)
  obtain ⟨hc1, hc2, hc3⟩ := h8
  refine r_aload_n C 0 (dk oX7_copyFrom 5 rfl) rfl ?_
  refine r_getR C (dk oX7_copyFrom 6 rfl) fl_X7_21 rfl (kn hn rfl) ?_
  refine r_aload_n C 1 (dk oX7_copyFrom 7 rfl) rfl ?_
  refine r_getR C (dk oX7_copyFrom 8 rfl) fl_X7_21 rfl (kn hn rfl) ?_
  refine r_ivv C Z (dk oX7_copyFrom 9 rfl) cl_X7_50 ci_X4_copyFrom rfl (kn hn rfl) (c56_8_X4_copyFrom hn I8 J8) rfl rfl (Nat.le_of_ble_eq_true rfl) ⟨Nat.le_of_ble_eq_true rfl, Nat.le_of_ble_eq_true rfl⟩ ⟨Nat.zero_le _, Nat.zero_le _⟩ (fun I19 J19 h19 => ?_)
  obtain ⟨e2_, hp1, hp2⟩ := h19
  have e2_ := e2_.symm
  subst e2_
  refine r_aload_n C 0 (dk oX7_copyFrom 10 rfl) rfl ?_
  refine r_getR C (dk oX7_copyFrom 11 rfl) fl_X7_28 rfl (kn hn rfl) ?_
  refine r_aload_n C 1 (dk oX7_copyFrom 12 rfl) rfl ?_
  refine r_getR C (dk oX7_copyFrom 13 rfl) fl_X7_28 rfl (kn hn rfl) ?_
  refine r_ivv C Z (dk oX7_copyFrom 14 rfl) cl_X7_53 ci_X5_copyFrom rfl (kn hn rfl) (c56_8_X5_copyFrom hn I19 J8) rfl rfl (Nat.le_of_ble_eq_true rfl) ⟨Nat.le_of_ble_eq_true rfl, Nat.le_of_ble_eq_true rfl⟩ ⟨Nat.zero_le _, Nat.zero_le _⟩ (fun I30 J30 h30 => ?_)
  obtain ⟨e2_, hk1, hk2⟩ := h30
  have e2_ := e2_.symm
  subst e2_
  refine r_aload_n C 0 (dk oX7_copyFrom 15 rfl) rfl ?_
  refine r_aload_n C 1 (dk oX7_copyFrom 16 rfl) rfl ?_
  refine r_getI C (dk oX7_copyFrom 17 rfl) fl_X7_32 rfl (kn hn rfl) ?_
  refine r_putI C (dk oX7_copyFrom 18 rfl) fl_X7_32 ft_7_3 rfl (kn hn rfl) ?_
  refine r_aload_n C 0 (dk oX7_copyFrom 19 rfl) rfl ?_
  refine r_aload_n C 1 (dk oX7_copyFrom 20 rfl) rfl ?_
  refine r_getI C (dk oX7_copyFrom 21 rfl) fl_X7_36 rfl (kn hn rfl) ?_
  refine r_putI C (dk oX7_copyFrom 22 rfl) fl_X7_36 ft_7_4 rfl (kn hn rfl) ?_
  refine hret (dk oX7_copyFrom 23 rfl) ?_
  have hI : ∀ k, k < 56 ∨ 85 < k → I30 k = I k := fun k hk => by rw [hk2 k (by omega), hp2 k (by omega), hc2 k (by omega) (by omega) (by omega)]
  refine ⟨hS.cp ?_ ?_ ?_ ?_ ?_, fun k hk => by rw [up2_ne (by omega), up2_ne (by omega)]; exact hI k hk, fun k hk => hc3 k (by omega)⟩
  · refine ⟨?_, fun c hc => ⟨?_, ?_, fun w hw => (hc1.2 c hc).2.2 w hw⟩⟩
    · rw [up2_ne (by decide), up2_ne (by decide), hk2 _ (by decide), hp2 _ (by decide)]; exact hc1.1
    · rw [up2_ne (by decide), up2_ne (by decide), hk2 _ (by decide), hp2 _ (by decide)]; exact (hc1.2 c hc).1
    · rw [up2_ne (by decide), up2_ne (by decide), hk2 _ (by decide), hp2 _ (by decide)]; exact (hc1.2 c hc).2.1
  · refine ⟨?_, fun p hp => ⟨?_, ?_, fun f hf => ?_⟩⟩
    · rw [up2_ne (by decide), up2_ne (by decide), hk2 _ (by decide), hp1.1, hc2 _ (by decide) (by decide) (by decide)]
    · rw [up2_ne (by decide), up2_ne (by decide), hk2 _ (by decide), (hp1.2 p hp).1, hc2 _ (by decide) (by decide) (by decide)]
    · rw [up2_ne (by decide), up2_ne (by decide), hk2 _ (by decide), (hp1.2 p hp).2.1, hc2 _ (by decide) (by decide) (by decide)]
    · rw [up2_ne (by omega), up2_ne (by omega), hk2 _ (by omega), (hp1.2 p hp).2.2 f hf, hc2 _ (by omega) (by omega) (by omega)]
  · have g : ∀ k, 33 ≤ k → k ≤ 37 → I19 k = I k := fun k q1 q2 => by rw [hp2 k (by omega), hc2 k (by omega) (by omega) (by omega)]
    refine ⟨?_, ?_, fun k hk => ⟨?_, ?_, ?_, ?_⟩⟩
    · rw [up2_ne (by decide), up2_ne (by decide), hk1.1, g _ (by decide) (by decide)]
    · rw [up2_ne (by decide), up2_ne (by decide), hk1.2.1, g _ (by decide) (by decide)]
    · rw [up2_ne (by decide), up2_ne (by decide), (hk1.2.2 k hk).1, g _ (by decide) (by decide)]
    · rw [up2_ne (by decide), up2_ne (by decide), (hk1.2.2 k hk).2.1, g _ (by decide) (by decide)]
    · rw [up2_ne (by decide), up2_ne (by decide), (hk1.2.2 k hk).2.2.1, g _ (by decide) (by decide)]
    · rw [up2_ne (by decide), up2_ne (by decide), (hk1.2.2 k hk).2.2.2, g _ (by decide) (by decide)]
  · rw [up2_off (by decide), up2_at]; exact congrFun (hI 8 (by decide)) 3
  · rw [up2_at, up2_ne (by decide)]; exact congrFun (hI 8 (by decide)) 4

set_option maxHeartbeats 1000000 in
set_option maxRecDepth 100000 in
theorem c86_8_X1_copyFrom (hn : 117 ≤ n) (I : MI) (J : MJ) : Cv l n ad cA D z 1 yX1_copyFrom cX1_copyFrom 3 I J [.ref (ad 87), .ref (ad 9)] (fun I' J' => smC I I' J J' 8 86 ∧ (∀ k, k ≠ 87 → k ≠ 88 → k ≠ 89 → I' k = I k) ∧ ∀ k, k < 91 ∨ 96 < k → J' k = J k) := by
  refine Cv.of (by decide) (Nat.le_of_ble_eq_true rfl) ?_
  intro p e s m args below meth c A C hin Z Q hret
  have hA8 : ∀ c, c < 6 → shA (13 + 1 * c) = some (1, 64) := by decide
  have hA86 : ∀ c, c < 6 → shA (91 + 1 * c) = some (1, 64) := by decide
  refine r_aload_n C 0 (dk oX1_copyFrom 0 rfl) rfl ?_
  refine r_aload_n C 1 (dk oX1_copyFrom 1 rfl) rfl ?_
  refine r_getI C (dk oX1_copyFrom 2 rfl) fl_X1_23 rfl (kn hn rfl) ?_
  refine r_putI C (dk oX1_copyFrom 3 rfl) fl_X1_23 ft_1_0 rfl (kn hn rfl) ?_
  refine r_aload_n C 1 (dk oX1_copyFrom 4 rfl) rfl ?_
  refine r_getR C (dk oX1_copyFrom 5 rfl) fl_X1_9 rfl (kn hn rfl) ?_
  refine r_iconst C (dk oX1_copyFrom 6 rfl) (v := nI 0) (by decide) ?_
  refine r_aload_n C 0 (dk oX1_copyFrom 7 rfl) rfl ?_
  refine r_getR C (dk oX1_copyFrom 8 rfl) fl_X1_9 rfl (kn hn rfl) ?_
  refine r_iconst C (dk oX1_copyFrom 9 rfl) (v := nI 0) (by decide) ?_
  refine r_bipush C (dk oX1_copyFrom 10 rfl) (v := nI 6) (by decide) ?_
  refine r_cpI C 10 88 (dk oX1_copyFrom 11 rfl) cp_X1 rfl rfl (kn hn rfl) (kn hn rfl) (by decide) (by decide) (by decide) (by decide) ⟨Nat.le_of_ble_eq_true rfl, Nat.le_of_ble_eq_true rfl⟩ ?_
  refine r_aload_n C 1 (dk oX1_copyFrom 12 rfl) rfl ?_
  refine r_getR C (dk oX1_copyFrom 13 rfl) fl_X1_15 rfl (kn hn rfl) ?_
  refine r_iconst C (dk oX1_copyFrom 14 rfl) (v := nI 0) (by decide) ?_
  refine r_aload_n C 0 (dk oX1_copyFrom 15 rfl) rfl ?_
  refine r_getR C (dk oX1_copyFrom 16 rfl) fl_X1_15 rfl (kn hn rfl) ?_
  refine r_iconst C (dk oX1_copyFrom 17 rfl) (v := nI 0) (by decide) ?_
  refine r_bipush C (dk oX1_copyFrom 18 rfl) (v := nI 6) (by decide) ?_
  refine r_cpI C 11 89 (dk oX1_copyFrom 19 rfl) cp_X1 rfl rfl (kn hn rfl) (kn hn rfl) (by decide) (by decide) (by decide) (by decide) ⟨Nat.le_of_ble_eq_true rfl, Nat.le_of_ble_eq_true rfl⟩ ?_
  obtain ⟨I9, hI9⟩ : ∃ X, X = cpA (cpA (up2 I 87 0 (I 9 0)) 10 88 6) 11 89 6 := ⟨_, rfl⟩
  rw [← hI9]
  refine r_iconst C (dk oX1_copyFrom 20 rfl) (v := nI 0) (by decide) ?_
  refine r_istore_n (lo' := [(2, _), (0, _), (1, _)]) C (dk oX1_copyFrom 21 rfl) rfl (by decide) rfl ?_
  have L40 : ∀ (d_ : Nat) (c_ : Nat) (J1 : MJ), 6 - c_ < d_ → c_ ≤ 6 → (∀ c, c < c_ → ∀ w, w < 64 → J1 (91 + c) w = J (13 + c) w) → (∀ k, k < 91 ∨ 96 < k → J1 k = J k) → V p l e (rmL 1) s m args below meth c Q D A 3 0 0 n ad (mE cA ad I9 J1) 40 [(0, .ref (ad 87)), (1, .ref (ad 9)), (2, .int (nI c_))] [] := by
    intro d_
    induction d_ with
    | zero => intros; exact absurd (by assumption) (Nat.not_lt_zero _)
    | succ d_ ih => 
      intro c_ J1 hd_ hc hJ hF
      refine r_iload_n C 2 (dk oX1_copyFrom 22 rfl) rfl ?_
      refine r_bipush C (dk oX1_copyFrom 23 rfl) (v := nI 6) (by decide) ?_
      refine r_icmp_ge (tgt := 71) C (dk oX1_copyFrom 24 rfl) (by decide) (fun hb43 => ?_) (fun hb43 => ?_)
      · simp (disch := omega) only [nI_leI, nI_ltI, nI_eq, nI_eq0] at hb43
        refine hret (dk oX1_copyFrom 39 rfl) ?_
        refine ⟨⟨?_, fun c hc6 => ⟨?_, ?_, fun w hw => hJ c (by omega) w hw⟩⟩, fun k q1 q2 q3 => ?_, hF⟩
        · rw [hI9, cpA_ne (by decide), cpA_ne (by decide), up2_at]
        · rw [hI9, cpA_ne (by decide), cpA_at hc6, up2_ne (by decide)]
        · rw [hI9, cpA_at hc6, cpA_ne (by decide), up2_ne (by decide)]
        · rw [hI9, cpA_ne q3, cpA_ne q2, up2_ne q1]
      · simp (disch := omega) only [nI_leI, nI_ltI, nI_eq, nI_eq0] at hb43
        refine r_aload_n C 1 (dk oX1_copyFrom 25 rfl) rfl ?_
        refine r_getR C (dk oX1_copyFrom 26 rfl) fl_X1_20 rfl (kn hn rfl) ?_
        refine r_iload_n C 2 (dk oX1_copyFrom 27 rfl) rfl ?_
        refine r_aald C _ (dk oX1_copyFrom 28 rfl) rfl (by decide) (kn hn rfl) rfl (by omega) (by decide) ?_
        refine r_iconst C (dk oX1_copyFrom 29 rfl) (v := nI 0) (by decide) ?_
        refine r_aload_n C 0 (dk oX1_copyFrom 30 rfl) rfl ?_
        refine r_getR C (dk oX1_copyFrom 31 rfl) fl_X1_20 rfl (kn hn rfl) ?_
        refine r_iload_n C 2 (dk oX1_copyFrom 32 rfl) rfl ?_
        refine r_aald C _ (dk oX1_copyFrom 33 rfl) rfl (by decide) (kn hn rfl) rfl (by omega) (by decide) ?_
        refine r_iconst C (dk oX1_copyFrom 34 rfl) (v := nI 0) (by decide) ?_
        refine r_bipush C (dk oX1_copyFrom 35 rfl) (v := nI 64) (by decide) ?_
        refine r_cpL C (13 + 1 * c_) (91 + 1 * c_) (dk oX1_copyFrom 36 rfl) cp_X1 (hA8 c_ (by omega)) (hA86 c_ (by omega)) (by omega) (by omega) (by decide) (by decide) (by decide) (by decide) ⟨Nat.le_of_ble_eq_true rfl, Nat.le_of_ble_eq_true rfl⟩ ?_
        refine r_iinc (lo' := [(2, _), (0, _), (1, _)]) C 2 (dk oX1_copyFrom 37 rfl) rfl (by first | exact nI_inc _ | rfl) (by decide) rfl ?_
        refine r_goto (tgt := 40) C (dk oX1_copyFrom 38 rfl) (by decide) ?_
        refine V.sub [1, 2, 0] rfl ?_
        refine ih (c_ + 1) _ (by omega) (by omega) (fun c hcc w hw => ?_) (fun k hk => by rw [cpA_ne (by omega)]; exact hF k hk)
        by_cases e : c = c_
        · subst e
          rw [show 91 + c = 91 + 1 * c by omega, cpA_at hw, hF _ (by omega), Nat.one_mul]
        · rw [cpA_ne (by omega)]
          exact hJ c (by omega) w hw
  refine V.sub [1, 2, 0] rfl ?_
  exact L40 7 0 J (by omega) (by omega) (fun c hc => absurd hc (Nat.not_lt_zero _)) (fun k _ => rfl)

set_option maxHeartbeats 1000000 in
set_option maxRecDepth 100000 in
theorem c86_8_X4_copyFrom (hn : 117 ≤ n) (I : MI) (J : MJ) : Cv l n ad cA D z 1 yX4_copyFrom cX4_copyFrom 3 I J [.ref (ad 97), .ref (ad 19)] (fun I' J' => J' = J ∧ smP I I' 8 86 ∧ ∀ k, k < 97 ∨ 110 < k → I' k = I k) := by
  refine Cv.of (by decide) (Nat.le_of_ble_eq_true rfl) ?_
  intro p e s m args below meth c A C hin Z Q hret
  have hA8 : ∀ c, c < 10 → shA (23 + 1 * c) = some (0, 12) := by decide
  have hA86 : ∀ c, c < 10 → shA (101 + 1 * c) = some (0, 12) := by decide
  refine r_aload_n C 0 (dk oX4_copyFrom 0 rfl) rfl ?_
  refine r_aload_n C 1 (dk oX4_copyFrom 1 rfl) rfl ?_
  refine r_getI C (dk oX4_copyFrom 2 rfl) fl_X4_20 rfl (kn hn rfl) ?_
  refine r_putI C (dk oX4_copyFrom 3 rfl) fl_X4_20 ft_4_0 rfl (kn hn rfl) ?_
  refine r_aload_n C 0 (dk oX4_copyFrom 4 rfl) rfl ?_
  refine r_aload_n C 1 (dk oX4_copyFrom 5 rfl) rfl ?_
  refine r_getI C (dk oX4_copyFrom 6 rfl) fl_X4_29 rfl (kn hn rfl) ?_
  rw [up2_ne (by decide)]
  refine r_putI C (dk oX4_copyFrom 7 rfl) fl_X4_29 ft_4_1 rfl (kn hn rfl) ?_
  refine r_aload_n C 1 (dk oX4_copyFrom 8 rfl) rfl ?_
  refine r_getR C (dk oX4_copyFrom 9 rfl) fl_X4_9 rfl (kn hn rfl) ?_
  refine r_iconst C (dk oX4_copyFrom 10 rfl) (v := nI 0) (by decide) ?_
  refine r_aload_n C 0 (dk oX4_copyFrom 11 rfl) rfl ?_
  refine r_getR C (dk oX4_copyFrom 12 rfl) fl_X4_9 rfl (kn hn rfl) ?_
  refine r_iconst C (dk oX4_copyFrom 13 rfl) (v := nI 0) (by decide) ?_
  refine r_bipush C (dk oX4_copyFrom 14 rfl) (v := nI 10) (by decide) ?_
  refine r_cpI C 20 98 (dk oX4_copyFrom 15 rfl) cp_X4 rfl rfl (kn hn rfl) (kn hn rfl) (by decide) (by decide) (by decide) (by decide) ⟨Nat.le_of_ble_eq_true rfl, Nat.le_of_ble_eq_true rfl⟩ ?_
  refine r_iconst C (dk oX4_copyFrom 16 rfl) (v := nI 0) (by decide) ?_
  refine r_istore_n (lo' := [(2, _), (0, _), (1, _)]) C (dk oX4_copyFrom 17 rfl) rfl (by decide) rfl ?_
  have L33 : ∀ (d_ : Nat) (c_ : Nat) (I1 : MI), 10 - c_ < d_ → c_ ≤ 10 → (∀ c, c < c_ → ∀ w, w < 12 → I1 (101 + c) w = I (23 + c) w) → (∀ k, k < 97 ∨ 110 < k → I1 k = I k) → I1 97 0 = I 19 0 → (∀ p, p < 10 → I1 98 p = I 20 p ∧ I1 97 1 = I 19 1) → V p l e (rmL 1) s m args below meth c Q D A 3 0 0 n ad (mE cA ad I1 J) 33 [(0, .ref (ad 97)), (1, .ref (ad 19)), (2, .int (nI c_))] [] := by
    intro d_
    induction d_ with
    | zero => intros; exact absurd (by assumption) (Nat.not_lt_zero _)
    | succ d_ ih => 
      intro c_ I1 hd_ hc hJ hF h0 h1
      refine r_iload_n C 2 (dk oX4_copyFrom 18 rfl) rfl ?_
      refine r_bipush C (dk oX4_copyFrom 19 rfl) (v := nI 10) (by decide) ?_
      refine r_icmp_ge (tgt := 64) C (dk oX4_copyFrom 20 rfl) (by decide) (fun hb36 => ?_) (fun hb36 => ?_)
      · simp (disch := omega) only [nI_leI, nI_ltI, nI_eq, nI_eq0] at hb36
        refine hret (dk oX4_copyFrom 35 rfl) ?_
        exact ⟨rfl, ⟨h0, fun p hp => ⟨(h1 p hp).1, (h1 p hp).2, fun f hf => hJ p (by omega) f hf⟩⟩, hF⟩
      · simp (disch := omega) only [nI_leI, nI_ltI, nI_eq, nI_eq0] at hb36
        refine r_aload_n C 1 (dk oX4_copyFrom 21 rfl) rfl ?_
        refine r_getR C (dk oX4_copyFrom 22 rfl) fl_X4_17 rfl (kn hn rfl) ?_
        refine r_iload_n C 2 (dk oX4_copyFrom 23 rfl) rfl ?_
        refine r_aald C _ (dk oX4_copyFrom 24 rfl) rfl (by decide) (kn hn rfl) rfl (by omega) (by decide) ?_
        refine r_iconst C (dk oX4_copyFrom 25 rfl) (v := nI 0) (by decide) ?_
        refine r_aload_n C 0 (dk oX4_copyFrom 26 rfl) rfl ?_
        refine r_getR C (dk oX4_copyFrom 27 rfl) fl_X4_17 rfl (kn hn rfl) ?_
        refine r_iload_n C 2 (dk oX4_copyFrom 28 rfl) rfl ?_
        refine r_aald C _ (dk oX4_copyFrom 29 rfl) rfl (by decide) (kn hn rfl) rfl (by omega) (by decide) ?_
        refine r_iconst C (dk oX4_copyFrom 30 rfl) (v := nI 0) (by decide) ?_
        refine r_bipush C (dk oX4_copyFrom 31 rfl) (v := nI 12) (by decide) ?_
        refine r_cpI C (23 + 1 * c_) (101 + 1 * c_) (dk oX4_copyFrom 32 rfl) cp_X4 (hA8 c_ (by omega)) (hA86 c_ (by omega)) (by omega) (by omega) (by decide) (by decide) (by decide) (by decide) ⟨Nat.le_of_ble_eq_true rfl, Nat.le_of_ble_eq_true rfl⟩ ?_
        refine r_iinc (lo' := [(2, _), (0, _), (1, _)]) C 2 (dk oX4_copyFrom 33 rfl) rfl (by first | exact nI_inc _ | rfl) (by decide) rfl ?_
        refine r_goto (tgt := 33) C (dk oX4_copyFrom 34 rfl) (by decide) ?_
        refine V.sub [1, 2, 0] rfl ?_
        refine ih (c_ + 1) _ (by omega) (by omega) (fun c hcc w hw => ?_) (fun k hk => by rw [cpA_ne (by omega)]; exact hF k hk) (by rw [cpA_ne (by omega)]; exact h0) (fun p hp => by rw [cpA_ne (by omega), cpA_ne (by omega)]; exact h1 p hp)
        by_cases e : c = c_
        · subst e
          rw [show 101 + c = 101 + 1 * c by omega, cpA_at hw, hF _ (by omega), Nat.one_mul]
        · rw [cpA_ne (by omega)]
          exact hJ c (by omega) w hw
  refine V.sub [1, 2, 0] rfl ?_
  exact L33 11 0 _ (by omega) (by omega) (fun c hc => absurd hc (Nat.not_lt_zero _)) (fun k hk => by rw [cpA_ne (by omega), up2_ne (by omega), up2_ne (by omega)]) (by rw [cpA_ne (by decide), up2_off (by decide), up2_at]) (fun p hp => ⟨by rw [cpA_at hp, up2_ne (by decide), up2_ne (by decide)], by rw [cpA_ne (by decide), up2_at]⟩)

set_option maxHeartbeats 1000000 in
set_option maxRecDepth 100000 in
theorem c86_8_X5_copyFrom (hn : 117 ≤ n) (I : MI) (J : MJ) : Cv l n ad cA D z 1 yX5_copyFrom cX5_copyFrom 2 I J [.ref (ad 111), .ref (ad 33)] (fun I' J' => J' = J ∧ smK I I' 8 86 ∧ ∀ k, k < 111 ∨ 115 < k → I' k = I k) := by
  refine Cv.of (by decide) (Nat.le_of_ble_eq_true rfl) ?_
  intro p e s m args below meth c A C hin Z Q hret
  refine r_aload_n C 0 (dk oX5_copyFrom 0 rfl) rfl ?_
  refine r_aload_n C 1 (dk oX5_copyFrom 1 rfl) rfl ?_
  refine r_getI C (dk oX5_copyFrom 2 rfl) fl_X5_24 rfl (kn hn rfl) ?_
  refine r_putI C (dk oX5_copyFrom 3 rfl) fl_X5_24 ft_5_0 rfl (kn hn rfl) ?_
  refine r_aload_n C 0 (dk oX5_copyFrom 4 rfl) rfl ?_
  refine r_aload_n C 1 (dk oX5_copyFrom 5 rfl) rfl ?_
  refine r_getI C (dk oX5_copyFrom 6 rfl) fl_X5_29 rfl (kn hn rfl) ?_
  rw [up2_ne (by decide)]
  refine r_putI C (dk oX5_copyFrom 7 rfl) fl_X5_29 ft_5_1 rfl (kn hn rfl) ?_
  refine r_aload_n C 1 (dk oX5_copyFrom 8 rfl) rfl ?_
  refine r_getR C (dk oX5_copyFrom 9 rfl) fl_X5_9 rfl (kn hn rfl) ?_
  refine r_iconst C (dk oX5_copyFrom 10 rfl) (v := nI 0) (by decide) ?_
  refine r_aload_n C 0 (dk oX5_copyFrom 11 rfl) rfl ?_
  refine r_getR C (dk oX5_copyFrom 12 rfl) fl_X5_9 rfl (kn hn rfl) ?_
  refine r_iconst C (dk oX5_copyFrom 13 rfl) (v := nI 0) (by decide) ?_
  refine r_bipush C (dk oX5_copyFrom 14 rfl) (v := nI 16) (by decide) ?_
  refine r_cpI C 34 112 (dk oX5_copyFrom 15 rfl) cp_X5 rfl rfl (kn hn rfl) (kn hn rfl) (by decide) (by decide) (by decide) (by decide) ⟨Nat.le_of_ble_eq_true rfl, Nat.le_of_ble_eq_true rfl⟩ ?_
  refine r_aload_n C 1 (dk oX5_copyFrom 16 rfl) rfl ?_
  refine r_getR C (dk oX5_copyFrom 17 rfl) fl_X5_15 rfl (kn hn rfl) ?_
  refine r_iconst C (dk oX5_copyFrom 18 rfl) (v := nI 0) (by decide) ?_
  refine r_aload_n C 0 (dk oX5_copyFrom 19 rfl) rfl ?_
  refine r_getR C (dk oX5_copyFrom 20 rfl) fl_X5_15 rfl (kn hn rfl) ?_
  refine r_iconst C (dk oX5_copyFrom 21 rfl) (v := nI 0) (by decide) ?_
  refine r_bipush C (dk oX5_copyFrom 22 rfl) (v := nI 16) (by decide) ?_
  refine r_cpI C 35 113 (dk oX5_copyFrom 23 rfl) cp_X5 rfl rfl (kn hn rfl) (kn hn rfl) (by decide) (by decide) (by decide) (by decide) ⟨Nat.le_of_ble_eq_true rfl, Nat.le_of_ble_eq_true rfl⟩ ?_
  refine r_aload_n C 1 (dk oX5_copyFrom 24 rfl) rfl ?_
  refine r_getR C (dk oX5_copyFrom 25 rfl) fl_X5_18 rfl (kn hn rfl) ?_
  refine r_iconst C (dk oX5_copyFrom 26 rfl) (v := nI 0) (by decide) ?_
  refine r_aload_n C 0 (dk oX5_copyFrom 27 rfl) rfl ?_
  refine r_getR C (dk oX5_copyFrom 28 rfl) fl_X5_18 rfl (kn hn rfl) ?_
  refine r_iconst C (dk oX5_copyFrom 29 rfl) (v := nI 0) (by decide) ?_
  refine r_bipush C (dk oX5_copyFrom 30 rfl) (v := nI 16) (by decide) ?_
  refine r_cpI C 36 114 (dk oX5_copyFrom 31 rfl) cp_X5 rfl rfl (kn hn rfl) (kn hn rfl) (by decide) (by decide) (by decide) (by decide) ⟨Nat.le_of_ble_eq_true rfl, Nat.le_of_ble_eq_true rfl⟩ ?_
  refine r_aload_n C 1 (dk oX5_copyFrom 32 rfl) rfl ?_
  refine r_getR C (dk oX5_copyFrom 33 rfl) fl_X5_21 rfl (kn hn rfl) ?_
  refine r_iconst C (dk oX5_copyFrom 34 rfl) (v := nI 0) (by decide) ?_
  refine r_aload_n C 0 (dk oX5_copyFrom 35 rfl) rfl ?_
  refine r_getR C (dk oX5_copyFrom 36 rfl) fl_X5_21 rfl (kn hn rfl) ?_
  refine r_iconst C (dk oX5_copyFrom 37 rfl) (v := nI 0) (by decide) ?_
  refine r_bipush C (dk oX5_copyFrom 38 rfl) (v := nI 16) (by decide) ?_
  refine r_cpI C 37 115 (dk oX5_copyFrom 39 rfl) cp_X5 rfl rfl (kn hn rfl) (kn hn rfl) (by decide) (by decide) (by decide) (by decide) ⟨Nat.le_of_ble_eq_true rfl, Nat.le_of_ble_eq_true rfl⟩ ?_
  refine hret (dk oX5_copyFrom 40 rfl) ?_
  refine ⟨rfl, ⟨?_, ?_, fun k hk => ⟨?_, ?_, ?_, ?_⟩⟩, fun k hk => ?_⟩
  · rw [cpA_ne (by decide), cpA_ne (by decide), cpA_ne (by decide), cpA_ne (by decide), up2_off (by decide), up2_at]
  · rw [cpA_ne (by decide), cpA_ne (by decide), cpA_ne (by decide), cpA_ne (by decide), up2_at]
  · rw [cpA_ne (by decide), cpA_ne (by decide), cpA_ne (by decide), cpA_at hk, up2_ne (by decide), up2_ne (by decide)]
  · rw [cpA_ne (by decide), cpA_ne (by decide), cpA_at hk, cpA_ne (by decide), up2_ne (by decide), up2_ne (by decide)]
  · rw [cpA_ne (by decide), cpA_at hk, cpA_ne (by decide), cpA_ne (by decide), up2_ne (by decide), up2_ne (by decide)]
  · rw [cpA_at hk, cpA_ne (by decide), cpA_ne (by decide), cpA_ne (by decide), up2_ne (by decide), up2_ne (by decide)]
  · rw [cpA_ne (by omega), cpA_ne (by omega), cpA_ne (by omega), cpA_ne (by omega), up2_ne (by omega), up2_ne (by omega)]

set_option maxHeartbeats 1000000 in
set_option maxRecDepth 100000 in
theorem c86_8_X7_copyFrom (hn : 117 ≤ n) (I : MI) (J : MJ) (σ : Su) (hS : CSu I J 8 σ) : Cv l n ad cA D z 2 yX7_copyFrom cX7_copyFrom 2 I J [.ref (ad 86), .ref (ad 8)] (fun I' J' => CSu I' J' 86 σ ∧ (∀ k, k < 86 ∨ 115 < k → I' k = I k) ∧ ∀ k, k < 86 ∨ 115 < k → J' k = J k) := by
  refine Cv.of (by decide) (Nat.le_of_ble_eq_true rfl) ?_
  intro p e s m args below meth c A C hin Z Q hret
  refine r_aload_n C 0 (dk oX7_copyFrom 0 rfl) rfl ?_
  refine r_getR C (dk oX7_copyFrom 1 rfl) fl_X7_12 rfl (kn hn rfl) ?_
  refine r_aload_n C 1 (dk oX7_copyFrom 2 rfl) rfl ?_
  refine r_getR C (dk oX7_copyFrom 3 rfl) fl_X7_12 rfl (kn hn rfl) ?_
  refine r_ivv C Z (dk oX7_copyFrom 4 rfl) cl_X7_46 ci_X1_copyFrom rfl (kn hn rfl) (c86_8_X1_copyFrom hn I J) rfl rfl (Nat.le_of_ble_eq_true rfl) ⟨Nat.le_of_ble_eq_true rfl, Nat.le_of_ble_eq_true rfl⟩ ⟨Nat.zero_le _, Nat.zero_le _⟩ (fun I8 J8 h8 => ?_)
  obtain ⟨hc1, hc2, hc3⟩ := h8
  refine r_aload_n C 0 (dk oX7_copyFrom 5 rfl) rfl ?_
  refine r_getR C (dk oX7_copyFrom 6 rfl) fl_X7_21 rfl (kn hn rfl) ?_
  refine r_aload_n C 1 (dk oX7_copyFrom 7 rfl) rfl ?_
  refine r_getR C (dk oX7_copyFrom 8 rfl) fl_X7_21 rfl (kn hn rfl) ?_
  refine r_ivv C Z (dk oX7_copyFrom 9 rfl) cl_X7_50 ci_X4_copyFrom rfl (kn hn rfl) (c86_8_X4_copyFrom hn I8 J8) rfl rfl (Nat.le_of_ble_eq_true rfl) ⟨Nat.le_of_ble_eq_true rfl, Nat.le_of_ble_eq_true rfl⟩ ⟨Nat.zero_le _, Nat.zero_le _⟩ (fun I19 J19 h19 => ?_)
  obtain ⟨e2_, hp1, hp2⟩ := h19
  have e2_ := e2_.symm
  subst e2_
  refine r_aload_n C 0 (dk oX7_copyFrom 10 rfl) rfl ?_
  refine r_getR C (dk oX7_copyFrom 11 rfl) fl_X7_28 rfl (kn hn rfl) ?_
  refine r_aload_n C 1 (dk oX7_copyFrom 12 rfl) rfl ?_
  refine r_getR C (dk oX7_copyFrom 13 rfl) fl_X7_28 rfl (kn hn rfl) ?_
  refine r_ivv C Z (dk oX7_copyFrom 14 rfl) cl_X7_53 ci_X5_copyFrom rfl (kn hn rfl) (c86_8_X5_copyFrom hn I19 J8) rfl rfl (Nat.le_of_ble_eq_true rfl) ⟨Nat.le_of_ble_eq_true rfl, Nat.le_of_ble_eq_true rfl⟩ ⟨Nat.zero_le _, Nat.zero_le _⟩ (fun I30 J30 h30 => ?_)
  obtain ⟨e2_, hk1, hk2⟩ := h30
  have e2_ := e2_.symm
  subst e2_
  refine r_aload_n C 0 (dk oX7_copyFrom 15 rfl) rfl ?_
  refine r_aload_n C 1 (dk oX7_copyFrom 16 rfl) rfl ?_
  refine r_getI C (dk oX7_copyFrom 17 rfl) fl_X7_32 rfl (kn hn rfl) ?_
  refine r_putI C (dk oX7_copyFrom 18 rfl) fl_X7_32 ft_7_3 rfl (kn hn rfl) ?_
  refine r_aload_n C 0 (dk oX7_copyFrom 19 rfl) rfl ?_
  refine r_aload_n C 1 (dk oX7_copyFrom 20 rfl) rfl ?_
  refine r_getI C (dk oX7_copyFrom 21 rfl) fl_X7_36 rfl (kn hn rfl) ?_
  refine r_putI C (dk oX7_copyFrom 22 rfl) fl_X7_36 ft_7_4 rfl (kn hn rfl) ?_
  refine hret (dk oX7_copyFrom 23 rfl) ?_
  have hI : ∀ k, k < 86 ∨ 115 < k → I30 k = I k := fun k hk => by rw [hk2 k (by omega), hp2 k (by omega), hc2 k (by omega) (by omega) (by omega)]
  refine ⟨hS.cp ?_ ?_ ?_ ?_ ?_, fun k hk => by rw [up2_ne (by omega), up2_ne (by omega)]; exact hI k hk, fun k hk => hc3 k (by omega)⟩
  · refine ⟨?_, fun c hc => ⟨?_, ?_, fun w hw => (hc1.2 c hc).2.2 w hw⟩⟩
    · rw [up2_ne (by decide), up2_ne (by decide), hk2 _ (by decide), hp2 _ (by decide)]; exact hc1.1
    · rw [up2_ne (by decide), up2_ne (by decide), hk2 _ (by decide), hp2 _ (by decide)]; exact (hc1.2 c hc).1
    · rw [up2_ne (by decide), up2_ne (by decide), hk2 _ (by decide), hp2 _ (by decide)]; exact (hc1.2 c hc).2.1
  · refine ⟨?_, fun p hp => ⟨?_, ?_, fun f hf => ?_⟩⟩
    · rw [up2_ne (by decide), up2_ne (by decide), hk2 _ (by decide), hp1.1, hc2 _ (by decide) (by decide) (by decide)]
    · rw [up2_ne (by decide), up2_ne (by decide), hk2 _ (by decide), (hp1.2 p hp).1, hc2 _ (by decide) (by decide) (by decide)]
    · rw [up2_ne (by decide), up2_ne (by decide), hk2 _ (by decide), (hp1.2 p hp).2.1, hc2 _ (by decide) (by decide) (by decide)]
    · rw [up2_ne (by omega), up2_ne (by omega), hk2 _ (by omega), (hp1.2 p hp).2.2 f hf, hc2 _ (by omega) (by omega) (by omega)]
  · have g : ∀ k, 33 ≤ k → k ≤ 37 → I19 k = I k := fun k q1 q2 => by rw [hp2 k (by omega), hc2 k (by omega) (by omega) (by omega)]
    refine ⟨?_, ?_, fun k hk => ⟨?_, ?_, ?_, ?_⟩⟩
    · rw [up2_ne (by decide), up2_ne (by decide), hk1.1, g _ (by decide) (by decide)]
    · rw [up2_ne (by decide), up2_ne (by decide), hk1.2.1, g _ (by decide) (by decide)]
    · rw [up2_ne (by decide), up2_ne (by decide), (hk1.2.2 k hk).1, g _ (by decide) (by decide)]
    · rw [up2_ne (by decide), up2_ne (by decide), (hk1.2.2 k hk).2.1, g _ (by decide) (by decide)]
    · rw [up2_ne (by decide), up2_ne (by decide), (hk1.2.2 k hk).2.2.1, g _ (by decide) (by decide)]
    · rw [up2_ne (by decide), up2_ne (by decide), (hk1.2.2 k hk).2.2.2, g _ (by decide) (by decide)]
  · rw [up2_off (by decide), up2_at]; exact congrFun (hI 8 (by decide)) 3
  · rw [up2_at, up2_ne (by decide)]; exact congrFun (hI 8 (by decide)) 4

set_option maxHeartbeats 1000000 in
set_option maxRecDepth 100000 in
theorem c8_56_X1_copyFrom (hn : 117 ≤ n) (I : MI) (J : MJ) : Cv l n ad cA D z 1 yX1_copyFrom cX1_copyFrom 3 I J [.ref (ad 9), .ref (ad 57)] (fun I' J' => smC I I' J J' 56 8 ∧ (∀ k, k ≠ 9 → k ≠ 10 → k ≠ 11 → I' k = I k) ∧ ∀ k, k < 13 ∨ 18 < k → J' k = J k) := by
  refine Cv.of (by decide) (Nat.le_of_ble_eq_true rfl) ?_
  intro p e s m args below meth c A C hin Z Q hret
  have hA56 : ∀ c, c < 6 → shA (61 + 1 * c) = some (1, 64) := by decide
  have hA8 : ∀ c, c < 6 → shA (13 + 1 * c) = some (1, 64) := by decide
  refine r_aload_n C 0 (dk oX1_copyFrom 0 rfl) rfl ?_
  refine r_aload_n C 1 (dk oX1_copyFrom 1 rfl) rfl ?_
  refine r_getI C (dk oX1_copyFrom 2 rfl) fl_X1_23 rfl (kn hn rfl) ?_
  refine r_putI C (dk oX1_copyFrom 3 rfl) fl_X1_23 ft_1_0 rfl (kn hn rfl) ?_
  refine r_aload_n C 1 (dk oX1_copyFrom 4 rfl) rfl ?_
  refine r_getR C (dk oX1_copyFrom 5 rfl) fl_X1_9 rfl (kn hn rfl) ?_
  refine r_iconst C (dk oX1_copyFrom 6 rfl) (v := nI 0) (by decide) ?_
  refine r_aload_n C 0 (dk oX1_copyFrom 7 rfl) rfl ?_
  refine r_getR C (dk oX1_copyFrom 8 rfl) fl_X1_9 rfl (kn hn rfl) ?_
  refine r_iconst C (dk oX1_copyFrom 9 rfl) (v := nI 0) (by decide) ?_
  refine r_bipush C (dk oX1_copyFrom 10 rfl) (v := nI 6) (by decide) ?_
  refine r_cpI C 58 10 (dk oX1_copyFrom 11 rfl) cp_X1 rfl rfl (kn hn rfl) (kn hn rfl) (by decide) (by decide) (by decide) (by decide) ⟨Nat.le_of_ble_eq_true rfl, Nat.le_of_ble_eq_true rfl⟩ ?_
  refine r_aload_n C 1 (dk oX1_copyFrom 12 rfl) rfl ?_
  refine r_getR C (dk oX1_copyFrom 13 rfl) fl_X1_15 rfl (kn hn rfl) ?_
  refine r_iconst C (dk oX1_copyFrom 14 rfl) (v := nI 0) (by decide) ?_
  refine r_aload_n C 0 (dk oX1_copyFrom 15 rfl) rfl ?_
  refine r_getR C (dk oX1_copyFrom 16 rfl) fl_X1_15 rfl (kn hn rfl) ?_
  refine r_iconst C (dk oX1_copyFrom 17 rfl) (v := nI 0) (by decide) ?_
  refine r_bipush C (dk oX1_copyFrom 18 rfl) (v := nI 6) (by decide) ?_
  refine r_cpI C 59 11 (dk oX1_copyFrom 19 rfl) cp_X1 rfl rfl (kn hn rfl) (kn hn rfl) (by decide) (by decide) (by decide) (by decide) ⟨Nat.le_of_ble_eq_true rfl, Nat.le_of_ble_eq_true rfl⟩ ?_
  obtain ⟨I9, hI9⟩ : ∃ X, X = cpA (cpA (up2 I 9 0 (I 57 0)) 58 10 6) 59 11 6 := ⟨_, rfl⟩
  rw [← hI9]
  refine r_iconst C (dk oX1_copyFrom 20 rfl) (v := nI 0) (by decide) ?_
  refine r_istore_n (lo' := [(2, _), (0, _), (1, _)]) C (dk oX1_copyFrom 21 rfl) rfl (by decide) rfl ?_
  have L40 : ∀ (d_ : Nat) (c_ : Nat) (J1 : MJ), 6 - c_ < d_ → c_ ≤ 6 → (∀ c, c < c_ → ∀ w, w < 64 → J1 (13 + c) w = J (61 + c) w) → (∀ k, k < 13 ∨ 18 < k → J1 k = J k) → V p l e (rmL 1) s m args below meth c Q D A 3 0 0 n ad (mE cA ad I9 J1) 40 [(0, .ref (ad 9)), (1, .ref (ad 57)), (2, .int (nI c_))] [] := by
    intro d_
    induction d_ with
    | zero => intros; exact absurd (by assumption) (Nat.not_lt_zero _)
    | succ d_ ih => 
      intro c_ J1 hd_ hc hJ hF
      refine r_iload_n C 2 (dk oX1_copyFrom 22 rfl) rfl ?_
      refine r_bipush C (dk oX1_copyFrom 23 rfl) (v := nI 6) (by decide) ?_
      refine r_icmp_ge (tgt := 71) C (dk oX1_copyFrom 24 rfl) (by decide) (fun hb43 => ?_) (fun hb43 => ?_)
      · simp (disch := omega) only [nI_leI, nI_ltI, nI_eq, nI_eq0] at hb43
        refine hret (dk oX1_copyFrom 39 rfl) ?_
        refine ⟨⟨?_, fun c hc6 => ⟨?_, ?_, fun w hw => hJ c (by omega) w hw⟩⟩, fun k q1 q2 q3 => ?_, hF⟩
        · rw [hI9, cpA_ne (by decide), cpA_ne (by decide), up2_at]
        · rw [hI9, cpA_ne (by decide), cpA_at hc6, up2_ne (by decide)]
        · rw [hI9, cpA_at hc6, cpA_ne (by decide), up2_ne (by decide)]
        · rw [hI9, cpA_ne q3, cpA_ne q2, up2_ne q1]
      · simp (disch := omega) only [nI_leI, nI_ltI, nI_eq, nI_eq0] at hb43
        refine r_aload_n C 1 (dk oX1_copyFrom 25 rfl) rfl ?_
        refine r_getR C (dk oX1_copyFrom 26 rfl) fl_X1_20 rfl (kn hn rfl) ?_
        refine r_iload_n C 2 (dk oX1_copyFrom 27 rfl) rfl ?_
        refine r_aald C _ (dk oX1_copyFrom 28 rfl) rfl (by decide) (kn hn rfl) rfl (by omega) (by decide) ?_
        refine r_iconst C (dk oX1_copyFrom 29 rfl) (v := nI 0) (by decide) ?_
        refine r_aload_n C 0 (dk oX1_copyFrom 30 rfl) rfl ?_
        refine r_getR C (dk oX1_copyFrom 31 rfl) fl_X1_20 rfl (kn hn rfl) ?_
        refine r_iload_n C 2 (dk oX1_copyFrom 32 rfl) rfl ?_
        refine r_aald C _ (dk oX1_copyFrom 33 rfl) rfl (by decide) (kn hn rfl) rfl (by omega) (by decide) ?_
        refine r_iconst C (dk oX1_copyFrom 34 rfl) (v := nI 0) (by decide) ?_
        refine r_bipush C (dk oX1_copyFrom 35 rfl) (v := nI 64) (by decide) ?_
        refine r_cpL C (61 + 1 * c_) (13 + 1 * c_) (dk oX1_copyFrom 36 rfl) cp_X1 (hA56 c_ (by omega)) (hA8 c_ (by omega)) (by omega) (by omega) (by decide) (by decide) (by decide) (by decide) ⟨Nat.le_of_ble_eq_true rfl, Nat.le_of_ble_eq_true rfl⟩ ?_
        refine r_iinc (lo' := [(2, _), (0, _), (1, _)]) C 2 (dk oX1_copyFrom 37 rfl) rfl (by first | exact nI_inc _ | rfl) (by decide) rfl ?_
        refine r_goto (tgt := 40) C (dk oX1_copyFrom 38 rfl) (by decide) ?_
        refine V.sub [1, 2, 0] rfl ?_
        refine ih (c_ + 1) _ (by omega) (by omega) (fun c hcc w hw => ?_) (fun k hk => by rw [cpA_ne (by omega)]; exact hF k hk)
        by_cases e : c = c_
        · subst e
          rw [show 13 + c = 13 + 1 * c by omega, cpA_at hw, hF _ (by omega), Nat.one_mul]
        · rw [cpA_ne (by omega)]
          exact hJ c (by omega) w hw
  refine V.sub [1, 2, 0] rfl ?_
  exact L40 7 0 J (by omega) (by omega) (fun c hc => absurd hc (Nat.not_lt_zero _)) (fun k _ => rfl)

set_option maxHeartbeats 1000000 in
set_option maxRecDepth 100000 in
theorem c8_56_X4_copyFrom (hn : 117 ≤ n) (I : MI) (J : MJ) : Cv l n ad cA D z 1 yX4_copyFrom cX4_copyFrom 3 I J [.ref (ad 19), .ref (ad 67)] (fun I' J' => J' = J ∧ smP I I' 56 8 ∧ ∀ k, k < 19 ∨ 32 < k → I' k = I k) := by
  refine Cv.of (by decide) (Nat.le_of_ble_eq_true rfl) ?_
  intro p e s m args below meth c A C hin Z Q hret
  have hA56 : ∀ c, c < 10 → shA (71 + 1 * c) = some (0, 12) := by decide
  have hA8 : ∀ c, c < 10 → shA (23 + 1 * c) = some (0, 12) := by decide
  refine r_aload_n C 0 (dk oX4_copyFrom 0 rfl) rfl ?_
  refine r_aload_n C 1 (dk oX4_copyFrom 1 rfl) rfl ?_
  refine r_getI C (dk oX4_copyFrom 2 rfl) fl_X4_20 rfl (kn hn rfl) ?_
  refine r_putI C (dk oX4_copyFrom 3 rfl) fl_X4_20 ft_4_0 rfl (kn hn rfl) ?_
  refine r_aload_n C 0 (dk oX4_copyFrom 4 rfl) rfl ?_
  refine r_aload_n C 1 (dk oX4_copyFrom 5 rfl) rfl ?_
  refine r_getI C (dk oX4_copyFrom 6 rfl) fl_X4_29 rfl (kn hn rfl) ?_
  rw [up2_ne (by decide)]
  refine r_putI C (dk oX4_copyFrom 7 rfl) fl_X4_29 ft_4_1 rfl (kn hn rfl) ?_
  refine r_aload_n C 1 (dk oX4_copyFrom 8 rfl) rfl ?_
  refine r_getR C (dk oX4_copyFrom 9 rfl) fl_X4_9 rfl (kn hn rfl) ?_
  refine r_iconst C (dk oX4_copyFrom 10 rfl) (v := nI 0) (by decide) ?_
  refine r_aload_n C 0 (dk oX4_copyFrom 11 rfl) rfl ?_
  refine r_getR C (dk oX4_copyFrom 12 rfl) fl_X4_9 rfl (kn hn rfl) ?_
  refine r_iconst C (dk oX4_copyFrom 13 rfl) (v := nI 0) (by decide) ?_
  refine r_bipush C (dk oX4_copyFrom 14 rfl) (v := nI 10) (by decide) ?_
  refine r_cpI C 68 20 (dk oX4_copyFrom 15 rfl) cp_X4 rfl rfl (kn hn rfl) (kn hn rfl) (by decide) (by decide) (by decide) (by decide) ⟨Nat.le_of_ble_eq_true rfl, Nat.le_of_ble_eq_true rfl⟩ ?_
  refine r_iconst C (dk oX4_copyFrom 16 rfl) (v := nI 0) (by decide) ?_
  refine r_istore_n (lo' := [(2, _), (0, _), (1, _)]) C (dk oX4_copyFrom 17 rfl) rfl (by decide) rfl ?_
  have L33 : ∀ (d_ : Nat) (c_ : Nat) (I1 : MI), 10 - c_ < d_ → c_ ≤ 10 → (∀ c, c < c_ → ∀ w, w < 12 → I1 (23 + c) w = I (71 + c) w) → (∀ k, k < 19 ∨ 32 < k → I1 k = I k) → I1 19 0 = I 67 0 → (∀ p, p < 10 → I1 20 p = I 68 p ∧ I1 19 1 = I 67 1) → V p l e (rmL 1) s m args below meth c Q D A 3 0 0 n ad (mE cA ad I1 J) 33 [(0, .ref (ad 19)), (1, .ref (ad 67)), (2, .int (nI c_))] [] := by
    intro d_
    induction d_ with
    | zero => intros; exact absurd (by assumption) (Nat.not_lt_zero _)
    | succ d_ ih => 
      intro c_ I1 hd_ hc hJ hF h0 h1
      refine r_iload_n C 2 (dk oX4_copyFrom 18 rfl) rfl ?_
      refine r_bipush C (dk oX4_copyFrom 19 rfl) (v := nI 10) (by decide) ?_
      refine r_icmp_ge (tgt := 64) C (dk oX4_copyFrom 20 rfl) (by decide) (fun hb36 => ?_) (fun hb36 => ?_)
      · simp (disch := omega) only [nI_leI, nI_ltI, nI_eq, nI_eq0] at hb36
        refine hret (dk oX4_copyFrom 35 rfl) ?_
        exact ⟨rfl, ⟨h0, fun p hp => ⟨(h1 p hp).1, (h1 p hp).2, fun f hf => hJ p (by omega) f hf⟩⟩, hF⟩
      · simp (disch := omega) only [nI_leI, nI_ltI, nI_eq, nI_eq0] at hb36
        refine r_aload_n C 1 (dk oX4_copyFrom 21 rfl) rfl ?_
        refine r_getR C (dk oX4_copyFrom 22 rfl) fl_X4_17 rfl (kn hn rfl) ?_
        refine r_iload_n C 2 (dk oX4_copyFrom 23 rfl) rfl ?_
        refine r_aald C _ (dk oX4_copyFrom 24 rfl) rfl (by decide) (kn hn rfl) rfl (by omega) (by decide) ?_
        refine r_iconst C (dk oX4_copyFrom 25 rfl) (v := nI 0) (by decide) ?_
        refine r_aload_n C 0 (dk oX4_copyFrom 26 rfl) rfl ?_
        refine r_getR C (dk oX4_copyFrom 27 rfl) fl_X4_17 rfl (kn hn rfl) ?_
        refine r_iload_n C 2 (dk oX4_copyFrom 28 rfl) rfl ?_
        refine r_aald C _ (dk oX4_copyFrom 29 rfl) rfl (by decide) (kn hn rfl) rfl (by omega) (by decide) ?_
        refine r_iconst C (dk oX4_copyFrom 30 rfl) (v := nI 0) (by decide) ?_
        refine r_bipush C (dk oX4_copyFrom 31 rfl) (v := nI 12) (by decide) ?_
        refine r_cpI C (71 + 1 * c_) (23 + 1 * c_) (dk oX4_copyFrom 32 rfl) cp_X4 (hA56 c_ (by omega)) (hA8 c_ (by omega)) (by omega) (by omega) (by decide) (by decide) (by decide) (by decide) ⟨Nat.le_of_ble_eq_true rfl, Nat.le_of_ble_eq_true rfl⟩ ?_
        refine r_iinc (lo' := [(2, _), (0, _), (1, _)]) C 2 (dk oX4_copyFrom 33 rfl) rfl (by first | exact nI_inc _ | rfl) (by decide) rfl ?_
        refine r_goto (tgt := 33) C (dk oX4_copyFrom 34 rfl) (by decide) ?_
        refine V.sub [1, 2, 0] rfl ?_
        refine ih (c_ + 1) _ (by omega) (by omega) (fun c hcc w hw => ?_) (fun k hk => by rw [cpA_ne (by omega)]; exact hF k hk) (by rw [cpA_ne (by omega)]; exact h0) (fun p hp => by rw [cpA_ne (by omega), cpA_ne (by omega)]; exact h1 p hp)
        by_cases e : c = c_
        · subst e
          rw [show 23 + c = 23 + 1 * c by omega, cpA_at hw, hF _ (by omega), Nat.one_mul]
        · rw [cpA_ne (by omega)]
          exact hJ c (by omega) w hw
  refine V.sub [1, 2, 0] rfl ?_
  exact L33 11 0 _ (by omega) (by omega) (fun c hc => absurd hc (Nat.not_lt_zero _)) (fun k hk => by rw [cpA_ne (by omega), up2_ne (by omega), up2_ne (by omega)]) (by rw [cpA_ne (by decide), up2_off (by decide), up2_at]) (fun p hp => ⟨by rw [cpA_at hp, up2_ne (by decide), up2_ne (by decide)], by rw [cpA_ne (by decide), up2_at]⟩)

set_option maxHeartbeats 1000000 in
set_option maxRecDepth 100000 in
theorem c8_56_X5_copyFrom (hn : 117 ≤ n) (I : MI) (J : MJ) : Cv l n ad cA D z 1 yX5_copyFrom cX5_copyFrom 2 I J [.ref (ad 33), .ref (ad 81)] (fun I' J' => J' = J ∧ smK I I' 56 8 ∧ ∀ k, k < 33 ∨ 37 < k → I' k = I k) := by
  refine Cv.of (by decide) (Nat.le_of_ble_eq_true rfl) ?_
  intro p e s m args below meth c A C hin Z Q hret
  refine r_aload_n C 0 (dk oX5_copyFrom 0 rfl) rfl ?_
  refine r_aload_n C 1 (dk oX5_copyFrom 1 rfl) rfl ?_
  refine r_getI C (dk oX5_copyFrom 2 rfl) fl_X5_24 rfl (kn hn rfl) ?_
  refine r_putI C (dk oX5_copyFrom 3 rfl) fl_X5_24 ft_5_0 rfl (kn hn rfl) ?_
  refine r_aload_n C 0 (dk oX5_copyFrom 4 rfl) rfl ?_
  refine r_aload_n C 1 (dk oX5_copyFrom 5 rfl) rfl ?_
  refine r_getI C (dk oX5_copyFrom 6 rfl) fl_X5_29 rfl (kn hn rfl) ?_
  rw [up2_ne (by decide)]
  refine r_putI C (dk oX5_copyFrom 7 rfl) fl_X5_29 ft_5_1 rfl (kn hn rfl) ?_
  refine r_aload_n C 1 (dk oX5_copyFrom 8 rfl) rfl ?_
  refine r_getR C (dk oX5_copyFrom 9 rfl) fl_X5_9 rfl (kn hn rfl) ?_
  refine r_iconst C (dk oX5_copyFrom 10 rfl) (v := nI 0) (by decide) ?_
  refine r_aload_n C 0 (dk oX5_copyFrom 11 rfl) rfl ?_
  refine r_getR C (dk oX5_copyFrom 12 rfl) fl_X5_9 rfl (kn hn rfl) ?_
  refine r_iconst C (dk oX5_copyFrom 13 rfl) (v := nI 0) (by decide) ?_
  refine r_bipush C (dk oX5_copyFrom 14 rfl) (v := nI 16) (by decide) ?_
  refine r_cpI C 82 34 (dk oX5_copyFrom 15 rfl) cp_X5 rfl rfl (kn hn rfl) (kn hn rfl) (by decide) (by decide) (by decide) (by decide) ⟨Nat.le_of_ble_eq_true rfl, Nat.le_of_ble_eq_true rfl⟩ ?_
  refine r_aload_n C 1 (dk oX5_copyFrom 16 rfl) rfl ?_
  refine r_getR C (dk oX5_copyFrom 17 rfl) fl_X5_15 rfl (kn hn rfl) ?_
  refine r_iconst C (dk oX5_copyFrom 18 rfl) (v := nI 0) (by decide) ?_
  refine r_aload_n C 0 (dk oX5_copyFrom 19 rfl) rfl ?_
  refine r_getR C (dk oX5_copyFrom 20 rfl) fl_X5_15 rfl (kn hn rfl) ?_
  refine r_iconst C (dk oX5_copyFrom 21 rfl) (v := nI 0) (by decide) ?_
  refine r_bipush C (dk oX5_copyFrom 22 rfl) (v := nI 16) (by decide) ?_
  refine r_cpI C 83 35 (dk oX5_copyFrom 23 rfl) cp_X5 rfl rfl (kn hn rfl) (kn hn rfl) (by decide) (by decide) (by decide) (by decide) ⟨Nat.le_of_ble_eq_true rfl, Nat.le_of_ble_eq_true rfl⟩ ?_
  refine r_aload_n C 1 (dk oX5_copyFrom 24 rfl) rfl ?_
  refine r_getR C (dk oX5_copyFrom 25 rfl) fl_X5_18 rfl (kn hn rfl) ?_
  refine r_iconst C (dk oX5_copyFrom 26 rfl) (v := nI 0) (by decide) ?_
  refine r_aload_n C 0 (dk oX5_copyFrom 27 rfl) rfl ?_
  refine r_getR C (dk oX5_copyFrom 28 rfl) fl_X5_18 rfl (kn hn rfl) ?_
  refine r_iconst C (dk oX5_copyFrom 29 rfl) (v := nI 0) (by decide) ?_
  refine r_bipush C (dk oX5_copyFrom 30 rfl) (v := nI 16) (by decide) ?_
  refine r_cpI C 84 36 (dk oX5_copyFrom 31 rfl) cp_X5 rfl rfl (kn hn rfl) (kn hn rfl) (by decide) (by decide) (by decide) (by decide) ⟨Nat.le_of_ble_eq_true rfl, Nat.le_of_ble_eq_true rfl⟩ ?_
  refine r_aload_n C 1 (dk oX5_copyFrom 32 rfl) rfl ?_
  refine r_getR C (dk oX5_copyFrom 33 rfl) fl_X5_21 rfl (kn hn rfl) ?_
  refine r_iconst C (dk oX5_copyFrom 34 rfl) (v := nI 0) (by decide) ?_
  refine r_aload_n C 0 (dk oX5_copyFrom 35 rfl) rfl ?_
  refine r_getR C (dk oX5_copyFrom 36 rfl) fl_X5_21 rfl (kn hn rfl) ?_
  refine r_iconst C (dk oX5_copyFrom 37 rfl) (v := nI 0) (by decide) ?_
  refine r_bipush C (dk oX5_copyFrom 38 rfl) (v := nI 16) (by decide) ?_
  refine r_cpI C 85 37 (dk oX5_copyFrom 39 rfl) cp_X5 rfl rfl (kn hn rfl) (kn hn rfl) (by decide) (by decide) (by decide) (by decide) ⟨Nat.le_of_ble_eq_true rfl, Nat.le_of_ble_eq_true rfl⟩ ?_
  refine hret (dk oX5_copyFrom 40 rfl) ?_
  refine ⟨rfl, ⟨?_, ?_, fun k hk => ⟨?_, ?_, ?_, ?_⟩⟩, fun k hk => ?_⟩
  · rw [cpA_ne (by decide), cpA_ne (by decide), cpA_ne (by decide), cpA_ne (by decide), up2_off (by decide), up2_at]
  · rw [cpA_ne (by decide), cpA_ne (by decide), cpA_ne (by decide), cpA_ne (by decide), up2_at]
  · rw [cpA_ne (by decide), cpA_ne (by decide), cpA_ne (by decide), cpA_at hk, up2_ne (by decide), up2_ne (by decide)]
  · rw [cpA_ne (by decide), cpA_ne (by decide), cpA_at hk, cpA_ne (by decide), up2_ne (by decide), up2_ne (by decide)]
  · rw [cpA_ne (by decide), cpA_at hk, cpA_ne (by decide), cpA_ne (by decide), up2_ne (by decide), up2_ne (by decide)]
  · rw [cpA_at hk, cpA_ne (by decide), cpA_ne (by decide), cpA_ne (by decide), up2_ne (by decide), up2_ne (by decide)]
  · rw [cpA_ne (by omega), cpA_ne (by omega), cpA_ne (by omega), cpA_ne (by omega), up2_ne (by omega), up2_ne (by omega)]

set_option maxHeartbeats 1000000 in
set_option maxRecDepth 100000 in
theorem c8_56_X7_copyFrom (hn : 117 ≤ n) (I : MI) (J : MJ) (σ : Su) (hS : CSu I J 56 σ) : Cv l n ad cA D z 2 yX7_copyFrom cX7_copyFrom 2 I J [.ref (ad 8), .ref (ad 56)] (fun I' J' => CSu I' J' 8 σ ∧ (∀ k, k < 8 ∨ 37 < k → I' k = I k) ∧ ∀ k, k < 8 ∨ 37 < k → J' k = J k) := by
  refine Cv.of (by decide) (Nat.le_of_ble_eq_true rfl) ?_
  intro p e s m args below meth c A C hin Z Q hret
  refine r_aload_n C 0 (dk oX7_copyFrom 0 rfl) rfl ?_
  refine r_getR C (dk oX7_copyFrom 1 rfl) fl_X7_12 rfl (kn hn rfl) ?_
  refine r_aload_n C 1 (dk oX7_copyFrom 2 rfl) rfl ?_
  refine r_getR C (dk oX7_copyFrom 3 rfl) fl_X7_12 rfl (kn hn rfl) ?_
  refine r_ivv C Z (dk oX7_copyFrom 4 rfl) cl_X7_46 ci_X1_copyFrom rfl (kn hn rfl) (c8_56_X1_copyFrom hn I J) rfl rfl (Nat.le_of_ble_eq_true rfl) ⟨Nat.le_of_ble_eq_true rfl, Nat.le_of_ble_eq_true rfl⟩ ⟨Nat.zero_le _, Nat.zero_le _⟩ (fun I8 J8 h8 => ?_)
  obtain ⟨hc1, hc2, hc3⟩ := h8
  refine r_aload_n C 0 (dk oX7_copyFrom 5 rfl) rfl ?_
  refine r_getR C (dk oX7_copyFrom 6 rfl) fl_X7_21 rfl (kn hn rfl) ?_
  refine r_aload_n C 1 (dk oX7_copyFrom 7 rfl) rfl ?_
  refine r_getR C (dk oX7_copyFrom 8 rfl) fl_X7_21 rfl (kn hn rfl) ?_
  refine r_ivv C Z (dk oX7_copyFrom 9 rfl) cl_X7_50 ci_X4_copyFrom rfl (kn hn rfl) (c8_56_X4_copyFrom hn I8 J8) rfl rfl (Nat.le_of_ble_eq_true rfl) ⟨Nat.le_of_ble_eq_true rfl, Nat.le_of_ble_eq_true rfl⟩ ⟨Nat.zero_le _, Nat.zero_le _⟩ (fun I19 J19 h19 => ?_)
  obtain ⟨e2_, hp1, hp2⟩ := h19
  have e2_ := e2_.symm
  subst e2_
  refine r_aload_n C 0 (dk oX7_copyFrom 10 rfl) rfl ?_
  refine r_getR C (dk oX7_copyFrom 11 rfl) fl_X7_28 rfl (kn hn rfl) ?_
  refine r_aload_n C 1 (dk oX7_copyFrom 12 rfl) rfl ?_
  refine r_getR C (dk oX7_copyFrom 13 rfl) fl_X7_28 rfl (kn hn rfl) ?_
  refine r_ivv C Z (dk oX7_copyFrom 14 rfl) cl_X7_53 ci_X5_copyFrom rfl (kn hn rfl) (c8_56_X5_copyFrom hn I19 J8) rfl rfl (Nat.le_of_ble_eq_true rfl) ⟨Nat.le_of_ble_eq_true rfl, Nat.le_of_ble_eq_true rfl⟩ ⟨Nat.zero_le _, Nat.zero_le _⟩ (fun I30 J30 h30 => ?_)
  obtain ⟨e2_, hk1, hk2⟩ := h30
  have e2_ := e2_.symm
  subst e2_
  refine r_aload_n C 0 (dk oX7_copyFrom 15 rfl) rfl ?_
  refine r_aload_n C 1 (dk oX7_copyFrom 16 rfl) rfl ?_
  refine r_getI C (dk oX7_copyFrom 17 rfl) fl_X7_32 rfl (kn hn rfl) ?_
  refine r_putI C (dk oX7_copyFrom 18 rfl) fl_X7_32 ft_7_3 rfl (kn hn rfl) ?_
  refine r_aload_n C 0 (dk oX7_copyFrom 19 rfl) rfl ?_
  refine r_aload_n C 1 (dk oX7_copyFrom 20 rfl) rfl ?_
  refine r_getI C (dk oX7_copyFrom 21 rfl) fl_X7_36 rfl (kn hn rfl) ?_
  refine r_putI C (dk oX7_copyFrom 22 rfl) fl_X7_36 ft_7_4 rfl (kn hn rfl) ?_
  refine hret (dk oX7_copyFrom 23 rfl) ?_
  have hI : ∀ k, k < 8 ∨ 37 < k → I30 k = I k := fun k hk => by rw [hk2 k (by omega), hp2 k (by omega), hc2 k (by omega) (by omega) (by omega)]
  refine ⟨hS.cp ?_ ?_ ?_ ?_ ?_, fun k hk => by rw [up2_ne (by omega), up2_ne (by omega)]; exact hI k hk, fun k hk => hc3 k (by omega)⟩
  · refine ⟨?_, fun c hc => ⟨?_, ?_, fun w hw => (hc1.2 c hc).2.2 w hw⟩⟩
    · rw [up2_ne (by decide), up2_ne (by decide), hk2 _ (by decide), hp2 _ (by decide)]; exact hc1.1
    · rw [up2_ne (by decide), up2_ne (by decide), hk2 _ (by decide), hp2 _ (by decide)]; exact (hc1.2 c hc).1
    · rw [up2_ne (by decide), up2_ne (by decide), hk2 _ (by decide), hp2 _ (by decide)]; exact (hc1.2 c hc).2.1
  · refine ⟨?_, fun p hp => ⟨?_, ?_, fun f hf => ?_⟩⟩
    · rw [up2_ne (by decide), up2_ne (by decide), hk2 _ (by decide), hp1.1, hc2 _ (by decide) (by decide) (by decide)]
    · rw [up2_ne (by decide), up2_ne (by decide), hk2 _ (by decide), (hp1.2 p hp).1, hc2 _ (by decide) (by decide) (by decide)]
    · rw [up2_ne (by decide), up2_ne (by decide), hk2 _ (by decide), (hp1.2 p hp).2.1, hc2 _ (by decide) (by decide) (by decide)]
    · rw [up2_ne (by omega), up2_ne (by omega), hk2 _ (by omega), (hp1.2 p hp).2.2 f hf, hc2 _ (by omega) (by omega) (by omega)]
  · have g : ∀ k, 81 ≤ k → k ≤ 85 → I19 k = I k := fun k q1 q2 => by rw [hp2 k (by omega), hc2 k (by omega) (by omega) (by omega)]
    refine ⟨?_, ?_, fun k hk => ⟨?_, ?_, ?_, ?_⟩⟩
    · rw [up2_ne (by decide), up2_ne (by decide), hk1.1, g _ (by decide) (by decide)]
    · rw [up2_ne (by decide), up2_ne (by decide), hk1.2.1, g _ (by decide) (by decide)]
    · rw [up2_ne (by decide), up2_ne (by decide), (hk1.2.2 k hk).1, g _ (by decide) (by decide)]
    · rw [up2_ne (by decide), up2_ne (by decide), (hk1.2.2 k hk).2.1, g _ (by decide) (by decide)]
    · rw [up2_ne (by decide), up2_ne (by decide), (hk1.2.2 k hk).2.2.1, g _ (by decide) (by decide)]
    · rw [up2_ne (by decide), up2_ne (by decide), (hk1.2.2 k hk).2.2.2, g _ (by decide) (by decide)]
  · rw [up2_off (by decide), up2_at]; exact congrFun (hI 56 (by decide)) 3
  · rw [up2_at, up2_ne (by decide)]; exact congrFun (hI 56 (by decide)) 4

set_option maxHeartbeats 1000000 in
set_option maxRecDepth 100000 in
theorem c8_86_X1_copyFrom (hn : 117 ≤ n) (I : MI) (J : MJ) : Cv l n ad cA D z 1 yX1_copyFrom cX1_copyFrom 3 I J [.ref (ad 9), .ref (ad 87)] (fun I' J' => smC I I' J J' 86 8 ∧ (∀ k, k ≠ 9 → k ≠ 10 → k ≠ 11 → I' k = I k) ∧ ∀ k, k < 13 ∨ 18 < k → J' k = J k) := by
  refine Cv.of (by decide) (Nat.le_of_ble_eq_true rfl) ?_
  intro p e s m args below meth c A C hin Z Q hret
  have hA86 : ∀ c, c < 6 → shA (91 + 1 * c) = some (1, 64) := by decide
  have hA8 : ∀ c, c < 6 → shA (13 + 1 * c) = some (1, 64) := by decide
  refine r_aload_n C 0 (dk oX1_copyFrom 0 rfl) rfl ?_
  refine r_aload_n C 1 (dk oX1_copyFrom 1 rfl) rfl ?_
  refine r_getI C (dk oX1_copyFrom 2 rfl) fl_X1_23 rfl (kn hn rfl) ?_
  refine r_putI C (dk oX1_copyFrom 3 rfl) fl_X1_23 ft_1_0 rfl (kn hn rfl) ?_
  refine r_aload_n C 1 (dk oX1_copyFrom 4 rfl) rfl ?_
  refine r_getR C (dk oX1_copyFrom 5 rfl) fl_X1_9 rfl (kn hn rfl) ?_
  refine r_iconst C (dk oX1_copyFrom 6 rfl) (v := nI 0) (by decide) ?_
  refine r_aload_n C 0 (dk oX1_copyFrom 7 rfl) rfl ?_
  refine r_getR C (dk oX1_copyFrom 8 rfl) fl_X1_9 rfl (kn hn rfl) ?_
  refine r_iconst C (dk oX1_copyFrom 9 rfl) (v := nI 0) (by decide) ?_
  refine r_bipush C (dk oX1_copyFrom 10 rfl) (v := nI 6) (by decide) ?_
  refine r_cpI C 88 10 (dk oX1_copyFrom 11 rfl) cp_X1 rfl rfl (kn hn rfl) (kn hn rfl) (by decide) (by decide) (by decide) (by decide) ⟨Nat.le_of_ble_eq_true rfl, Nat.le_of_ble_eq_true rfl⟩ ?_
  refine r_aload_n C 1 (dk oX1_copyFrom 12 rfl) rfl ?_
  refine r_getR C (dk oX1_copyFrom 13 rfl) fl_X1_15 rfl (kn hn rfl) ?_
  refine r_iconst C (dk oX1_copyFrom 14 rfl) (v := nI 0) (by decide) ?_
  refine r_aload_n C 0 (dk oX1_copyFrom 15 rfl) rfl ?_
  refine r_getR C (dk oX1_copyFrom 16 rfl) fl_X1_15 rfl (kn hn rfl) ?_
  refine r_iconst C (dk oX1_copyFrom 17 rfl) (v := nI 0) (by decide) ?_
  refine r_bipush C (dk oX1_copyFrom 18 rfl) (v := nI 6) (by decide) ?_
  refine r_cpI C 89 11 (dk oX1_copyFrom 19 rfl) cp_X1 rfl rfl (kn hn rfl) (kn hn rfl) (by decide) (by decide) (by decide) (by decide) ⟨Nat.le_of_ble_eq_true rfl, Nat.le_of_ble_eq_true rfl⟩ ?_
  obtain ⟨I9, hI9⟩ : ∃ X, X = cpA (cpA (up2 I 9 0 (I 87 0)) 88 10 6) 89 11 6 := ⟨_, rfl⟩
  rw [← hI9]
  refine r_iconst C (dk oX1_copyFrom 20 rfl) (v := nI 0) (by decide) ?_
  refine r_istore_n (lo' := [(2, _), (0, _), (1, _)]) C (dk oX1_copyFrom 21 rfl) rfl (by decide) rfl ?_
  have L40 : ∀ (d_ : Nat) (c_ : Nat) (J1 : MJ), 6 - c_ < d_ → c_ ≤ 6 → (∀ c, c < c_ → ∀ w, w < 64 → J1 (13 + c) w = J (91 + c) w) → (∀ k, k < 13 ∨ 18 < k → J1 k = J k) → V p l e (rmL 1) s m args below meth c Q D A 3 0 0 n ad (mE cA ad I9 J1) 40 [(0, .ref (ad 9)), (1, .ref (ad 87)), (2, .int (nI c_))] [] := by
    intro d_
    induction d_ with
    | zero => intros; exact absurd (by assumption) (Nat.not_lt_zero _)
    | succ d_ ih => 
      intro c_ J1 hd_ hc hJ hF
      refine r_iload_n C 2 (dk oX1_copyFrom 22 rfl) rfl ?_
      refine r_bipush C (dk oX1_copyFrom 23 rfl) (v := nI 6) (by decide) ?_
      refine r_icmp_ge (tgt := 71) C (dk oX1_copyFrom 24 rfl) (by decide) (fun hb43 => ?_) (fun hb43 => ?_)
      · simp (disch := omega) only [nI_leI, nI_ltI, nI_eq, nI_eq0] at hb43
        refine hret (dk oX1_copyFrom 39 rfl) ?_
        refine ⟨⟨?_, fun c hc6 => ⟨?_, ?_, fun w hw => hJ c (by omega) w hw⟩⟩, fun k q1 q2 q3 => ?_, hF⟩
        · rw [hI9, cpA_ne (by decide), cpA_ne (by decide), up2_at]
        · rw [hI9, cpA_ne (by decide), cpA_at hc6, up2_ne (by decide)]
        · rw [hI9, cpA_at hc6, cpA_ne (by decide), up2_ne (by decide)]
        · rw [hI9, cpA_ne q3, cpA_ne q2, up2_ne q1]
      · simp (disch := omega) only [nI_leI, nI_ltI, nI_eq, nI_eq0] at hb43
        refine r_aload_n C 1 (dk oX1_copyFrom 25 rfl) rfl ?_
        refine r_getR C (dk oX1_copyFrom 26 rfl) fl_X1_20 rfl (kn hn rfl) ?_
        refine r_iload_n C 2 (dk oX1_copyFrom 27 rfl) rfl ?_
        refine r_aald C _ (dk oX1_copyFrom 28 rfl) rfl (by decide) (kn hn rfl) rfl (by omega) (by decide) ?_
        refine r_iconst C (dk oX1_copyFrom 29 rfl) (v := nI 0) (by decide) ?_
        refine r_aload_n C 0 (dk oX1_copyFrom 30 rfl) rfl ?_
        refine r_getR C (dk oX1_copyFrom 31 rfl) fl_X1_20 rfl (kn hn rfl) ?_
        refine r_iload_n C 2 (dk oX1_copyFrom 32 rfl) rfl ?_
        refine r_aald C _ (dk oX1_copyFrom 33 rfl) rfl (by decide) (kn hn rfl) rfl (by omega) (by decide) ?_
        refine r_iconst C (dk oX1_copyFrom 34 rfl) (v := nI 0) (by decide) ?_
        refine r_bipush C (dk oX1_copyFrom 35 rfl) (v := nI 64) (by decide) ?_
        refine r_cpL C (91 + 1 * c_) (13 + 1 * c_) (dk oX1_copyFrom 36 rfl) cp_X1 (hA86 c_ (by omega)) (hA8 c_ (by omega)) (by omega) (by omega) (by decide) (by decide) (by decide) (by decide) ⟨Nat.le_of_ble_eq_true rfl, Nat.le_of_ble_eq_true rfl⟩ ?_
        refine r_iinc (lo' := [(2, _), (0, _), (1, _)]) C 2 (dk oX1_copyFrom 37 rfl) rfl (by first | exact nI_inc _ | rfl) (by decide) rfl ?_
        refine r_goto (tgt := 40) C (dk oX1_copyFrom 38 rfl) (by decide) ?_
        refine V.sub [1, 2, 0] rfl ?_
        refine ih (c_ + 1) _ (by omega) (by omega) (fun c hcc w hw => ?_) (fun k hk => by rw [cpA_ne (by omega)]; exact hF k hk)
        by_cases e : c = c_
        · subst e
          rw [show 13 + c = 13 + 1 * c by omega, cpA_at hw, hF _ (by omega), Nat.one_mul]
        · rw [cpA_ne (by omega)]
          exact hJ c (by omega) w hw
  refine V.sub [1, 2, 0] rfl ?_
  exact L40 7 0 J (by omega) (by omega) (fun c hc => absurd hc (Nat.not_lt_zero _)) (fun k _ => rfl)

set_option maxHeartbeats 1000000 in
set_option maxRecDepth 100000 in
theorem c8_86_X4_copyFrom (hn : 117 ≤ n) (I : MI) (J : MJ) : Cv l n ad cA D z 1 yX4_copyFrom cX4_copyFrom 3 I J [.ref (ad 19), .ref (ad 97)] (fun I' J' => J' = J ∧ smP I I' 86 8 ∧ ∀ k, k < 19 ∨ 32 < k → I' k = I k) := by
  refine Cv.of (by decide) (Nat.le_of_ble_eq_true rfl) ?_
  intro p e s m args below meth c A C hin Z Q hret
  have hA86 : ∀ c, c < 10 → shA (101 + 1 * c) = some (0, 12) := by decide
  have hA8 : ∀ c, c < 10 → shA (23 + 1 * c) = some (0, 12) := by decide
  refine r_aload_n C 0 (dk oX4_copyFrom 0 rfl) rfl ?_
  refine r_aload_n C 1 (dk oX4_copyFrom 1 rfl) rfl ?_
  refine r_getI C (dk oX4_copyFrom 2 rfl) fl_X4_20 rfl (kn hn rfl) ?_
  refine r_putI C (dk oX4_copyFrom 3 rfl) fl_X4_20 ft_4_0 rfl (kn hn rfl) ?_
  refine r_aload_n C 0 (dk oX4_copyFrom 4 rfl) rfl ?_
  refine r_aload_n C 1 (dk oX4_copyFrom 5 rfl) rfl ?_
  refine r_getI C (dk oX4_copyFrom 6 rfl) fl_X4_29 rfl (kn hn rfl) ?_
  rw [up2_ne (by decide)]
  refine r_putI C (dk oX4_copyFrom 7 rfl) fl_X4_29 ft_4_1 rfl (kn hn rfl) ?_
  refine r_aload_n C 1 (dk oX4_copyFrom 8 rfl) rfl ?_
  refine r_getR C (dk oX4_copyFrom 9 rfl) fl_X4_9 rfl (kn hn rfl) ?_
  refine r_iconst C (dk oX4_copyFrom 10 rfl) (v := nI 0) (by decide) ?_
  refine r_aload_n C 0 (dk oX4_copyFrom 11 rfl) rfl ?_
  refine r_getR C (dk oX4_copyFrom 12 rfl) fl_X4_9 rfl (kn hn rfl) ?_
  refine r_iconst C (dk oX4_copyFrom 13 rfl) (v := nI 0) (by decide) ?_
  refine r_bipush C (dk oX4_copyFrom 14 rfl) (v := nI 10) (by decide) ?_
  refine r_cpI C 98 20 (dk oX4_copyFrom 15 rfl) cp_X4 rfl rfl (kn hn rfl) (kn hn rfl) (by decide) (by decide) (by decide) (by decide) ⟨Nat.le_of_ble_eq_true rfl, Nat.le_of_ble_eq_true rfl⟩ ?_
  refine r_iconst C (dk oX4_copyFrom 16 rfl) (v := nI 0) (by decide) ?_
  refine r_istore_n (lo' := [(2, _), (0, _), (1, _)]) C (dk oX4_copyFrom 17 rfl) rfl (by decide) rfl ?_
  have L33 : ∀ (d_ : Nat) (c_ : Nat) (I1 : MI), 10 - c_ < d_ → c_ ≤ 10 → (∀ c, c < c_ → ∀ w, w < 12 → I1 (23 + c) w = I (101 + c) w) → (∀ k, k < 19 ∨ 32 < k → I1 k = I k) → I1 19 0 = I 97 0 → (∀ p, p < 10 → I1 20 p = I 98 p ∧ I1 19 1 = I 97 1) → V p l e (rmL 1) s m args below meth c Q D A 3 0 0 n ad (mE cA ad I1 J) 33 [(0, .ref (ad 19)), (1, .ref (ad 97)), (2, .int (nI c_))] [] := by
    intro d_
    induction d_ with
    | zero => intros; exact absurd (by assumption) (Nat.not_lt_zero _)
    | succ d_ ih => 
      intro c_ I1 hd_ hc hJ hF h0 h1
      refine r_iload_n C 2 (dk oX4_copyFrom 18 rfl) rfl ?_
      refine r_bipush C (dk oX4_copyFrom 19 rfl) (v := nI 10) (by decide) ?_
      refine r_icmp_ge (tgt := 64) C (dk oX4_copyFrom 20 rfl) (by decide) (fun hb36 => ?_) (fun hb36 => ?_)
      · simp (disch := omega) only [nI_leI, nI_ltI, nI_eq, nI_eq0] at hb36
        refine hret (dk oX4_copyFrom 35 rfl) ?_
        exact ⟨rfl, ⟨h0, fun p hp => ⟨(h1 p hp).1, (h1 p hp).2, fun f hf => hJ p (by omega) f hf⟩⟩, hF⟩
      · simp (disch := omega) only [nI_leI, nI_ltI, nI_eq, nI_eq0] at hb36
        refine r_aload_n C 1 (dk oX4_copyFrom 21 rfl) rfl ?_
        refine r_getR C (dk oX4_copyFrom 22 rfl) fl_X4_17 rfl (kn hn rfl) ?_
        refine r_iload_n C 2 (dk oX4_copyFrom 23 rfl) rfl ?_
        refine r_aald C _ (dk oX4_copyFrom 24 rfl) rfl (by decide) (kn hn rfl) rfl (by omega) (by decide) ?_
        refine r_iconst C (dk oX4_copyFrom 25 rfl) (v := nI 0) (by decide) ?_
        refine r_aload_n C 0 (dk oX4_copyFrom 26 rfl) rfl ?_
        refine r_getR C (dk oX4_copyFrom 27 rfl) fl_X4_17 rfl (kn hn rfl) ?_
        refine r_iload_n C 2 (dk oX4_copyFrom 28 rfl) rfl ?_
        refine r_aald C _ (dk oX4_copyFrom 29 rfl) rfl (by decide) (kn hn rfl) rfl (by omega) (by decide) ?_
        refine r_iconst C (dk oX4_copyFrom 30 rfl) (v := nI 0) (by decide) ?_
        refine r_bipush C (dk oX4_copyFrom 31 rfl) (v := nI 12) (by decide) ?_
        refine r_cpI C (101 + 1 * c_) (23 + 1 * c_) (dk oX4_copyFrom 32 rfl) cp_X4 (hA86 c_ (by omega)) (hA8 c_ (by omega)) (by omega) (by omega) (by decide) (by decide) (by decide) (by decide) ⟨Nat.le_of_ble_eq_true rfl, Nat.le_of_ble_eq_true rfl⟩ ?_
        refine r_iinc (lo' := [(2, _), (0, _), (1, _)]) C 2 (dk oX4_copyFrom 33 rfl) rfl (by first | exact nI_inc _ | rfl) (by decide) rfl ?_
        refine r_goto (tgt := 33) C (dk oX4_copyFrom 34 rfl) (by decide) ?_
        refine V.sub [1, 2, 0] rfl ?_
        refine ih (c_ + 1) _ (by omega) (by omega) (fun c hcc w hw => ?_) (fun k hk => by rw [cpA_ne (by omega)]; exact hF k hk) (by rw [cpA_ne (by omega)]; exact h0) (fun p hp => by rw [cpA_ne (by omega), cpA_ne (by omega)]; exact h1 p hp)
        by_cases e : c = c_
        · subst e
          rw [show 23 + c = 23 + 1 * c by omega, cpA_at hw, hF _ (by omega), Nat.one_mul]
        · rw [cpA_ne (by omega)]
          exact hJ c (by omega) w hw
  refine V.sub [1, 2, 0] rfl ?_
  exact L33 11 0 _ (by omega) (by omega) (fun c hc => absurd hc (Nat.not_lt_zero _)) (fun k hk => by rw [cpA_ne (by omega), up2_ne (by omega), up2_ne (by omega)]) (by rw [cpA_ne (by decide), up2_off (by decide), up2_at]) (fun p hp => ⟨by rw [cpA_at hp, up2_ne (by decide), up2_ne (by decide)], by rw [cpA_ne (by decide), up2_at]⟩)

set_option maxHeartbeats 1000000 in
set_option maxRecDepth 100000 in
theorem c8_86_X5_copyFrom (hn : 117 ≤ n) (I : MI) (J : MJ) : Cv l n ad cA D z 1 yX5_copyFrom cX5_copyFrom 2 I J [.ref (ad 33), .ref (ad 111)] (fun I' J' => J' = J ∧ smK I I' 86 8 ∧ ∀ k, k < 33 ∨ 37 < k → I' k = I k) := by
  refine Cv.of (by decide) (Nat.le_of_ble_eq_true rfl) ?_
  intro p e s m args below meth c A C hin Z Q hret
  refine r_aload_n C 0 (dk oX5_copyFrom 0 rfl) rfl ?_
  refine r_aload_n C 1 (dk oX5_copyFrom 1 rfl) rfl ?_
  refine r_getI C (dk oX5_copyFrom 2 rfl) fl_X5_24 rfl (kn hn rfl) ?_
  refine r_putI C (dk oX5_copyFrom 3 rfl) fl_X5_24 ft_5_0 rfl (kn hn rfl) ?_
  refine r_aload_n C 0 (dk oX5_copyFrom 4 rfl) rfl ?_
  refine r_aload_n C 1 (dk oX5_copyFrom 5 rfl) rfl ?_
  refine r_getI C (dk oX5_copyFrom 6 rfl) fl_X5_29 rfl (kn hn rfl) ?_
  rw [up2_ne (by decide)]
  refine r_putI C (dk oX5_copyFrom 7 rfl) fl_X5_29 ft_5_1 rfl (kn hn rfl) ?_
  refine r_aload_n C 1 (dk oX5_copyFrom 8 rfl) rfl ?_
  refine r_getR C (dk oX5_copyFrom 9 rfl) fl_X5_9 rfl (kn hn rfl) ?_
  refine r_iconst C (dk oX5_copyFrom 10 rfl) (v := nI 0) (by decide) ?_
  refine r_aload_n C 0 (dk oX5_copyFrom 11 rfl) rfl ?_
  refine r_getR C (dk oX5_copyFrom 12 rfl) fl_X5_9 rfl (kn hn rfl) ?_
  refine r_iconst C (dk oX5_copyFrom 13 rfl) (v := nI 0) (by decide) ?_
  refine r_bipush C (dk oX5_copyFrom 14 rfl) (v := nI 16) (by decide) ?_
  refine r_cpI C 112 34 (dk oX5_copyFrom 15 rfl) cp_X5 rfl rfl (kn hn rfl) (kn hn rfl) (by decide) (by decide) (by decide) (by decide) ⟨Nat.le_of_ble_eq_true rfl, Nat.le_of_ble_eq_true rfl⟩ ?_
  refine r_aload_n C 1 (dk oX5_copyFrom 16 rfl) rfl ?_
  refine r_getR C (dk oX5_copyFrom 17 rfl) fl_X5_15 rfl (kn hn rfl) ?_
  refine r_iconst C (dk oX5_copyFrom 18 rfl) (v := nI 0) (by decide) ?_
  refine r_aload_n C 0 (dk oX5_copyFrom 19 rfl) rfl ?_
  refine r_getR C (dk oX5_copyFrom 20 rfl) fl_X5_15 rfl (kn hn rfl) ?_
  refine r_iconst C (dk oX5_copyFrom 21 rfl) (v := nI 0) (by decide) ?_
  refine r_bipush C (dk oX5_copyFrom 22 rfl) (v := nI 16) (by decide) ?_
  refine r_cpI C 113 35 (dk oX5_copyFrom 23 rfl) cp_X5 rfl rfl (kn hn rfl) (kn hn rfl) (by decide) (by decide) (by decide) (by decide) ⟨Nat.le_of_ble_eq_true rfl, Nat.le_of_ble_eq_true rfl⟩ ?_
  refine r_aload_n C 1 (dk oX5_copyFrom 24 rfl) rfl ?_
  refine r_getR C (dk oX5_copyFrom 25 rfl) fl_X5_18 rfl (kn hn rfl) ?_
  refine r_iconst C (dk oX5_copyFrom 26 rfl) (v := nI 0) (by decide) ?_
  refine r_aload_n C 0 (dk oX5_copyFrom 27 rfl) rfl ?_
  refine r_getR C (dk oX5_copyFrom 28 rfl) fl_X5_18 rfl (kn hn rfl) ?_
  refine r_iconst C (dk oX5_copyFrom 29 rfl) (v := nI 0) (by decide) ?_
  refine r_bipush C (dk oX5_copyFrom 30 rfl) (v := nI 16) (by decide) ?_
  refine r_cpI C 114 36 (dk oX5_copyFrom 31 rfl) cp_X5 rfl rfl (kn hn rfl) (kn hn rfl) (by decide) (by decide) (by decide) (by decide) ⟨Nat.le_of_ble_eq_true rfl, Nat.le_of_ble_eq_true rfl⟩ ?_
  refine r_aload_n C 1 (dk oX5_copyFrom 32 rfl) rfl ?_
  refine r_getR C (dk oX5_copyFrom 33 rfl) fl_X5_21 rfl (kn hn rfl) ?_
  refine r_iconst C (dk oX5_copyFrom 34 rfl) (v := nI 0) (by decide) ?_
  refine r_aload_n C 0 (dk oX5_copyFrom 35 rfl) rfl ?_
  refine r_getR C (dk oX5_copyFrom 36 rfl) fl_X5_21 rfl (kn hn rfl) ?_
  refine r_iconst C (dk oX5_copyFrom 37 rfl) (v := nI 0) (by decide) ?_
  refine r_bipush C (dk oX5_copyFrom 38 rfl) (v := nI 16) (by decide) ?_
  refine r_cpI C 115 37 (dk oX5_copyFrom 39 rfl) cp_X5 rfl rfl (kn hn rfl) (kn hn rfl) (by decide) (by decide) (by decide) (by decide) ⟨Nat.le_of_ble_eq_true rfl, Nat.le_of_ble_eq_true rfl⟩ ?_
  refine hret (dk oX5_copyFrom 40 rfl) ?_
  refine ⟨rfl, ⟨?_, ?_, fun k hk => ⟨?_, ?_, ?_, ?_⟩⟩, fun k hk => ?_⟩
  · rw [cpA_ne (by decide), cpA_ne (by decide), cpA_ne (by decide), cpA_ne (by decide), up2_off (by decide), up2_at]
  · rw [cpA_ne (by decide), cpA_ne (by decide), cpA_ne (by decide), cpA_ne (by decide), up2_at]
  · rw [cpA_ne (by decide), cpA_ne (by decide), cpA_ne (by decide), cpA_at hk, up2_ne (by decide), up2_ne (by decide)]
  · rw [cpA_ne (by decide), cpA_ne (by decide), cpA_at hk, cpA_ne (by decide), up2_ne (by decide), up2_ne (by decide)]
  · rw [cpA_ne (by decide), cpA_at hk, cpA_ne (by decide), cpA_ne (by decide), up2_ne (by decide), up2_ne (by decide)]
  · rw [cpA_at hk, cpA_ne (by decide), cpA_ne (by decide), cpA_ne (by decide), up2_ne (by decide), up2_ne (by decide)]
  · rw [cpA_ne (by omega), cpA_ne (by omega), cpA_ne (by omega), cpA_ne (by omega), up2_ne (by omega), up2_ne (by omega)]

set_option maxHeartbeats 1000000 in
set_option maxRecDepth 100000 in
theorem c8_86_X7_copyFrom (hn : 117 ≤ n) (I : MI) (J : MJ) (σ : Su) (hS : CSu I J 86 σ) : Cv l n ad cA D z 2 yX7_copyFrom cX7_copyFrom 2 I J [.ref (ad 8), .ref (ad 86)] (fun I' J' => CSu I' J' 8 σ ∧ (∀ k, k < 8 ∨ 37 < k → I' k = I k) ∧ ∀ k, k < 8 ∨ 37 < k → J' k = J k) := by
  refine Cv.of (by decide) (Nat.le_of_ble_eq_true rfl) ?_
  intro p e s m args below meth c A C hin Z Q hret
  refine r_aload_n C 0 (dk oX7_copyFrom 0 rfl) rfl ?_
  refine r_getR C (dk oX7_copyFrom 1 rfl) fl_X7_12 rfl (kn hn rfl) ?_
  refine r_aload_n C 1 (dk oX7_copyFrom 2 rfl) rfl ?_
  refine r_getR C (dk oX7_copyFrom 3 rfl) fl_X7_12 rfl (kn hn rfl) ?_
  refine r_ivv C Z (dk oX7_copyFrom 4 rfl) cl_X7_46 ci_X1_copyFrom rfl (kn hn rfl) (c8_86_X1_copyFrom hn I J) rfl rfl (Nat.le_of_ble_eq_true rfl) ⟨Nat.le_of_ble_eq_true rfl, Nat.le_of_ble_eq_true rfl⟩ ⟨Nat.zero_le _, Nat.zero_le _⟩ (fun I8 J8 h8 => ?_)
  obtain ⟨hc1, hc2, hc3⟩ := h8
  refine r_aload_n C 0 (dk oX7_copyFrom 5 rfl) rfl ?_
  refine r_getR C (dk oX7_copyFrom 6 rfl) fl_X7_21 rfl (kn hn rfl) ?_
  refine r_aload_n C 1 (dk oX7_copyFrom 7 rfl) rfl ?_
  refine r_getR C (dk oX7_copyFrom 8 rfl) fl_X7_21 rfl (kn hn rfl) ?_
  refine r_ivv C Z (dk oX7_copyFrom 9 rfl) cl_X7_50 ci_X4_copyFrom rfl (kn hn rfl) (c8_86_X4_copyFrom hn I8 J8) rfl rfl (Nat.le_of_ble_eq_true rfl) ⟨Nat.le_of_ble_eq_true rfl, Nat.le_of_ble_eq_true rfl⟩ ⟨Nat.zero_le _, Nat.zero_le _⟩ (fun I19 J19 h19 => ?_)
  obtain ⟨e2_, hp1, hp2⟩ := h19
  have e2_ := e2_.symm
  subst e2_
  refine r_aload_n C 0 (dk oX7_copyFrom 10 rfl) rfl ?_
  refine r_getR C (dk oX7_copyFrom 11 rfl) fl_X7_28 rfl (kn hn rfl) ?_
  refine r_aload_n C 1 (dk oX7_copyFrom 12 rfl) rfl ?_
  refine r_getR C (dk oX7_copyFrom 13 rfl) fl_X7_28 rfl (kn hn rfl) ?_
  refine r_ivv C Z (dk oX7_copyFrom 14 rfl) cl_X7_53 ci_X5_copyFrom rfl (kn hn rfl) (c8_86_X5_copyFrom hn I19 J8) rfl rfl (Nat.le_of_ble_eq_true rfl) ⟨Nat.le_of_ble_eq_true rfl, Nat.le_of_ble_eq_true rfl⟩ ⟨Nat.zero_le _, Nat.zero_le _⟩ (fun I30 J30 h30 => ?_)
  obtain ⟨e2_, hk1, hk2⟩ := h30
  have e2_ := e2_.symm
  subst e2_
  refine r_aload_n C 0 (dk oX7_copyFrom 15 rfl) rfl ?_
  refine r_aload_n C 1 (dk oX7_copyFrom 16 rfl) rfl ?_
  refine r_getI C (dk oX7_copyFrom 17 rfl) fl_X7_32 rfl (kn hn rfl) ?_
  refine r_putI C (dk oX7_copyFrom 18 rfl) fl_X7_32 ft_7_3 rfl (kn hn rfl) ?_
  refine r_aload_n C 0 (dk oX7_copyFrom 19 rfl) rfl ?_
  refine r_aload_n C 1 (dk oX7_copyFrom 20 rfl) rfl ?_
  refine r_getI C (dk oX7_copyFrom 21 rfl) fl_X7_36 rfl (kn hn rfl) ?_
  refine r_putI C (dk oX7_copyFrom 22 rfl) fl_X7_36 ft_7_4 rfl (kn hn rfl) ?_
  refine hret (dk oX7_copyFrom 23 rfl) ?_
  have hI : ∀ k, k < 8 ∨ 37 < k → I30 k = I k := fun k hk => by rw [hk2 k (by omega), hp2 k (by omega), hc2 k (by omega) (by omega) (by omega)]
  refine ⟨hS.cp ?_ ?_ ?_ ?_ ?_, fun k hk => by rw [up2_ne (by omega), up2_ne (by omega)]; exact hI k hk, fun k hk => hc3 k (by omega)⟩
  · refine ⟨?_, fun c hc => ⟨?_, ?_, fun w hw => (hc1.2 c hc).2.2 w hw⟩⟩
    · rw [up2_ne (by decide), up2_ne (by decide), hk2 _ (by decide), hp2 _ (by decide)]; exact hc1.1
    · rw [up2_ne (by decide), up2_ne (by decide), hk2 _ (by decide), hp2 _ (by decide)]; exact (hc1.2 c hc).1
    · rw [up2_ne (by decide), up2_ne (by decide), hk2 _ (by decide), hp2 _ (by decide)]; exact (hc1.2 c hc).2.1
  · refine ⟨?_, fun p hp => ⟨?_, ?_, fun f hf => ?_⟩⟩
    · rw [up2_ne (by decide), up2_ne (by decide), hk2 _ (by decide), hp1.1, hc2 _ (by decide) (by decide) (by decide)]
    · rw [up2_ne (by decide), up2_ne (by decide), hk2 _ (by decide), (hp1.2 p hp).1, hc2 _ (by decide) (by decide) (by decide)]
    · rw [up2_ne (by decide), up2_ne (by decide), hk2 _ (by decide), (hp1.2 p hp).2.1, hc2 _ (by decide) (by decide) (by decide)]
    · rw [up2_ne (by omega), up2_ne (by omega), hk2 _ (by omega), (hp1.2 p hp).2.2 f hf, hc2 _ (by omega) (by omega) (by omega)]
  · have g : ∀ k, 111 ≤ k → k ≤ 115 → I19 k = I k := fun k q1 q2 => by rw [hp2 k (by omega), hc2 k (by omega) (by omega) (by omega)]
    refine ⟨?_, ?_, fun k hk => ⟨?_, ?_, ?_, ?_⟩⟩
    · rw [up2_ne (by decide), up2_ne (by decide), hk1.1, g _ (by decide) (by decide)]
    · rw [up2_ne (by decide), up2_ne (by decide), hk1.2.1, g _ (by decide) (by decide)]
    · rw [up2_ne (by decide), up2_ne (by decide), (hk1.2.2 k hk).1, g _ (by decide) (by decide)]
    · rw [up2_ne (by decide), up2_ne (by decide), (hk1.2.2 k hk).2.1, g _ (by decide) (by decide)]
    · rw [up2_ne (by decide), up2_ne (by decide), (hk1.2.2 k hk).2.2.1, g _ (by decide) (by decide)]
    · rw [up2_ne (by decide), up2_ne (by decide), (hk1.2.2 k hk).2.2.2, g _ (by decide) (by decide)]
  · rw [up2_off (by decide), up2_at]; exact congrFun (hI 86 (by decide)) 3
  · rw [up2_at, up2_ne (by decide)]; exact congrFun (hI 86 (by decide)) 4

end SUIT
