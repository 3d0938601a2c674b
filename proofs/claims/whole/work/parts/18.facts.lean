section FACTS
variable {l : Launch} {n : Nat} {ad : Nat → Nat} {cA : Nat → ClassId} {D : va_G} {z : Zw}
set_option maxHeartbeats 1000000 in
set_option maxRecDepth 100000 in
theorem c38_X2_free (hn : 117 ≤ n) (I : MI) (J : MJ) (f : Nat) (hf : f < 12) : Cv l n ad cA D z 0 yX2_free cX2_free 2 I J [.ref (ad 38), .int (nI f)] (fun I' J' => fcU I I' 38 f frS ∧ J' = J) := by
  refine Cv.of (by decide) (Nat.le_of_ble_eq_true rfl) ?_
  intro p e s m args below meth c A C hin Z Q hret
  refine r_aload_n C 0 (dk oX2_free 0 rfl) rfl ?_
  refine r_getR C (dk oX2_free 1 rfl) fl_X2_9 rfl (kn hn rfl) ?_
  refine r_iload_n C 1 (dk oX2_free 2 rfl) rfl ?_
  refine r_iconst C (dk oX2_free 3 rfl) (v := nI 0) (by decide) ?_
  refine r_iast C _ (dk oX2_free 4 rfl) rfl (kn hn rfl) rfl (by omega) (by decide) ?_
  refine r_aload_n C 0 (dk oX2_free 5 rfl) rfl ?_
  refine r_getR C (dk oX2_free 6 rfl) fl_X2_15 rfl (kn hn rfl) ?_
  refine r_iload_n C 1 (dk oX2_free 7 rfl) rfl ?_
  refine r_iconst C (dk oX2_free 8 rfl) (v := -1) (by decide) ?_
  refine r_iast C _ (dk oX2_free 9 rfl) rfl (kn hn rfl) rfl (by omega) (by decide) ?_
  refine r_aload_n C 0 (dk oX2_free 10 rfl) rfl ?_
  refine r_getR C (dk oX2_free 11 rfl) fl_X2_18 rfl (kn hn rfl) ?_
  refine r_iload_n C 1 (dk oX2_free 12 rfl) rfl ?_
  refine r_iconst C (dk oX2_free 13 rfl) (v := -1) (by decide) ?_
  refine r_iast C _ (dk oX2_free 14 rfl) rfl (kn hn rfl) rfl (by omega) (by decide) ?_
  refine r_aload_n C 0 (dk oX2_free 15 rfl) rfl ?_
  refine r_getR C (dk oX2_free 16 rfl) fl_X2_21 rfl (kn hn rfl) ?_
  refine r_iload_n C 1 (dk oX2_free 17 rfl) rfl ?_
  refine r_iconst C (dk oX2_free 18 rfl) (v := -1) (by decide) ?_
  refine r_iast C _ (dk oX2_free 19 rfl) rfl (kn hn rfl) rfl (by omega) (by decide) ?_
  refine r_aload_n C 0 (dk oX2_free 20 rfl) rfl ?_
  refine r_getR C (dk oX2_free 21 rfl) fl_X2_24 rfl (kn hn rfl) ?_
  refine r_iload_n C 1 (dk oX2_free 22 rfl) rfl ?_
  refine r_iconst C (dk oX2_free 23 rfl) (v := -1) (by decide) ?_
  refine r_iast C _ (dk oX2_free 24 rfl) rfl (kn hn rfl) rfl (by omega) (by decide) ?_
  refine hret (dk oX2_free 25 rfl) ?_
  refine ⟨⟨fun k hk => by rw [up2_ne (by omega), up2_ne (by omega), up2_ne (by omega), up2_ne (by omega), up2_ne (by omega)], five ?_ ?_ ?_ ?_ ?_⟩, rfl⟩
  all_goals (intro g; by_cases e : g = f <;> simp [up2_ap, frS, e])

set_option maxHeartbeats 1000000 in
set_option maxRecDepth 100000 in
theorem c38_X2_answer (hn : 117 ≤ n) (I : MI) (J : MJ) (f s_ p_ : Nat) (hf : f < 12) : Cv l n ad cA D z 0 yX2_answer cX2_answer 4 I J [.ref (ad 38), .int (nI f), .int (nI s_), .int (nI p_)] (fun I' J' => fcU I I' 38 f (ans s_ p_ (fun i => I (38 + 1 + i) f)) ∧ J' = J) := by
  refine Cv.of (by decide) (Nat.le_of_ble_eq_true rfl) ?_
  intro p e s m args below meth c A C hin Z Q hret
  refine r_aload_n C 0 (dk oX2_answer 0 rfl) rfl ?_
  refine r_getR C (dk oX2_answer 1 rfl) fl_X2_9 rfl (kn hn rfl) ?_
  refine r_iload_n C 1 (dk oX2_answer 2 rfl) rfl ?_
  refine r_iload_n C 2 (dk oX2_answer 3 rfl) rfl ?_
  refine r_iast C _ (dk oX2_answer 4 rfl) rfl (kn hn rfl) rfl (by omega) (by decide) ?_
  refine r_aload_n C 0 (dk oX2_answer 5 rfl) rfl ?_
  refine r_getR C (dk oX2_answer 6 rfl) fl_X2_24 rfl (kn hn rfl) ?_
  refine r_iload_n C 1 (dk oX2_answer 7 rfl) rfl ?_
  refine r_iload_n C 3 (dk oX2_answer 8 rfl) rfl ?_
  refine r_iast C _ (dk oX2_answer 9 rfl) rfl (kn hn rfl) rfl (by omega) (by decide) ?_
  refine hret (dk oX2_answer 10 rfl) ?_
  refine ⟨⟨fun k hk => by rw [up2_ne (by omega), up2_ne (by omega)], five ?_ ?_ ?_ ?_ ?_⟩, rfl⟩
  all_goals (intro g; by_cases e : g = f <;> simp [up2_ap, ans, e])

set_option maxHeartbeats 1000000 in
set_option maxRecDepth 100000 in
theorem c38_X2_awaitsAnswerOf (hn : 117 ≤ n) (I : MI) (J : MJ) (f sd : Nat) (hf : f < 12) (hs : sd < 2) : Ci l n ad cA D z 0 yX2_awaitsAnswerOf cX2_awaitsAnswerOf 3 .boolean I J [.ref (ad 38), .int (nI f), .int (nI sd)] (fun r I' J' => r = b32 (decide (I 39 f = nI 1 ∧ I 41 f = nI (1 - sd))) ∧ I' = I ∧ J' = J) := by
  refine Ci.of (by decide) (Nat.le_of_ble_eq_true rfl) ?_
  intro p e s m args below meth c A C hin Z Q hret
  refine r_aload_n C 0 (dk oX2_awaitsAnswerOf 0 rfl) rfl ?_
  refine r_getR C (dk oX2_awaitsAnswerOf 1 rfl) fl_X2_9 rfl (kn hn rfl) ?_
  refine r_iload_n C 1 (dk oX2_awaitsAnswerOf 2 rfl) rfl ?_
  refine r_iald C _ (dk oX2_awaitsAnswerOf 3 rfl) rfl (kn hn rfl) rfl (by omega) (by decide) ?_
  refine r_iconst C (dk oX2_awaitsAnswerOf 4 rfl) (v := nI 1) (by decide) ?_
  refine r_icmp_ne (tgt := 26) C (dk oX2_awaitsAnswerOf 5 rfl) (by decide) (fun hb7 => ?_) (fun hb7 => ?_)
  · refine r_iconst C (dk oX2_awaitsAnswerOf 16 rfl) (v := nI 0) (by decide) ?_
    refine hret (dk oX2_awaitsAnswerOf 17 rfl) rfl ?_
    refine ⟨?_, rfl, rfl⟩
    first
      | exact b32_dt ⟨hb7, hb19⟩
      | exact b32_df (fun q => hb7 q.1)
      | exact b32_df (fun q => hb19 q.2)
  · refine r_aload_n C 0 (dk oX2_awaitsAnswerOf 6 rfl) rfl ?_
    refine r_getR C (dk oX2_awaitsAnswerOf 7 rfl) fl_X2_18 rfl (kn hn rfl) ?_
    refine r_iload_n C 1 (dk oX2_awaitsAnswerOf 8 rfl) rfl ?_
    refine r_iald C _ (dk oX2_awaitsAnswerOf 9 rfl) rfl (kn hn rfl) rfl (by omega) (by decide) ?_
    refine r_iconst C (dk oX2_awaitsAnswerOf 10 rfl) (v := nI 1) (by decide) ?_
    refine r_iload_n C 2 (dk oX2_awaitsAnswerOf 11 rfl) rfl ?_
    refine r_isub C (dk oX2_awaitsAnswerOf 12 rfl) ?_
    rw [pk_sub (by omega)]
    refine r_icmp_ne (tgt := 26) C (dk oX2_awaitsAnswerOf 13 rfl) (by decide) (fun hb19 => ?_) (fun hb19 => ?_)
    · refine r_iconst C (dk oX2_awaitsAnswerOf 16 rfl) (v := nI 0) (by decide) ?_
      refine hret (dk oX2_awaitsAnswerOf 17 rfl) rfl ?_
      refine ⟨?_, rfl, rfl⟩
      first
        | exact b32_dt ⟨hb7, hb19⟩
        | exact b32_df (fun q => hb7 q.1)
        | exact b32_df (fun q => hb19 q.2)
    · refine r_iconst C (dk oX2_awaitsAnswerOf 14 rfl) (v := nI 1) (by decide) ?_
      refine r_goto (tgt := 27) C (dk oX2_awaitsAnswerOf 15 rfl) (by decide) ?_
      refine hret (dk oX2_awaitsAnswerOf 17 rfl) rfl ?_
      refine ⟨?_, rfl, rfl⟩
      first
        | exact b32_dt ⟨hb7, hb19⟩
        | exact b32_df (fun q => hb7 q.1)
        | exact b32_df (fun q => hb19 q.2)

set_option maxHeartbeats 1000000 in
set_option maxRecDepth 100000 in
theorem c38_X2_allow (hn : 117 ≤ n) (I : MI) (J : MJ) (f a p_ : Nat) (hf : f < 12) (ha : 0 < a ∧ a ≤ 6) : Ci l n ad cA D z 1 yX2_allow cX2_allow 4 .boolean I J [.ref (ad 38), .int (nI f), .int (nI a), .int (nI (p_ % 2))] (fun r I' J' => r = b32 (alw a p_ (fun i => I (38 + 1 + i) f)) ∧ I' = I ∧ J' = J) := by
  refine Ci.of (by decide) (Nat.le_of_ble_eq_true rfl) ?_
  intro p e s m args below meth c A C hin Z Q hret
  refine r_iload_n C 2 (dk oX2_allow 0 rfl) rfl ?_
  rcases (by omega : a = 1 ∨ a = 2 ∨ a = 3 ∨ a = 4 ∨ a = 5 ∨ a = 6) with rfl | rfl | rfl | rfl | rfl | rfl
  · refine r_lookup (off := 35) (tgt := 36) C (dk oX2_allow 1 rfl) (by decide) (by decide) (by decide) ?_
    refine r_aload_n C 0 (dk oX2_allow 2 rfl) rfl ?_
    refine r_getR C (dk oX2_allow 3 rfl) fl_X2_9 rfl (kn hn rfl) ?_
    refine r_iload_n C 1 (dk oX2_allow 4 rfl) rfl ?_
    refine r_iald C _ (dk oX2_allow 5 rfl) rfl (kn hn rfl) rfl (by omega) (by decide) ?_
    refine r_if_ne (tgt := 49) C (dk oX2_allow 6 rfl) (by decide) (fun hb42 => ?_) (fun hb42 => ?_)
    · refine r_iconst C (dk oX2_allow 9 rfl) (v := nI 0) (by decide) ?_
      refine hret (dk oX2_allow 10 rfl) rfl ?_
      refine ⟨?_, rfl, rfl⟩
      unfold alw
      rw [if_pos (by omega)]
      first | exact b32_dt hb42 | exact b32_df hb42
    · refine r_iconst C (dk oX2_allow 7 rfl) (v := nI 1) (by decide) ?_
      refine r_goto (tgt := 50) C (dk oX2_allow 8 rfl) (by decide) ?_
      refine hret (dk oX2_allow 10 rfl) rfl ?_
      refine ⟨?_, rfl, rfl⟩
      unfold alw
      rw [if_pos (by omega)]
      first | exact b32_dt hb42 | exact b32_df hb42
  · refine r_lookup (off := 35) (tgt := 36) C (dk oX2_allow 1 rfl) (by decide) (by decide) (by decide) ?_
    refine r_aload_n C 0 (dk oX2_allow 2 rfl) rfl ?_
    refine r_getR C (dk oX2_allow 3 rfl) fl_X2_9 rfl (kn hn rfl) ?_
    refine r_iload_n C 1 (dk oX2_allow 4 rfl) rfl ?_
    refine r_iald C _ (dk oX2_allow 5 rfl) rfl (kn hn rfl) rfl (by omega) (by decide) ?_
    refine r_if_ne (tgt := 49) C (dk oX2_allow 6 rfl) (by decide) (fun hb42 => ?_) (fun hb42 => ?_)
    · refine r_iconst C (dk oX2_allow 9 rfl) (v := nI 0) (by decide) ?_
      refine hret (dk oX2_allow 10 rfl) rfl ?_
      refine ⟨?_, rfl, rfl⟩
      unfold alw
      rw [if_pos (by omega)]
      first | exact b32_dt hb42 | exact b32_df hb42
    · refine r_iconst C (dk oX2_allow 7 rfl) (v := nI 1) (by decide) ?_
      refine r_goto (tgt := 50) C (dk oX2_allow 8 rfl) (by decide) ?_
      refine hret (dk oX2_allow 10 rfl) rfl ?_
      refine ⟨?_, rfl, rfl⟩
      unfold alw
      rw [if_pos (by omega)]
      first | exact b32_dt hb42 | exact b32_df hb42
  · refine r_lookup (off := 85) (tgt := 86) C (dk oX2_allow 1 rfl) (by decide) (by decide) (by decide) ?_
    refine r_aload_n C 0 (dk oX2_allow 32 rfl) rfl ?_
    refine r_iload_n C 1 (dk oX2_allow 33 rfl) rfl ?_
    refine r_iload_n C 3 (dk oX2_allow 34 rfl) rfl ?_
    refine r_ivi C Z (dk oX2_allow 35 rfl) cl_X2_67 ci_X2_awaitsAnswerOf rfl (kn hn rfl) (c38_X2_awaitsAnswerOf hn I J f (p_ % 2) hf (by omega)) rfl rfl (Nat.le_of_ble_eq_true rfl) ⟨Nat.le_of_ble_eq_true rfl, Nat.le_of_ble_eq_true rfl⟩ ⟨Nat.zero_le _, Nat.zero_le _⟩ (fun r89 I89 J89 h89 => ?_)
    obtain ⟨h89, e1_, e2_⟩ := h89
    have e1_ := e1_.symm
    have e2_ := e2_.symm
    subst e1_
    subst e2_
    subst h89
    refine hret (dk oX2_allow 36 rfl) b32_nar ?_
    refine ⟨?_, rfl, rfl⟩
    unfold alw
    rw [if_neg (by omega), if_neg (by omega)]
  · refine r_lookup (off := 85) (tgt := 86) C (dk oX2_allow 1 rfl) (by decide) (by decide) (by decide) ?_
    refine r_aload_n C 0 (dk oX2_allow 32 rfl) rfl ?_
    refine r_iload_n C 1 (dk oX2_allow 33 rfl) rfl ?_
    refine r_iload_n C 3 (dk oX2_allow 34 rfl) rfl ?_
    refine r_ivi C Z (dk oX2_allow 35 rfl) cl_X2_67 ci_X2_awaitsAnswerOf rfl (kn hn rfl) (c38_X2_awaitsAnswerOf hn I J f (p_ % 2) hf (by omega)) rfl rfl (Nat.le_of_ble_eq_true rfl) ⟨Nat.le_of_ble_eq_true rfl, Nat.le_of_ble_eq_true rfl⟩ ⟨Nat.zero_le _, Nat.zero_le _⟩ (fun r89 I89 J89 h89 => ?_)
    obtain ⟨h89, e1_, e2_⟩ := h89
    have e1_ := e1_.symm
    have e2_ := e2_.symm
    subst e1_
    subst e2_
    subst h89
    refine hret (dk oX2_allow 36 rfl) b32_nar ?_
    refine ⟨?_, rfl, rfl⟩
    unfold alw
    rw [if_neg (by omega), if_neg (by omega)]
  · refine r_lookup (off := 85) (tgt := 86) C (dk oX2_allow 1 rfl) (by decide) (by decide) (by decide) ?_
    refine r_aload_n C 0 (dk oX2_allow 32 rfl) rfl ?_
    refine r_iload_n C 1 (dk oX2_allow 33 rfl) rfl ?_
    refine r_iload_n C 3 (dk oX2_allow 34 rfl) rfl ?_
    refine r_ivi C Z (dk oX2_allow 35 rfl) cl_X2_67 ci_X2_awaitsAnswerOf rfl (kn hn rfl) (c38_X2_awaitsAnswerOf hn I J f (p_ % 2) hf (by omega)) rfl rfl (Nat.le_of_ble_eq_true rfl) ⟨Nat.le_of_ble_eq_true rfl, Nat.le_of_ble_eq_true rfl⟩ ⟨Nat.zero_le _, Nat.zero_le _⟩ (fun r89 I89 J89 h89 => ?_)
    obtain ⟨h89, e1_, e2_⟩ := h89
    have e1_ := e1_.symm
    have e2_ := e2_.symm
    subst e1_
    subst e2_
    subst h89
    refine hret (dk oX2_allow 36 rfl) b32_nar ?_
    refine ⟨?_, rfl, rfl⟩
    unfold alw
    rw [if_neg (by omega), if_neg (by omega)]
  · refine r_lookup (off := 50) (tgt := 51) C (dk oX2_allow 1 rfl) (by decide) (by decide) (by decide) ?_
    refine r_aload_n C 0 (dk oX2_allow 11 rfl) rfl ?_
    refine r_getR C (dk oX2_allow 12 rfl) fl_X2_9 rfl (kn hn rfl) ?_
    refine r_iload_n C 1 (dk oX2_allow 13 rfl) rfl ?_
    refine r_iald C _ (dk oX2_allow 14 rfl) rfl (kn hn rfl) rfl (by omega) (by decide) ?_
    refine r_if_eq (tgt := 84) C (dk oX2_allow 15 rfl) (by decide) (fun hb57 => ?_) (fun hb57 => ?_)
    · refine r_iconst C (dk oX2_allow 30 rfl) (v := nI 0) (by decide) ?_
      refine hret (dk oX2_allow 31 rfl) rfl ?_
      refine ⟨?_, rfl, rfl⟩
      unfold alw
      rw [if_neg (by omega), if_pos (by omega)]
      first
        | exact b32_dt ⟨hb57, hb67, hb77⟩
        | exact b32_df (fun q => q.1 hb57)
        | exact b32_df (fun q => q.2.1 hb67)
        | exact b32_df (fun q => hb77 q.2.2)
    · refine r_aload_n C 0 (dk oX2_allow 16 rfl) rfl ?_
      refine r_getR C (dk oX2_allow 17 rfl) fl_X2_9 rfl (kn hn rfl) ?_
      refine r_iload_n C 1 (dk oX2_allow 18 rfl) rfl ?_
      refine r_iald C _ (dk oX2_allow 19 rfl) rfl (kn hn rfl) rfl (by omega) (by decide) ?_
      refine r_iconst C (dk oX2_allow 20 rfl) (v := nI 2) (by decide) ?_
      refine r_icmp_eq (tgt := 84) C (dk oX2_allow 21 rfl) (by decide) (fun hb67 => ?_) (fun hb67 => ?_)
      · refine r_iconst C (dk oX2_allow 30 rfl) (v := nI 0) (by decide) ?_
        refine hret (dk oX2_allow 31 rfl) rfl ?_
        refine ⟨?_, rfl, rfl⟩
        unfold alw
        rw [if_neg (by omega), if_pos (by omega)]
        first
          | exact b32_dt ⟨hb57, hb67, hb77⟩
          | exact b32_df (fun q => q.1 hb57)
          | exact b32_df (fun q => q.2.1 hb67)
          | exact b32_df (fun q => hb77 q.2.2)
      · refine r_aload_n C 0 (dk oX2_allow 22 rfl) rfl ?_
        refine r_getR C (dk oX2_allow 23 rfl) fl_X2_18 rfl (kn hn rfl) ?_
        refine r_iload_n C 1 (dk oX2_allow 24 rfl) rfl ?_
        refine r_iald C _ (dk oX2_allow 25 rfl) rfl (kn hn rfl) rfl (by omega) (by decide) ?_
        refine r_iload_n C 3 (dk oX2_allow 26 rfl) rfl ?_
        refine r_icmp_ne (tgt := 84) C (dk oX2_allow 27 rfl) (by decide) (fun hb77 => ?_) (fun hb77 => ?_)
        · refine r_iconst C (dk oX2_allow 30 rfl) (v := nI 0) (by decide) ?_
          refine hret (dk oX2_allow 31 rfl) rfl ?_
          refine ⟨?_, rfl, rfl⟩
          unfold alw
          rw [if_neg (by omega), if_pos (by omega)]
          first
            | exact b32_dt ⟨hb57, hb67, hb77⟩
            | exact b32_df (fun q => q.1 hb57)
            | exact b32_df (fun q => q.2.1 hb67)
            | exact b32_df (fun q => hb77 q.2.2)
        · refine r_iconst C (dk oX2_allow 28 rfl) (v := nI 1) (by decide) ?_
          refine r_goto (tgt := 85) C (dk oX2_allow 29 rfl) (by decide) ?_
          refine hret (dk oX2_allow 31 rfl) rfl ?_
          refine ⟨?_, rfl, rfl⟩
          unfold alw
          rw [if_neg (by omega), if_pos (by omega)]
          first
            | exact b32_dt ⟨hb57, hb67, hb77⟩
            | exact b32_df (fun q => q.1 hb57)
            | exact b32_df (fun q => q.2.1 hb67)
            | exact b32_df (fun q => hb77 q.2.2)

set_option maxHeartbeats 1000000 in
set_option maxRecDepth 100000 in
theorem c38_X2_apply (hn : 117 ≤ n) (I : MI) (J : MJ) (f a p_ : Nat) (hf : f < 12) (hp : p_ < 10) (ha : 0 < a ∧ a ≤ 6) : Cv l n ad cA D z 1 yX2_apply cX2_apply 4 I J [.ref (ad 38), .int (nI f), .int (nI a), .int (nI p_)] (fun I' J' => fcU I I' 38 f (app a p_ (fun i => I (38 + 1 + i) f)) ∧ J' = J) := by
  refine Cv.of (by decide) (Nat.le_of_ble_eq_true rfl) ?_
  intro p e s m args below meth c A C hin Z Q hret
  refine r_iload_n C 2 (dk oX2_apply 0 rfl) rfl ?_
  rcases (by omega : a = 1 ∨ a = 2 ∨ a = 3 ∨ a = 4 ∨ a = 5 ∨ a = 6) with rfl | rfl | rfl | rfl | rfl | rfl
  · refine r_tabIn (off := 39) (tgt := 40) C (dk oX2_apply 1 rfl) (by decide) (by decide) (by decide) (by decide) ?_
    refine r_aload_n C 0 (dk oX2_apply 2 rfl) rfl ?_
    refine r_getR C (dk oX2_apply 3 rfl) fl_X2_9 rfl (kn hn rfl) ?_
    refine r_iload_n C 1 (dk oX2_apply 4 rfl) rfl ?_
    refine r_iconst C (dk oX2_apply 5 rfl) (v := nI 1) (by decide) ?_
    refine r_iast C _ (dk oX2_apply 6 rfl) rfl (kn hn rfl) rfl (by omega) (by decide) ?_
    refine r_aload_n C 0 (dk oX2_apply 7 rfl) rfl ?_
    refine r_getR C (dk oX2_apply 8 rfl) fl_X2_15 rfl (kn hn rfl) ?_
    refine r_iload_n C 1 (dk oX2_apply 9 rfl) rfl ?_
    refine r_iload_n C 2 (dk oX2_apply 10 rfl) rfl ?_
    refine r_iconst C (dk oX2_apply 11 rfl) (v := nI 1) (by decide) ?_
    refine r_icmp_ne (tgt := 61) C (dk oX2_apply 12 rfl) (by decide) (fun hb54 => ?_) (fun hb54 => ?_)
    · first
        | exact absurd rfl hb54
        | refine r_iconst C (dk oX2_apply 15 rfl) (v := nI 0) (by decide) ?_
          refine r_iast C _ (dk oX2_apply 16 rfl) rfl (kn hn rfl) rfl (by omega) (by decide) ?_
          refine r_aload_n C 0 (dk oX2_apply 17 rfl) rfl ?_
          refine r_getR C (dk oX2_apply 18 rfl) fl_X2_18 rfl (kn hn rfl) ?_
          refine r_iload_n C 1 (dk oX2_apply 19 rfl) rfl ?_
          refine r_iload_n C 3 (dk oX2_apply 20 rfl) rfl ?_
          refine r_iconst C (dk oX2_apply 21 rfl) (v := nI 2) (by decide) ?_
          refine r_irem C (dk oX2_apply 22 rfl) (by decide) ?_
          rw [mod2 (by omega)]
          refine r_iast C _ (dk oX2_apply 23 rfl) rfl (kn hn rfl) rfl (by omega) (by decide) ?_
          refine r_aload_n C 0 (dk oX2_apply 24 rfl) rfl ?_
          refine r_getR C (dk oX2_apply 25 rfl) fl_X2_21 rfl (kn hn rfl) ?_
          refine r_iload_n C 1 (dk oX2_apply 26 rfl) rfl ?_
          refine r_iload_n C 3 (dk oX2_apply 27 rfl) rfl ?_
          refine r_iast C _ (dk oX2_apply 28 rfl) rfl (kn hn rfl) rfl (by omega) (by decide) ?_
          refine r_goto (tgt := 117) C (dk oX2_apply 29 rfl) (by decide) ?_
          refine hret (dk oX2_apply 51 rfl) ?_
          first
            | exact h84
            | exact h94
            | exact h104
            | exact h114
            | (refine ⟨⟨fun k hk => by rw [up2_ne (by omega), up2_ne (by omega), up2_ne (by omega), up2_ne (by omega)], five ?_ ?_ ?_ ?_ ?_⟩, rfl⟩
               all_goals (intro g; by_cases e : g = f <;> simp [up2_ap, app, e]))
    · first
        | exact absurd hb54 (by decide)
        | refine r_iconst C (dk oX2_apply 13 rfl) (v := nI 1) (by decide) ?_
          refine r_goto (tgt := 62) C (dk oX2_apply 14 rfl) (by decide) ?_
          refine r_iast C _ (dk oX2_apply 16 rfl) rfl (kn hn rfl) rfl (by omega) (by decide) ?_
          refine r_aload_n C 0 (dk oX2_apply 17 rfl) rfl ?_
          refine r_getR C (dk oX2_apply 18 rfl) fl_X2_18 rfl (kn hn rfl) ?_
          refine r_iload_n C 1 (dk oX2_apply 19 rfl) rfl ?_
          refine r_iload_n C 3 (dk oX2_apply 20 rfl) rfl ?_
          refine r_iconst C (dk oX2_apply 21 rfl) (v := nI 2) (by decide) ?_
          refine r_irem C (dk oX2_apply 22 rfl) (by decide) ?_
          rw [mod2 (by omega)]
          refine r_iast C _ (dk oX2_apply 23 rfl) rfl (kn hn rfl) rfl (by omega) (by decide) ?_
          refine r_aload_n C 0 (dk oX2_apply 24 rfl) rfl ?_
          refine r_getR C (dk oX2_apply 25 rfl) fl_X2_21 rfl (kn hn rfl) ?_
          refine r_iload_n C 1 (dk oX2_apply 26 rfl) rfl ?_
          refine r_iload_n C 3 (dk oX2_apply 27 rfl) rfl ?_
          refine r_iast C _ (dk oX2_apply 28 rfl) rfl (kn hn rfl) rfl (by omega) (by decide) ?_
          refine r_goto (tgt := 117) C (dk oX2_apply 29 rfl) (by decide) ?_
          refine hret (dk oX2_apply 51 rfl) ?_
          first
            | exact h84
            | exact h94
            | exact h104
            | exact h114
            | (refine ⟨⟨fun k hk => by rw [up2_ne (by omega), up2_ne (by omega), up2_ne (by omega), up2_ne (by omega)], five ?_ ?_ ?_ ?_ ?_⟩, rfl⟩
               all_goals (intro g; by_cases e : g = f <;> simp [up2_ap, app, e]))
  · refine r_tabIn (off := 39) (tgt := 40) C (dk oX2_apply 1 rfl) (by decide) (by decide) (by decide) (by decide) ?_
    refine r_aload_n C 0 (dk oX2_apply 2 rfl) rfl ?_
    refine r_getR C (dk oX2_apply 3 rfl) fl_X2_9 rfl (kn hn rfl) ?_
    refine r_iload_n C 1 (dk oX2_apply 4 rfl) rfl ?_
    refine r_iconst C (dk oX2_apply 5 rfl) (v := nI 1) (by decide) ?_
    refine r_iast C _ (dk oX2_apply 6 rfl) rfl (kn hn rfl) rfl (by omega) (by decide) ?_
    refine r_aload_n C 0 (dk oX2_apply 7 rfl) rfl ?_
    refine r_getR C (dk oX2_apply 8 rfl) fl_X2_15 rfl (kn hn rfl) ?_
    refine r_iload_n C 1 (dk oX2_apply 9 rfl) rfl ?_
    refine r_iload_n C 2 (dk oX2_apply 10 rfl) rfl ?_
    refine r_iconst C (dk oX2_apply 11 rfl) (v := nI 1) (by decide) ?_
    refine r_icmp_ne (tgt := 61) C (dk oX2_apply 12 rfl) (by decide) (fun hb54 => ?_) (fun hb54 => ?_)
    · first
        | exact absurd rfl hb54
        | refine r_iconst C (dk oX2_apply 15 rfl) (v := nI 0) (by decide) ?_
          refine r_iast C _ (dk oX2_apply 16 rfl) rfl (kn hn rfl) rfl (by omega) (by decide) ?_
          refine r_aload_n C 0 (dk oX2_apply 17 rfl) rfl ?_
          refine r_getR C (dk oX2_apply 18 rfl) fl_X2_18 rfl (kn hn rfl) ?_
          refine r_iload_n C 1 (dk oX2_apply 19 rfl) rfl ?_
          refine r_iload_n C 3 (dk oX2_apply 20 rfl) rfl ?_
          refine r_iconst C (dk oX2_apply 21 rfl) (v := nI 2) (by decide) ?_
          refine r_irem C (dk oX2_apply 22 rfl) (by decide) ?_
          rw [mod2 (by omega)]
          refine r_iast C _ (dk oX2_apply 23 rfl) rfl (kn hn rfl) rfl (by omega) (by decide) ?_
          refine r_aload_n C 0 (dk oX2_apply 24 rfl) rfl ?_
          refine r_getR C (dk oX2_apply 25 rfl) fl_X2_21 rfl (kn hn rfl) ?_
          refine r_iload_n C 1 (dk oX2_apply 26 rfl) rfl ?_
          refine r_iload_n C 3 (dk oX2_apply 27 rfl) rfl ?_
          refine r_iast C _ (dk oX2_apply 28 rfl) rfl (kn hn rfl) rfl (by omega) (by decide) ?_
          refine r_goto (tgt := 117) C (dk oX2_apply 29 rfl) (by decide) ?_
          refine hret (dk oX2_apply 51 rfl) ?_
          first
            | exact h84
            | exact h94
            | exact h104
            | exact h114
            | (refine ⟨⟨fun k hk => by rw [up2_ne (by omega), up2_ne (by omega), up2_ne (by omega), up2_ne (by omega)], five ?_ ?_ ?_ ?_ ?_⟩, rfl⟩
               all_goals (intro g; by_cases e : g = f <;> simp [up2_ap, app, e]))
    · first
        | exact absurd hb54 (by decide)
        | refine r_iconst C (dk oX2_apply 13 rfl) (v := nI 1) (by decide) ?_
          refine r_goto (tgt := 62) C (dk oX2_apply 14 rfl) (by decide) ?_
          refine r_iast C _ (dk oX2_apply 16 rfl) rfl (kn hn rfl) rfl (by omega) (by decide) ?_
          refine r_aload_n C 0 (dk oX2_apply 17 rfl) rfl ?_
          refine r_getR C (dk oX2_apply 18 rfl) fl_X2_18 rfl (kn hn rfl) ?_
          refine r_iload_n C 1 (dk oX2_apply 19 rfl) rfl ?_
          refine r_iload_n C 3 (dk oX2_apply 20 rfl) rfl ?_
          refine r_iconst C (dk oX2_apply 21 rfl) (v := nI 2) (by decide) ?_
          refine r_irem C (dk oX2_apply 22 rfl) (by decide) ?_
          rw [mod2 (by omega)]
          refine r_iast C _ (dk oX2_apply 23 rfl) rfl (kn hn rfl) rfl (by omega) (by decide) ?_
          refine r_aload_n C 0 (dk oX2_apply 24 rfl) rfl ?_
          refine r_getR C (dk oX2_apply 25 rfl) fl_X2_21 rfl (kn hn rfl) ?_
          refine r_iload_n C 1 (dk oX2_apply 26 rfl) rfl ?_
          refine r_iload_n C 3 (dk oX2_apply 27 rfl) rfl ?_
          refine r_iast C _ (dk oX2_apply 28 rfl) rfl (kn hn rfl) rfl (by omega) (by decide) ?_
          refine r_goto (tgt := 117) C (dk oX2_apply 29 rfl) (by decide) ?_
          refine hret (dk oX2_apply 51 rfl) ?_
          first
            | exact h84
            | exact h94
            | exact h104
            | exact h114
            | (refine ⟨⟨fun k hk => by rw [up2_ne (by omega), up2_ne (by omega), up2_ne (by omega), up2_ne (by omega)], five ?_ ?_ ?_ ?_ ?_⟩, rfl⟩
               all_goals (intro g; by_cases e : g = f <;> simp [up2_ap, app, e]))
  · refine r_tabIn (off := 89) (tgt := 90) C (dk oX2_apply 1 rfl) (by decide) (by decide) (by decide) (by decide) ?_
    refine r_aload_n C 0 (dk oX2_apply 34 rfl) rfl ?_
    refine r_iload_n C 1 (dk oX2_apply 35 rfl) rfl ?_
    refine r_iconst C (dk oX2_apply 36 rfl) (v := nI 2) (by decide) ?_
    refine r_iload_n C 3 (dk oX2_apply 37 rfl) rfl ?_
    refine r_ivv C Z (dk oX2_apply 38 rfl) cl_X2_71 ci_X2_answer rfl (kn hn rfl) (c38_X2_answer hn I J f 2 p_ hf) rfl rfl (Nat.le_of_ble_eq_true rfl) ⟨Nat.le_of_ble_eq_true rfl, Nat.le_of_ble_eq_true rfl⟩ ⟨Nat.zero_le _, Nat.zero_le _⟩ (fun I94 J94 h94 => ?_)
    refine r_goto (tgt := 117) C (dk oX2_apply 39 rfl) (by decide) ?_
    refine hret (dk oX2_apply 51 rfl) ?_
    first
      | exact h84
      | exact h94
      | exact h104
      | exact h114
      | (refine ⟨⟨fun k hk => by rw [up2_ne (by omega), up2_ne (by omega), up2_ne (by omega), up2_ne (by omega)], five ?_ ?_ ?_ ?_ ?_⟩, rfl⟩
         all_goals (intro g; by_cases e : g = f <;> simp [up2_ap, app, e]))
  · refine r_tabIn (off := 99) (tgt := 100) C (dk oX2_apply 1 rfl) (by decide) (by decide) (by decide) (by decide) ?_
    refine r_aload_n C 0 (dk oX2_apply 40 rfl) rfl ?_
    refine r_iload_n C 1 (dk oX2_apply 41 rfl) rfl ?_
    refine r_iconst C (dk oX2_apply 42 rfl) (v := nI 3) (by decide) ?_
    refine r_iload_n C 3 (dk oX2_apply 43 rfl) rfl ?_
    refine r_ivv C Z (dk oX2_apply 44 rfl) cl_X2_71 ci_X2_answer rfl (kn hn rfl) (c38_X2_answer hn I J f 3 p_ hf) rfl rfl (Nat.le_of_ble_eq_true rfl) ⟨Nat.le_of_ble_eq_true rfl, Nat.le_of_ble_eq_true rfl⟩ ⟨Nat.zero_le _, Nat.zero_le _⟩ (fun I104 J104 h104 => ?_)
    refine r_goto (tgt := 117) C (dk oX2_apply 45 rfl) (by decide) ?_
    refine hret (dk oX2_apply 51 rfl) ?_
    first
      | exact h84
      | exact h94
      | exact h104
      | exact h114
      | (refine ⟨⟨fun k hk => by rw [up2_ne (by omega), up2_ne (by omega), up2_ne (by omega), up2_ne (by omega)], five ?_ ?_ ?_ ?_ ?_⟩, rfl⟩
         all_goals (intro g; by_cases e : g = f <;> simp [up2_ap, app, e]))
  · refine r_tabIn (off := 109) (tgt := 110) C (dk oX2_apply 1 rfl) (by decide) (by decide) (by decide) (by decide) ?_
    refine r_aload_n C 0 (dk oX2_apply 46 rfl) rfl ?_
    refine r_iload_n C 1 (dk oX2_apply 47 rfl) rfl ?_
    refine r_iconst C (dk oX2_apply 48 rfl) (v := nI 4) (by decide) ?_
    refine r_iload_n C 3 (dk oX2_apply 49 rfl) rfl ?_
    refine r_ivv C Z (dk oX2_apply 50 rfl) cl_X2_71 ci_X2_answer rfl (kn hn rfl) (c38_X2_answer hn I J f 4 p_ hf) rfl rfl (Nat.le_of_ble_eq_true rfl) ⟨Nat.le_of_ble_eq_true rfl, Nat.le_of_ble_eq_true rfl⟩ ⟨Nat.zero_le _, Nat.zero_le _⟩ (fun I114 J114 h114 => ?_)
    refine hret (dk oX2_apply 51 rfl) ?_
    first
      | exact h84
      | exact h94
      | exact h104
      | exact h114
      | (refine ⟨⟨fun k hk => by rw [up2_ne (by omega), up2_ne (by omega), up2_ne (by omega), up2_ne (by omega)], five ?_ ?_ ?_ ?_ ?_⟩, rfl⟩
         all_goals (intro g; by_cases e : g = f <;> simp [up2_ap, app, e]))
  · refine r_tabIn (off := 81) (tgt := 82) C (dk oX2_apply 1 rfl) (by decide) (by decide) (by decide) (by decide) ?_
    refine r_aload_n C 0 (dk oX2_apply 30 rfl) rfl ?_
    refine r_iload_n C 1 (dk oX2_apply 31 rfl) rfl ?_
    refine r_ivv C Z (dk oX2_apply 32 rfl) cl_X2_30 ci_X2_free rfl (kn hn rfl) (c38_X2_free hn I J f hf) rfl rfl (Nat.le_of_ble_eq_true rfl) ⟨Nat.le_of_ble_eq_true rfl, Nat.le_of_ble_eq_true rfl⟩ ⟨Nat.zero_le _, Nat.zero_le _⟩ (fun I84 J84 h84 => ?_)
    refine r_goto (tgt := 117) C (dk oX2_apply 33 rfl) (by decide) ?_
    refine hret (dk oX2_apply 51 rfl) ?_
    first
      | exact h84
      | exact h94
      | exact h104
      | exact h114
      | (refine ⟨⟨fun k hk => by rw [up2_ne (by omega), up2_ne (by omega), up2_ne (by omega), up2_ne (by omega)], five ?_ ?_ ?_ ?_ ?_⟩, rfl⟩
         all_goals (intro g; by_cases e : g = f <;> simp [up2_ap, app, e]))

set_option maxHeartbeats 1000000 in
set_option maxRecDepth 100000 in
theorem c38_X2_hear (hn : 117 ≤ n) (I : MI) (J : MJ) (p_ : Nat) (hp : p_ < 10) (a_ : Nat → Nat) (ha : ∀ f, f < 12 → I (23 + p_) f = nI (a_ f) ∧ a_ f ≤ 6) : Cv l n ad cA D z 2 yX2_hear cX2_hear 4 I J [.ref (ad 38), .ref (ad (23 + p_)), .int (nI p_)] (fun I' J' => fcO I I' 38 ∧ (∀ g, g < 12 → ∀ i, i < 5 → I' (38 + 1 + i) g = hrF false (a_ g) p_ (fun i => I (38 + 1 + i) g) i) ∧ J' = J) := by
  refine Cv.of (by decide) (Nat.le_of_ble_eq_true rfl) ?_
  intro p e s m args below meth c A C hin Z Q hret
  refine r_iconst C (dk oX2_hear 0 rfl) (v := nI 0) (by decide) ?_
  refine r_istore_n (lo' := [(3, _), (0, _), (1, _), (2, _)]) C (dk oX2_hear 1 rfl) rfl (by decide) rfl ?_
  have L2 : ∀ (d_ : Nat) (f : Nat) (I1 : MI), 12 - f < d_ → f ≤ 12 → (∀ g, g < 12 → ∀ i, i < 5 → I1 (38 + 1 + i) g = if g < f then hrF false (a_ g) p_ (fun i => I (38 + 1 + i) g) i else I (38 + 1 + i) g) → fcO I I1 38 → V p l e (rmL 2) s m args below meth c Q D A 4 0 0 n ad (mE cA ad I1 J) 2 [(0, .ref (ad 38)), (1, .ref (ad (23 + p_))), (2, .int (nI p_)), (3, .int (nI f))] [] := by
    intro d_
    induction d_ with
    | zero => intros; exact absurd (by assumption) (Nat.not_lt_zero _)
    | succ d_ ih => 
      intro f I1 hd_ hf hM hO
      refine r_iload_n C 3 (dk oX2_hear 2 rfl) rfl ?_
      refine r_bipush C (dk oX2_hear 3 rfl) (v := nI 12) (by decide) ?_
      refine r_icmp_ge (tgt := 49) C (dk oX2_hear 4 rfl) (by decide) (fun hb5 => ?_) (fun hb5 => ?_)
      · simp (disch := omega) only [nI_leI, nI_ltI, nI_eq, nI_eq0] at hb5
        refine hret (dk oX2_hear 32 rfl) ?_
        first | exact ⟨hO, fun g hg i hi => by rw [hM g hg i hi, if_pos (by omega)], rfl⟩ | (exfalso; omega)
      · simp (disch := omega) only [nI_leI, nI_ltI, nI_eq, nI_eq0] at hb5
        refine r_iload_n C 3 (dk oX2_hear 5 rfl) rfl ?_
        refine r_aload_n C 1 (dk oX2_hear 6 rfl) rfl ?_
        refine r_alen C (dk oX2_hear 7 rfl) (shA_act p_ hp).2 (by decide) (by omega) ?_
        refine r_icmp_ge (tgt := 49) C (dk oX2_hear 8 rfl) (by decide) (fun hb11 => ?_) (fun hb11 => ?_)
        · simp (disch := omega) only [nI_leI, nI_ltI, nI_eq, nI_eq0] at hb11
          refine hret (dk oX2_hear 32 rfl) ?_
          first | exact ⟨hO, fun g hg i hi => by rw [hM g hg i hi, if_pos (by omega)], rfl⟩ | (exfalso; omega)
        · simp (disch := omega) only [nI_leI, nI_ltI, nI_eq, nI_eq0] at hb11
          refine r_aload_n C 1 (dk oX2_hear 9 rfl) rfl ?_
          refine r_iload_n C 3 (dk oX2_hear 10 rfl) rfl ?_
          refine r_iald C _ (dk oX2_hear 11 rfl) (shA_act p_ hp).1 (by omega) rfl (by omega) (by decide) ?_
          have hrow : I1 (23 + p_) = I (23 + p_) := hO _ (Or.inl (by omega))
          have haf := ha f (by omega)
          have ha6 := haf.2
          rw [hrow, haf.1]
          refine r_if_eq (tgt := 43) C (dk oX2_hear 12 rfl) (by decide) (fun hb17 => ?_) (fun hb17 => ?_)
          · simp (disch := omega) only [nI_leI, nI_ltI, nI_eq, nI_eq0] at hb17
            refine r_iinc (lo' := [(3, _), (0, _), (1, _), (2, _)]) C 3 (dk oX2_hear 30 rfl) rfl (by first | exact nI_inc _ | rfl) (by decide) rfl ?_
            refine r_goto (tgt := 2) C (dk oX2_hear 31 rfl) (by decide) ?_
            refine V.sub [1, 2, 3, 0] rfl ?_
            have hsame : (fun i => I1 (38 + 1 + i) f) = fun i => I1 (38 + 1 + i) f := rfl
            have hcur : ∀ i, i < 5 → I1 (38 + 1 + i) f = I (38 + 1 + i) f := fun i hi => by rw [hM f (by omega) i hi, if_neg (by omega)]
            have c0 := hcur 0 (by decide)
            have c2 := hcur 2 (by decide)
            first
              | (refine ih (f + 1) _ (by omega) (by omega) (fun g hg i hi => ?_) hO
                 rw [hM g hg i hi]
                 by_cases e : g = f
                 · subst e
                   rw [if_neg (by omega), if_pos (by omega), show hrF false (a_ g) p_ (fun i => I (38 + 1 + i) g) = _ from if_neg (fun q => q.2.1 hb17)]
                 · by_cases e2 : g < f
                   · rw [if_pos e2, if_pos (by omega)]
                   · rw [if_neg e2, if_neg (by omega)])
              | (refine ih (f + 1) _ (by omega) (by omega) (fun g hg i hi => ?_) hO
                 rw [hM g hg i hi]
                 by_cases e : g = f
                 · subst e
                   have hal : alw (a_ g) p_ (fun i => I (38 + 1 + i) g) = false := (alw_cong c0.symm c2.symm).trans hb31
                   rw [if_neg (by omega), if_pos (by omega), show hrF false (a_ g) p_ (fun i => I (38 + 1 + i) g) = _ from if_neg (fun q => by rw [hal] at q; exact absurd q.2.2 (by decide))]
                 · by_cases e2 : g < f
                   · rw [if_pos e2, if_pos (by omega)]
                   · rw [if_neg e2, if_neg (by omega)])
              | (refine ih (f + 1) _ (by omega) (by omega) (fun g hg i hi => ?_) (hO.trans h40.1)
                 rw [h40.2 i hi g]
                 by_cases e : g = f
                 · subst e
                   have hal : alw (a_ g) p_ (fun i => I (38 + 1 + i) g) = true := (alw_cong c0.symm c2.symm).trans hb31
                   rw [if_pos rfl, if_pos (by omega), show hrF false (a_ g) p_ (fun i => I (38 + 1 + i) g) = _ from if_pos ⟨rfl, hb17, hal⟩]
                   exact app_cong (fun j hj => hcur j hj) i hi
                 · rw [if_neg e, hM g hg i hi]
                   by_cases e2 : g < f
                   · rw [if_pos e2, if_pos (by omega)]
                   · rw [if_neg e2, if_neg (by omega)])
          · simp (disch := omega) only [nI_leI, nI_ltI, nI_eq, nI_eq0] at hb17
            refine r_aload_n C 0 (dk oX2_hear 13 rfl) rfl ?_
            refine r_iload_n C 3 (dk oX2_hear 14 rfl) rfl ?_
            refine r_aload_n C 1 (dk oX2_hear 15 rfl) rfl ?_
            refine r_iload_n C 3 (dk oX2_hear 16 rfl) rfl ?_
            refine r_iald C _ (dk oX2_hear 17 rfl) (shA_act p_ hp).1 (by omega) rfl (by omega) (by decide) ?_
            rw [hrow, haf.1]
            refine r_iload_n C 2 (dk oX2_hear 18 rfl) rfl ?_
            refine r_iconst C (dk oX2_hear 19 rfl) (v := nI 2) (by decide) ?_
            refine r_irem C (dk oX2_hear 20 rfl) (by decide) ?_
            rw [mod2 (by omega)]
            refine r_ivi C Z (dk oX2_hear 21 rfl) cl_X2_59 ci_X2_allow rfl (kn hn rfl) (c38_X2_allow hn I1 J f (a_ f) p_ (by omega) (by omega)) rfl rfl (Nat.le_of_ble_eq_true rfl) ⟨Nat.le_of_ble_eq_true rfl, Nat.le_of_ble_eq_true rfl⟩ ⟨Nat.zero_le _, Nat.zero_le _⟩ (fun r28 I28 J28 h28 => ?_)
            obtain ⟨h28, e1_, e2_⟩ := h28
            have e1_ := e1_.symm
            have e2_ := e2_.symm
            subst e1_
            subst e2_
            subst h28
            refine r_if_eq (tgt := 43) C (dk oX2_hear 22 rfl) (by decide) (fun hb31 => ?_) (fun hb31 => ?_)
            · rw [b32_0] at hb31
              refine r_iinc (lo' := [(3, _), (0, _), (1, _), (2, _)]) C 3 (dk oX2_hear 30 rfl) rfl (by first | exact nI_inc _ | rfl) (by decide) rfl ?_
              refine r_goto (tgt := 2) C (dk oX2_hear 31 rfl) (by decide) ?_
              refine V.sub [1, 2, 3, 0] rfl ?_
              have hsame : (fun i => I1 (38 + 1 + i) f) = fun i => I1 (38 + 1 + i) f := rfl
              have hcur : ∀ i, i < 5 → I1 (38 + 1 + i) f = I (38 + 1 + i) f := fun i hi => by rw [hM f (by omega) i hi, if_neg (by omega)]
              have c0 := hcur 0 (by decide)
              have c2 := hcur 2 (by decide)
              first
                | (refine ih (f + 1) _ (by omega) (by omega) (fun g hg i hi => ?_) hO
                   rw [hM g hg i hi]
                   by_cases e : g = f
                   · subst e
                     rw [if_neg (by omega), if_pos (by omega), show hrF false (a_ g) p_ (fun i => I (38 + 1 + i) g) = _ from if_neg (fun q => q.2.1 hb17)]
                   · by_cases e2 : g < f
                     · rw [if_pos e2, if_pos (by omega)]
                     · rw [if_neg e2, if_neg (by omega)])
                | (refine ih (f + 1) _ (by omega) (by omega) (fun g hg i hi => ?_) hO
                   rw [hM g hg i hi]
                   by_cases e : g = f
                   · subst e
                     have hal : alw (a_ g) p_ (fun i => I (38 + 1 + i) g) = false := (alw_cong c0.symm c2.symm).trans hb31
                     rw [if_neg (by omega), if_pos (by omega), show hrF false (a_ g) p_ (fun i => I (38 + 1 + i) g) = _ from if_neg (fun q => by rw [hal] at q; exact absurd q.2.2 (by decide))]
                   · by_cases e2 : g < f
                     · rw [if_pos e2, if_pos (by omega)]
                     · rw [if_neg e2, if_neg (by omega)])
                | (refine ih (f + 1) _ (by omega) (by omega) (fun g hg i hi => ?_) (hO.trans h40.1)
                   rw [h40.2 i hi g]
                   by_cases e : g = f
                   · subst e
                     have hal : alw (a_ g) p_ (fun i => I (38 + 1 + i) g) = true := (alw_cong c0.symm c2.symm).trans hb31
                     rw [if_pos rfl, if_pos (by omega), show hrF false (a_ g) p_ (fun i => I (38 + 1 + i) g) = _ from if_pos ⟨rfl, hb17, hal⟩]
                     exact app_cong (fun j hj => hcur j hj) i hi
                   · rw [if_neg e, hM g hg i hi]
                     by_cases e2 : g < f
                     · rw [if_pos e2, if_pos (by omega)]
                     · rw [if_neg e2, if_neg (by omega)])
            · rw [b32_n] at hb31
              refine r_aload_n C 0 (dk oX2_hear 23 rfl) rfl ?_
              refine r_iload_n C 3 (dk oX2_hear 24 rfl) rfl ?_
              refine r_aload_n C 1 (dk oX2_hear 25 rfl) rfl ?_
              refine r_iload_n C 3 (dk oX2_hear 26 rfl) rfl ?_
              refine r_iald C _ (dk oX2_hear 27 rfl) (shA_act p_ hp).1 (by omega) rfl (by omega) (by decide) ?_
              rw [hrow, haf.1]
              refine r_iload_n C 2 (dk oX2_hear 28 rfl) rfl ?_
              refine r_ivv C Z (dk oX2_hear 29 rfl) cl_X2_63 ci_X2_apply rfl (kn hn rfl) (c38_X2_apply hn I1 J f (a_ f) p_ (by omega) hp (by omega)) rfl rfl (Nat.le_of_ble_eq_true rfl) ⟨Nat.le_of_ble_eq_true rfl, Nat.le_of_ble_eq_true rfl⟩ ⟨Nat.zero_le _, Nat.zero_le _⟩ (fun I40 J40 h40 => ?_)
              obtain ⟨h40, e2_⟩ := h40
              have e2_ := e2_.symm
              subst e2_
              refine r_iinc (lo' := [(3, _), (0, _), (1, _), (2, _)]) C 3 (dk oX2_hear 30 rfl) rfl (by first | exact nI_inc _ | rfl) (by decide) rfl ?_
              refine r_goto (tgt := 2) C (dk oX2_hear 31 rfl) (by decide) ?_
              refine V.sub [1, 2, 3, 0] rfl ?_
              have hsame : (fun i => I1 (38 + 1 + i) f) = fun i => I1 (38 + 1 + i) f := rfl
              have hcur : ∀ i, i < 5 → I1 (38 + 1 + i) f = I (38 + 1 + i) f := fun i hi => by rw [hM f (by omega) i hi, if_neg (by omega)]
              have c0 := hcur 0 (by decide)
              have c2 := hcur 2 (by decide)
              first
                | (refine ih (f + 1) _ (by omega) (by omega) (fun g hg i hi => ?_) hO
                   rw [hM g hg i hi]
                   by_cases e : g = f
                   · subst e
                     rw [if_neg (by omega), if_pos (by omega), show hrF false (a_ g) p_ (fun i => I (38 + 1 + i) g) = _ from if_neg (fun q => q.2.1 hb17)]
                   · by_cases e2 : g < f
                     · rw [if_pos e2, if_pos (by omega)]
                     · rw [if_neg e2, if_neg (by omega)])
                | (refine ih (f + 1) _ (by omega) (by omega) (fun g hg i hi => ?_) hO
                   rw [hM g hg i hi]
                   by_cases e : g = f
                   · subst e
                     have hal : alw (a_ g) p_ (fun i => I (38 + 1 + i) g) = false := (alw_cong c0.symm c2.symm).trans hb31
                     rw [if_neg (by omega), if_pos (by omega), show hrF false (a_ g) p_ (fun i => I (38 + 1 + i) g) = _ from if_neg (fun q => by rw [hal] at q; exact absurd q.2.2 (by decide))]
                   · by_cases e2 : g < f
                     · rw [if_pos e2, if_pos (by omega)]
                     · rw [if_neg e2, if_neg (by omega)])
                | (refine ih (f + 1) _ (by omega) (by omega) (fun g hg i hi => ?_) (hO.trans h40.1)
                   rw [h40.2 i hi g]
                   by_cases e : g = f
                   · subst e
                     have hal : alw (a_ g) p_ (fun i => I (38 + 1 + i) g) = true := (alw_cong c0.symm c2.symm).trans hb31
                     rw [if_pos rfl, if_pos (by omega), show hrF false (a_ g) p_ (fun i => I (38 + 1 + i) g) = _ from if_pos ⟨rfl, hb17, hal⟩]
                     exact app_cong (fun j hj => hcur j hj) i hi
                   · rw [if_neg e, hM g hg i hi]
                     by_cases e2 : g < f
                     · rw [if_pos e2, if_pos (by omega)]
                     · rw [if_neg e2, if_neg (by omega)])
  refine V.sub [1, 2, 3, 0] rfl ?_
  exact L2 13 0 I (by omega) (by omega) (fun g hg i hi => by rw [if_neg (by omega)]) (fcO.rf _ _)

set_option maxHeartbeats 1000000 in
set_option maxRecDepth 100000 in
theorem c38_X2_admitSilently (hn : 117 ≤ n) (I : MI) (J : MJ) (p_ : Nat) (hp : p_ < 10) : Ci l n ad cA D z 1 yX2_admitSilently cX2_admitSilently 4 .int I J [.ref (ad 38), .int (nI p_)] (fun r I' J' => r = nI (bS (fun f => adB p_ (fun i => I (38 + 1 + i) f)) 12) ∧ fcO I I' 38 ∧ (∀ g, g < 12 → ∀ i, i < 5 → I' (38 + 1 + i) g = admF p_ (fun i => I (38 + 1 + i) g) i) ∧ J' = J) := by
  refine Ci.of (by decide) (Nat.le_of_ble_eq_true rfl) ?_
  intro p e s m args below meth c A C hin Z Q hret
  refine r_iconst C (dk oX2_admitSilently 0 rfl) (v := nI 0) (by decide) ?_
  refine r_istore_n (lo' := [(2, _), (0, _), (1, _)]) C (dk oX2_admitSilently 1 rfl) rfl (by decide) rfl ?_
  refine r_iconst C (dk oX2_admitSilently 2 rfl) (v := nI 0) (by decide) ?_
  refine r_istore_n (lo' := [(3, _), (2, _), (0, _), (1, _)]) C (dk oX2_admitSilently 3 rfl) rfl (by decide) rfl ?_
  have L4 : ∀ (d_ : Nat) (f : Nat) (I1 : MI), 12 - f < d_ → f ≤ 12 → (∀ g, g < 12 → ∀ i, i < 5 → I1 (38 + 1 + i) g = if g < f then admF p_ (fun i => I (38 + 1 + i) g) i else I (38 + 1 + i) g) → fcO I I1 38 → V p l e (rmL 1) s m args below meth c Q D A 4 0 0 n ad (mE cA ad I1 J) 4 [(0, .ref (ad 38)), (1, .int (nI p_)), (2, .int (nI (bS (fun f => adB p_ (fun i => I (38 + 1 + i) f)) f))), (3, .int (nI f))] [] := by
    intro d_
    induction d_ with
    | zero => intros; exact absurd (by assumption) (Nat.not_lt_zero _)
    | succ d_ ih => 
      intro f I1 hd_ hf hM hO
      refine r_iload_n C 3 (dk oX2_admitSilently 4 rfl) rfl ?_
      refine r_bipush C (dk oX2_admitSilently 5 rfl) (v := nI 12) (by decide) ?_
      refine r_icmp_ge (tgt := 40) C (dk oX2_admitSilently 6 rfl) (by decide) (fun hb7 => ?_) (fun hb7 => ?_)
      · simp (disch := omega) only [nI_leI, nI_ltI, nI_eq, nI_eq0] at hb7
        refine r_iload_n C 2 (dk oX2_admitSilently 27 rfl) rfl ?_
        refine hret (dk oX2_admitSilently 28 rfl) rfl ?_
        exact ⟨by rw [show f = 12 by omega], hO, fun g hg i hi => by rw [hM g hg i hi, if_pos (by omega)], rfl⟩
      · simp (disch := omega) only [nI_leI, nI_ltI, nI_eq, nI_eq0] at hb7
        refine r_aload_n C 0 (dk oX2_admitSilently 7 rfl) rfl ?_
        refine r_iload_n C 3 (dk oX2_admitSilently 8 rfl) rfl ?_
        refine r_iload_n C 1 (dk oX2_admitSilently 9 rfl) rfl ?_
        refine r_iconst C (dk oX2_admitSilently 10 rfl) (v := nI 2) (by decide) ?_
        refine r_irem C (dk oX2_admitSilently 11 rfl) (by decide) ?_
        rw [mod2 (by omega)]
        refine r_ivi C Z (dk oX2_admitSilently 12 rfl) cl_X2_67 ci_X2_awaitsAnswerOf rfl (kn hn rfl) (c38_X2_awaitsAnswerOf hn I1 J f (p_ % 2) (by omega) (by omega)) rfl rfl (Nat.le_of_ble_eq_true rfl) ⟨Nat.le_of_ble_eq_true rfl, Nat.le_of_ble_eq_true rfl⟩ ⟨Nat.zero_le _, Nat.zero_le _⟩ (fun r15 I15 J15 h15 => ?_)
        obtain ⟨h15, e1_, e2_⟩ := h15
        have e1_ := e1_.symm
        have e2_ := e2_.symm
        subst e1_
        subst e2_
        subst h15
        refine r_if_eq (tgt := 34) C (dk oX2_admitSilently 13 rfl) (by decide) (fun hb18 => ?_) (fun hb18 => ?_)
        · rw [b32_0] at hb18
          refine r_iinc (lo' := [(3, _), (0, _), (1, _), (2, _)]) C 3 (dk oX2_admitSilently 25 rfl) rfl (by first | exact nI_inc _ | rfl) (by decide) rfl ?_
          refine r_goto (tgt := 4) C (dk oX2_admitSilently 26 rfl) (by decide) ?_
          refine V.sub [1, 2, 3, 0] rfl ?_
          have hcur : ∀ i, i < 5 → I1 (38 + 1 + i) f = I (38 + 1 + i) f := fun i hi => by rw [hM f (by omega) i hi, if_neg (by omega)]
          have c0 := hcur 0 (by decide)
          have c2 := hcur 2 (by decide)
          have had : adB p_ (fun i => I (38 + 1 + i) f) = decide (I1 39 f = nI 1 ∧ I1 41 f = nI (1 - p_ % 2)) := adB_cong (ψ := fun i => I1 (38 + 1 + i) f) c0.symm c2.symm
          rw [← had] at hb18
          have eB : bS (fun f => adB p_ (fun i => I (38 + 1 + i) f)) (f + 1) = if adB p_ (fun i => I (38 + 1 + i) f) = true then bS (fun f => adB p_ (fun i => I (38 + 1 + i) f)) f ||| 2 ^ f else bS (fun f => adB p_ (fun i => I (38 + 1 + i) f)) f := rfl
          first
            | (have hR := ih (f + 1) I1 (by omega) (by omega) (fun g hg i hi => by
                 rw [hM g hg i hi]
                 by_cases e : g = f
                 · subst e
                   rw [if_neg (by omega), if_pos (by omega), show admF p_ (fun i => I (38 + 1 + i) g) = _ from if_neg (by rw [hb18]; decide)]
                 · by_cases e2 : g < f
                   · rw [if_pos e2, if_pos (by omega)]
                   · rw [if_neg e2, if_neg (by omega)]) hO
               rw [eB, if_neg (by rw [hb18]; decide)] at hR
               exact hR)
            | (have hR := ih (f + 1) I25 (by omega) (by omega) (fun g hg i hi => by
                 rw [h25.2 i hi g]
                 by_cases e : g = f
                 · subst e
                   rw [if_pos rfl, if_pos (by omega), show admF p_ (fun i => I (38 + 1 + i) g) = _ from if_pos hb18]
                   exact ans_cong (fun j hj => hcur j hj) i hi
                 · rw [if_neg e, hM g hg i hi]
                   by_cases e2 : g < f
                   · rw [if_pos e2, if_pos (by omega)]
                   · rw [if_neg e2, if_neg (by omega)]) (hO.trans h25.1)
               rw [eB, if_pos hb18] at hR
               exact hR)
        · rw [b32_n] at hb18
          refine r_aload_n C 0 (dk oX2_admitSilently 14 rfl) rfl ?_
          refine r_iload_n C 3 (dk oX2_admitSilently 15 rfl) rfl ?_
          refine r_iconst C (dk oX2_admitSilently 16 rfl) (v := nI 2) (by decide) ?_
          refine r_iload_n C 1 (dk oX2_admitSilently 17 rfl) rfl ?_
          refine r_ivv C Z (dk oX2_admitSilently 18 rfl) cl_X2_71 ci_X2_answer rfl (kn hn rfl) (c38_X2_answer hn I1 J f 2 p_ (by omega)) rfl rfl (Nat.le_of_ble_eq_true rfl) ⟨Nat.le_of_ble_eq_true rfl, Nat.le_of_ble_eq_true rfl⟩ ⟨Nat.zero_le _, Nat.zero_le _⟩ (fun I25 J25 h25 => ?_)
          obtain ⟨h25, e2_⟩ := h25
          have e2_ := e2_.symm
          subst e2_
          refine r_iload_n C 2 (dk oX2_admitSilently 19 rfl) rfl ?_
          refine r_iconst C (dk oX2_admitSilently 20 rfl) (v := nI 1) (by decide) ?_
          refine r_iload_n C 3 (dk oX2_admitSilently 21 rfl) rfl ?_
          refine r_ishl C (dk oX2_admitSilently 22 rfl) ?_
          refine r_ior C (dk oX2_admitSilently 23 rfl) ?_
          rw [or_bit (by omega)]
          refine r_istore_n (lo' := [(2, _), (0, _), (1, _), (3, _)]) C (dk oX2_admitSilently 24 rfl) rfl (by decide) rfl ?_
          refine r_iinc (lo' := [(3, _), (2, _), (0, _), (1, _)]) C 3 (dk oX2_admitSilently 25 rfl) rfl (by first | exact nI_inc _ | rfl) (by decide) rfl ?_
          refine r_goto (tgt := 4) C (dk oX2_admitSilently 26 rfl) (by decide) ?_
          refine V.sub [2, 3, 1, 0] rfl ?_
          have hcur : ∀ i, i < 5 → I1 (38 + 1 + i) f = I (38 + 1 + i) f := fun i hi => by rw [hM f (by omega) i hi, if_neg (by omega)]
          have c0 := hcur 0 (by decide)
          have c2 := hcur 2 (by decide)
          have had : adB p_ (fun i => I (38 + 1 + i) f) = decide (I1 39 f = nI 1 ∧ I1 41 f = nI (1 - p_ % 2)) := adB_cong (ψ := fun i => I1 (38 + 1 + i) f) c0.symm c2.symm
          rw [← had] at hb18
          have eB : bS (fun f => adB p_ (fun i => I (38 + 1 + i) f)) (f + 1) = if adB p_ (fun i => I (38 + 1 + i) f) = true then bS (fun f => adB p_ (fun i => I (38 + 1 + i) f)) f ||| 2 ^ f else bS (fun f => adB p_ (fun i => I (38 + 1 + i) f)) f := rfl
          first
            | (have hR := ih (f + 1) I1 (by omega) (by omega) (fun g hg i hi => by
                 rw [hM g hg i hi]
                 by_cases e : g = f
                 · subst e
                   rw [if_neg (by omega), if_pos (by omega), show admF p_ (fun i => I (38 + 1 + i) g) = _ from if_neg (by rw [hb18]; decide)]
                 · by_cases e2 : g < f
                   · rw [if_pos e2, if_pos (by omega)]
                   · rw [if_neg e2, if_neg (by omega)]) hO
               rw [eB, if_neg (by rw [hb18]; decide)] at hR
               exact hR)
            | (have hR := ih (f + 1) I25 (by omega) (by omega) (fun g hg i hi => by
                 rw [h25.2 i hi g]
                 by_cases e : g = f
                 · subst e
                   rw [if_pos rfl, if_pos (by omega), show admF p_ (fun i => I (38 + 1 + i) g) = _ from if_pos hb18]
                   exact ans_cong (fun j hj => hcur j hj) i hi
                 · rw [if_neg e, hM g hg i hi]
                   by_cases e2 : g < f
                   · rw [if_pos e2, if_pos (by omega)]
                   · rw [if_neg e2, if_neg (by omega)]) (hO.trans h25.1)
               rw [eB, if_pos hb18] at hR
               exact hR)
  refine V.sub [2, 3, 1, 0] rfl ?_
  exact L4 13 0 I (by omega) (by omega) (fun g hg i hi => by rw [if_neg (by omega)]) (fcO.rf _ _)

end FACTS
