section FACTS
variable {l : Launch} {n : Nat} {ad : Nat → Nat} {cA : Nat → ClassId} {D : va_G} {z : Zw}
set_option maxHeartbeats 1000000 in
set_option maxRecDepth 100000 in
theorem c38_X2_free (hn : 117 ≤ n) (I : MI) (J : MJ) (f : Nat) (hf : f < 12) : Cv l n ad cA D z 0 yX2_free cX2_free 2 I J [.ref (ad 38), .int (nI f)] (fun I' J' => fcU I I' 38 f frS ∧ J' = J) := by
  refine Cv.of (by decide) (Nat.le_of_ble_eq_true rfl) ?_
  intro p e s m args below meth c A C hin Z Q hret
  refine r_aload_n C 0 (dk oX2_free 0 rfl) rfl ?_
  refine r_getR C (dk oX2_free 1 rfl) fl_X2_9 rfl (kn hn rfl) ?_
  refine r_iload_n C 1 (dk oX2_free 2 rfl) rfl ?_
  refine r_iconst C (dk oX2_free 3 rfl) (v := nI 0) (by decide) ?_
  refine r_iast C _ (dk oX2_free 4 rfl) rfl (kn hn rfl) rfl (by omega) (by decide) ?_
  refine r_aload_n C 0 (dk oX2_free 5 rfl) rfl ?_
  refine r_getR C (dk oX2_free 6 rfl) fl_X2_15 rfl (kn hn rfl) ?_
  refine r_iload_n C 1 (dk oX2_free 7 rfl) rfl ?_
  refine r_iconst C (dk oX2_free 8 rfl) (v := -1) (by decide) ?_
  refine r_iast C _ (dk oX2_free 9 rfl) rfl (kn hn rfl) rfl (by omega) (by decide) ?_
  refine r_aload_n C 0 (dk oX2_free 10 rfl) rfl ?_
  refine r_getR C (dk oX2_free 11 rfl) fl_X2_18 rfl (kn hn rfl) ?_
  refine r_iload_n C 1 (dk oX2_free 12 rfl) rfl ?_
  refine r_iconst C (dk oX2_free 13 rfl) (v := -1) (by decide) ?_
  refine r_iast C _ (dk oX2_free 14 rfl) rfl (kn hn rfl) rfl (by omega) (by decide) ?_
  refine r_aload_n C 0 (dk oX2_free 15 rfl) rfl ?_
  refine r_getR C (dk oX2_free 16 rfl) fl_X2_21 rfl (kn hn rfl) ?_
  refine r_iload_n C 1 (dk oX2_free 17 rfl) rfl ?_
  refine r_iconst C (dk oX2_free 18 rfl) (v := -1) (by decide) ?_
  refine r_iast C _ (dk oX2_free 19 rfl) rfl (kn hn rfl) rfl (by omega) (by decide) ?_
  refine r_aload_n C 0 (dk oX2_free 20 rfl) rfl ?_
  refine r_getR C (dk oX2_free 21 rfl) fl_X2_24 rfl (kn hn rfl) ?_
  refine r_iload_n C 1 (dk oX2_free 22 rfl) rfl ?_
  refine r_iconst C (dk oX2_free 23 rfl) (v := -1) (by decide) ?_
  refine r_iast C _ (dk oX2_free 24 rfl) rfl (kn hn rfl) rfl (by omega) (by decide) ?_
  refine hret (dk oX2_free 25 rfl) ?_
  refine ⟨⟨fun k hk => by rw [up2_ne (by omega), up2_ne (by omega), up2_ne (by omega), up2_ne (by omega), up2_ne (by omega)], five ?_ ?_ ?_ ?_ ?_⟩, rfl⟩
  all_goals (intro g; by_cases e : g = f <;> simp [up2_ap, frS, e])

set_option maxHeartbeats 1000000 in
set_option maxRecDepth 100000 in
theorem c38_X2_answer (hn : 117 ≤ n) (I : MI) (J : MJ) (f s_ p_ : Nat) (hf : f < 12) : Cv l n ad cA D z 0 yX2_answer cX2_answer 4 I J [.ref (ad 38), .int (nI f), .int (nI s_), .int (nI p_)] (fun I' J' => fcU I I' 38 f (ans s_ p_ (fun i => I (38 + 1 + i) f)) ∧ J' = J) := by
  refine Cv.of (by decide) (Nat.le_of_ble_eq_true rfl) ?_
  intro p e s m args below meth c A C hin Z Q hret
  refine r_aload_n C 0 (dk oX2_answer 0 rfl) rfl ?_
  refine r_getR C (dk oX2_answer 1 rfl) fl_X2_9 rfl (kn hn rfl) ?_
  refine r_iload_n C 1 (dk oX2_answer 2 rfl) rfl ?_
  refine r_iload_n C 2 (dk oX2_answer 3 rfl) rfl ?_
  refine r_iast C _ (dk oX2_answer 4 rfl) rfl (kn hn rfl) rfl (by omega) (by decide) ?_
  refine r_aload_n C 0 (dk oX2_answer 5 rfl) rfl ?_
  refine r_getR C (dk oX2_answer 6 rfl) fl_X2_24 rfl (kn hn rfl) ?_
  refine r_iload_n C 1 (dk oX2_answer 7 rfl) rfl ?_
  refine r_iload_n C 3 (dk oX2_answer 8 rfl) rfl ?_
  refine r_iast C _ (dk oX2_answer 9 rfl) rfl (kn hn rfl) rfl (by omega) (by decide) ?_
  refine hret (dk oX2_answer 10 rfl) ?_
  refine ⟨⟨fun k hk => by rw [up2_ne (by omega), up2_ne (by omega)], five ?_ ?_ ?_ ?_ ?_⟩, rfl⟩
  all_goals (intro g; by_cases e : g = f <;> simp [up2_ap, ans, e])

set_option maxHeartbeats 1000000 in
set_option maxRecDepth 100000 in
theorem c38_X2_awaitsAnswerOf (hn : 117 ≤ n) (I : MI) (J : MJ) (f sd : Nat) (hf : f < 12) (hs : sd < 2) : Ci l n ad cA D z 0 yX2_awaitsAnswerOf cX2_awaitsAnswerOf 3 .boolean I J [.ref (ad 38), .int (nI f), .int (nI sd)] (fun r I' J' => r = b32 (decide (I 39 f = nI 1 ∧ I 41 f = nI (1 - sd))) ∧ I' = I ∧ J' = J) := by
  refine Ci.of (by decide) (Nat.le_of_ble_eq_true rfl) ?_
  intro p e s m args below meth c A C hin Z Q hret
  refine r_aload_n C 0 (dk oX2_awaitsAnswerOf 0 rfl) rfl ?_
  refine r_getR C (dk oX2_awaitsAnswerOf 1 rfl) fl_X2_9 rfl (kn hn rfl) ?_
  refine r_iload_n C 1 (dk oX2_awaitsAnswerOf 2 rfl) rfl ?_
  refine r_iald C _ (dk oX2_awaitsAnswerOf 3 rfl) rfl (kn hn rfl) rfl (by omega) (by decide) ?_
  refine r_iconst C (dk oX2_awaitsAnswerOf 4 rfl) (v := nI 1) (by decide) ?_
  refine r_icmp_ne (tgt := 26) C (dk oX2_awaitsAnswerOf 5 rfl) (by decide) (fun hb7 => ?_) (fun hb7 => ?_)
  · refine r_iconst C (dk oX2_awaitsAnswerOf 16 rfl) (v := nI 0) (by decide) ?_
    refine hret (dk oX2_awaitsAnswerOf 17 rfl) rfl ?_
    refine ⟨?_, rfl, rfl⟩
    first
      | exact b32_dt ⟨hb7, hb19⟩
      | exact b32_df (fun q => hb7 q.1)
      | exact b32_df (fun q => hb19 q.2)
  · refine r_aload_n C 0 (dk oX2_awaitsAnswerOf 6 rfl) rfl ?_
    refine r_getR C (dk oX2_awaitsAnswerOf 7 rfl) fl_X2_18 rfl (kn hn rfl) ?_
    refine r_iload_n C 1 (dk oX2_awaitsAnswerOf 8 rfl) rfl ?_
    refine r_iald C _ (dk oX2_awaitsAnswerOf 9 rfl) rfl (kn hn rfl) rfl (by omega) (by decide) ?_
    refine r_iconst C (dk oX2_awaitsAnswerOf 10 rfl) (v := nI 1) (by decide) ?_
    refine r_iload_n C 2 (dk oX2_awaitsAnswerOf 11 rfl) rfl ?_
    refine r_isub C (dk oX2_awaitsAnswerOf 12 rfl) ?_
    rw [pk_sub (by omega)]
    refine r_icmp_ne (tgt := 26) C (dk oX2_awaitsAnswerOf 13 rfl) (by decide) (fun hb19 => ?_) (fun hb19 => ?_)
    · refine r_iconst C (dk oX2_awaitsAnswerOf 16 rfl) (v := nI 0) (by decide) ?_
      refine hret (dk oX2_awaitsAnswerOf 17 rfl) rfl ?_
      refine ⟨?_, rfl, rfl⟩
      first
        | exact b32_dt ⟨hb7, hb19⟩
        | exact b32_df (fun q => hb7 q.1)
        | exact b32_df (fun q => hb19 q.2)
    · refine r_iconst C (dk oX2_awaitsAnswerOf 14 rfl) (v := nI 1) (by decide) ?_
      refine r_goto (tgt := 27) C (dk oX2_awaitsAnswerOf 15 rfl) (by decide) ?_
      refine hret (dk oX2_awaitsAnswerOf 17 rfl) rfl ?_
      refine ⟨?_, rfl, rfl⟩
      first
        | exact b32_dt ⟨hb7, hb19⟩
        | exact b32_df (fun q => hb7 q.1)
        | exact b32_df (fun q => hb19 q.2)

set_option maxHeartbeats 1000000 in
set_option maxRecDepth 100000 in
theorem c38_X2_allow (hn : 117 ≤ n) (I : MI) (J : MJ) (f a p_ : Nat) (hf : f < 12) (ha : 0 < a ∧ a ≤ 6) : Ci l n ad cA D z 1 yX2_allow cX2_allow 4 .boolean I J [.ref (ad 38), .int (nI f), .int (nI a), .int (nI (p_ % 2))] (fun r I' J' => r = b32 (alw a p_ (fun i => I (38 + 1 + i) f)) ∧ I' = I ∧ J' = J) := by
  refine Ci.of (by decide) (Nat.le_of_ble_eq_true rfl) ?_
  intro p e s m args below meth c A C hin Z Q hret
  refine r_iload_n C 2 (dk oX2_allow 0 rfl) rfl ?_
  rcases (by omega : a = 1 ∨ a = 2 ∨ a = 3 ∨ a = 4 ∨ a = 5 ∨ a = 6) with rfl | rfl | rfl | rfl | rfl | rfl
  · refine r_lookup (off := 35) (tgt := 36) C (dk oX2_allow 1 rfl) (by decide) (by decide) (by decide) ?_
    refine r_aload_n C 0 (dk oX2_allow 2 rfl) rfl ?_
    refine r_getR C (dk oX2_allow 3 rfl) fl_X2_9 rfl (kn hn rfl) ?_
    refine r_iload_n C 1 (dk oX2_allow 4 rfl) rfl ?_
    refine r_iald C _ (dk oX2_allow 5 rfl) rfl (kn hn rfl) rfl (by omega) (by decide) ?_
    refine r_if_ne (tgt := 49) C (dk oX2_allow 6 rfl) (by decide) (fun hb42 => ?_) (fun hb42 => ?_)
    · refine r_iconst C (dk oX2_allow 9 rfl) (v := nI 0) (by decide) ?_
      refine hret (dk oX2_allow 10 rfl) rfl ?_
      refine ⟨?_, rfl, rfl⟩
      unfold alw
      rw [if_pos (by omega)]
      first | exact b32_dt hb42 | exact b32_df hb42
    · refine r_iconst C (dk oX2_allow 7 rfl) (v := nI 1) (by decide) ?_
      refine r_goto (tgt := 50) C (dk oX2_allow 8 rfl) (by decide) ?_
      refine hret (dk oX2_allow 10 rfl) rfl ?_
      refine ⟨?_, rfl, rfl⟩
      unfold alw
      rw [if_pos (by omega)]
      first | exact b32_dt hb42 | exact b32_df hb42
  · refine r_lookup (off := 35) (tgt := 36) C (dk oX2_allow 1 rfl) (by decide) (by decide) (by decide) ?_
    refine r_aload_n C 0 (dk oX2_allow 2 rfl) rfl ?_
    refine r_getR C (dk oX2_allow 3 rfl) fl_X2_9 rfl (kn hn rfl) ?_
    refine r_iload_n C 1 (dk oX2_allow 4 rfl) rfl ?_
    refine r_iald C _ (dk oX2_allow 5 rfl) rfl (kn hn rfl) rfl (by omega) (by decide) ?_
    refine r_if_ne (tgt := 49) C (dk oX2_allow 6 rfl) (by decide) (fun hb42 => ?_) (fun hb42 => ?_)
    · refine r_iconst C (dk oX2_allow 9 rfl) (v := nI 0) (by decide) ?_
      refine hret (dk oX2_allow 10 rfl) rfl ?_
      refine ⟨?_, rfl, rfl⟩
      unfold alw
      rw [if_pos (by omega)]
      first | exact b32_dt hb42 | exact b32_df hb42
    · refine r_iconst C (dk oX2_allow 7 rfl) (v := nI 1) (by decide) ?_
      refine r_goto (tgt := 50) C (dk oX2_allow 8 rfl) (by decide) ?_
      refine hret (dk oX2_allow 10 rfl) rfl ?_
      refine ⟨?_, rfl, rfl⟩
      unfold alw
      rw [if_pos (by omega)]
      first | exact b32_dt hb42 | exact b32_df hb42
  · refine r_lookup (off := 85) (tgt := 86) C (dk oX2_allow 1 rfl) (by decide) (by decide) (by decide) ?_
    refine r_aload_n C 0 (dk oX2_allow 32 rfl) rfl ?_
    refine r_iload_n C 1 (dk oX2_allow 33 rfl) rfl ?_
    refine r_iload_n C 3 (dk oX2_allow 34 rfl) rfl ?_
    refine r_ivi C Z (dk oX2_allow 35 rfl) cl_X2_70 ci_X2_awaitsAnswerOf rfl (kn hn rfl) (c38_X2_awaitsAnswerOf hn I J f (p_ % 2) hf (by omega)) rfl rfl (Nat.le_of_ble_eq_true rfl) ⟨Nat.le_of_ble_eq_true rfl, Nat.le_of_ble_eq_true rfl⟩ ⟨Nat.zero_le _, Nat.zero_le _⟩ (fun r89 I89 J89 h89 => ?_)
    obtain ⟨h89, e1_, e2_⟩ := h89
    have e1_ := e1_.symm
    have e2_ := e2_.symm
    subst e1_
    subst e2_
    subst h89
    refine hret (dk oX2_allow 36 rfl) b32_nar ?_
    refine ⟨?_, rfl, rfl⟩
    unfold alw
    rw [if_neg (by omega), if_neg (by omega)]
  · refine r_lookup (off := 85) (tgt := 86) C (dk oX2_allow 1 rfl) (by decide) (by decide) (by decide) ?_
    refine r_aload_n C 0 (dk oX2_allow 32 rfl) rfl ?_
    refine r_iload_n C 1 (dk oX2_allow 33 rfl) rfl ?_
    refine r_iload_n C 3 (dk oX2_allow 34 rfl) rfl ?_
    refine r_ivi C Z (dk oX2_allow 35 rfl) cl_X2_70 ci_X2_awaitsAnswerOf rfl (kn hn rfl) (c38_X2_awaitsAnswerOf hn I J f (p_ % 2) hf (by omega)) rfl rfl (Nat.le_of_ble_eq_true rfl) ⟨Nat.le_of_ble_eq_true rfl, Nat.le_of_ble_eq_true rfl⟩ ⟨Nat.zero_le _, Nat.zero_le _⟩ (fun r89 I89 J89 h89 => ?_)
    obtain ⟨h89, e1_, e2_⟩ := h89
    have e1_ := e1_.symm
    have e2_ := e2_.symm
    subst e1_
    subst e2_
    subst h89
    refine hret (dk oX2_allow 36 rfl) b32_nar ?_
    refine ⟨?_, rfl, rfl⟩
    unfold alw
    rw [if_neg (by omega), if_neg (by omega)]
  · refine r_lookup (off := 85) (tgt := 86) C (dk oX2_allow 1 rfl) (by decide) (by decide) (by decide) ?_
    refine r_aload_n C 0 (dk oX2_allow 32 rfl) rfl ?_
    refine r_iload_n C 1 (dk oX2_allow 33 rfl) rfl ?_
    refine r_iload_n C 3 (dk oX2_allow 34 rfl) rfl ?_
    refine r_ivi C Z (dk oX2_allow 35 rfl) cl_X2_70 ci_X2_awaitsAnswerOf rfl (kn hn rfl) (c38_X2_awaitsAnswerOf hn I J f (p_ % 2) hf (by omega)) rfl rfl (Nat.le_of_ble_eq_true rfl) ⟨Nat.le_of_ble_eq_true rfl, Nat.le_of_ble_eq_true rfl⟩ ⟨Nat.zero_le _, Nat.zero_le _⟩ (fun r89 I89 J89 h89 => ?_)
    obtain ⟨h89, e1_, e2_⟩ := h89
    have e1_ := e1_.symm
    have e2_ := e2_.symm
    subst e1_
    subst e2_
    subst h89
    refine hret (dk oX2_allow 36 rfl) b32_nar ?_
    refine ⟨?_, rfl, rfl⟩
    unfold alw
    rw [if_neg (by omega), if_neg (by omega)]
  · refine r_lookup (off := 50) (tgt := 51) C (dk oX2_allow 1 rfl) (by decide) (by decide) (by decide) ?_
    refine r_aload_n C 0 (dk oX2_allow 11 rfl) rfl ?_
    refine r_getR C (dk oX2_allow 12 rfl) fl_X2_9 rfl (kn hn rfl) ?_
    refine r_iload_n C 1 (dk oX2_allow 13 rfl) rfl ?_
    refine r_iald C _ (dk oX2_allow 14 rfl) rfl (kn hn rfl) rfl (by omega) (by decide) ?_
    refine r_if_eq (tgt := 84) C (dk oX2_allow 15 rfl) (by decide) (fun hb57 => ?_) (fun hb57 => ?_)
    · refine r_iconst C (dk oX2_allow 30 rfl) (v := nI 0) (by decide) ?_
      refine hret (dk oX2_allow 31 rfl) rfl ?_
      refine ⟨?_, rfl, rfl⟩
      unfold alw
      rw [if_neg (by omega), if_pos (by omega)]
      first
        | exact b32_dt ⟨hb57, hb67, hb77⟩
        | exact b32_df (fun q => q.1 hb57)
        | exact b32_df (fun q => q.2.1 hb67)
        | exact b32_df (fun q => hb77 q.2.2)
    · refine r_aload_n C 0 (dk oX2_allow 16 rfl) rfl ?_
      refine r_getR C (dk oX2_allow 17 rfl) fl_X2_9 rfl (kn hn rfl) ?_
      refine r_iload_n C 1 (dk oX2_allow 18 rfl) rfl ?_
      refine r_iald C _ (dk oX2_allow 19 rfl) rfl (kn hn rfl) rfl (by omega) (by decide) ?_
      refine r_iconst C (dk oX2_allow 20 rfl) (v := nI 2) (by decide) ?_
      refine r_icmp_eq (tgt := 84) C (dk oX2_allow 21 rfl) (by decide) (fun hb67 => ?_) (fun hb67 => ?_)
      · refine r_iconst C (dk oX2_allow 30 rfl) (v := nI 0) (by decide) ?_
        refine hret (dk oX2_allow 31 rfl) rfl ?_
        refine ⟨?_, rfl, rfl⟩
        unfold alw
        rw [if_neg (by omega), if_pos (by omega)]
        first
          | exact b32_dt ⟨hb57, hb67, hb77⟩
          | exact b32_df (fun q => q.1 hb57)
          | exact b32_df (fun q => q.2.1 hb67)
          | exact b32_df (fun q => hb77 q.2.2)
      · refine r_aload_n C 0 (dk oX2_allow 22 rfl) rfl ?_
        refine r_getR C (dk oX2_allow 23 rfl) fl_X2_18 rfl (kn hn rfl) ?_
        refine r_iload_n C 1 (dk oX2_allow 24 rfl) rfl ?_
        refine r_iald C _ (dk oX2_allow 25 rfl) rfl (kn hn rfl) rfl (by omega) (by decide) ?_
        refine r_iload_n C 3 (dk oX2_allow 26 rfl) rfl ?_
        refine r_icmp_ne (tgt := 84) C (dk oX2_allow 27 rfl) (by decide) (fun hb77 => ?_) (fun hb77 => ?_)
        · refine r_iconst C (dk oX2_allow 30 rfl) (v := nI 0) (by decide) ?_
          refine hret (dk oX2_allow 31 rfl) rfl ?_
          refine ⟨?_, rfl, rfl⟩
          unfold alw
          rw [if_neg (by omega), if_pos (by omega)]
          first
            | exact b32_dt ⟨hb57, hb67, hb77⟩
            | exact b32_df (fun q => q.1 hb57)
            | exact b32_df (fun q => q.2.1 hb67)
            | exact b32_df (fun q => hb77 q.2.2)
        · refine r_iconst C (dk oX2_allow 28 rfl) (v := nI 1) (by decide) ?_
          refine r_goto (tgt := 85) C (dk oX2_allow 29 rfl) (by decide) ?_
          refine hret (dk oX2_allow 31 rfl) rfl ?_
          refine ⟨?_, rfl, rfl⟩
          unfold alw
          rw [if_neg (by omega), if_pos (by omega)]
          first
            | exact b32_dt ⟨hb57, hb67, hb77⟩
            | exact b32_df (fun q => q.1 hb57)
            | exact b32_df (fun q => q.2.1 hb67)
            | exact b32_df (fun q => hb77 q.2.2)

set_option maxHeartbeats 1000000 in
set_option maxRecDepth 100000 in
theorem c38_X2_apply (hn : 117 ≤ n) (I : MI) (J : MJ) (f a p_ : Nat) (hf : f < 12) (hp : p_ < 10) (ha : 0 < a ∧ a ≤ 6) : Cv l n ad cA D z 1 yX2_apply cX2_apply 4 I J [.ref (ad 38), .int (nI f), .int (nI a), .int (nI p_)] (fun I' J' => fcU I I' 38 f (app a p_ (fun i => I (38 + 1 + i) f)) ∧ J' = J) := by
  refine Cv.of (by decide) (Nat.le_of_ble_eq_true rfl) ?_
  intro p e s m args below meth c A C hin Z Q hret
  refine r_iload_n C 2 (dk oX2_apply 0 rfl) rfl ?_
  rcases (by omega : a = 1 ∨ a = 2 ∨ a = 3 ∨ a = 4 ∨ a = 5 ∨ a = 6) with rfl | rfl | rfl | rfl | rfl | rfl
  · refine r_tabIn (off := 39) (tgt := 40) C (dk oX2_apply 1 rfl) (by decide) (by decide) (by decide) (by decide) ?_
    refine r_aload_n C 0 (dk oX2_apply 2 rfl) rfl ?_
    refine r_getR C (dk oX2_apply 3 rfl) fl_X2_9 rfl (kn hn rfl) ?_
    refine r_iload_n C 1 (dk oX2_apply 4 rfl) rfl ?_
    refine r_iconst C (dk oX2_apply 5 rfl) (v := nI 1) (by decide) ?_
    refine r_iast C _ (dk oX2_apply 6 rfl) rfl (kn hn rfl) rfl (by omega) (by decide) ?_
    refine r_aload_n C 0 (dk oX2_apply 7 rfl) rfl ?_
    refine r_getR C (dk oX2_apply 8 rfl) fl_X2_15 rfl (kn hn rfl) ?_
    refine r_iload_n C 1 (dk oX2_apply 9 rfl) rfl ?_
    refine r_iload_n C 2 (dk oX2_apply 10 rfl) rfl ?_
    refine r_iconst C (dk oX2_apply 11 rfl) (v := nI 1) (by decide) ?_
    refine r_icmp_ne (tgt := 61) C (dk oX2_apply 12 rfl) (by decide) (fun hb54 => ?_) (fun hb54 => ?_)
    · first
        | exact absurd rfl hb54
        | refine r_iconst C (dk oX2_apply 15 rfl) (v := nI 0) (by decide) ?_
          refine r_iast C _ (dk oX2_apply 16 rfl) rfl (kn hn rfl) rfl (by omega) (by decide) ?_
          refine r_aload_n C 0 (dk oX2_apply 17 rfl) rfl ?_
          refine r_getR C (dk oX2_apply 18 rfl) fl_X2_18 rfl (kn hn rfl) ?_
          refine r_iload_n C 1 (dk oX2_apply 19 rfl) rfl ?_
          refine r_iload_n C 3 (dk oX2_apply 20 rfl) rfl ?_
          refine r_iconst C (dk oX2_apply 21 rfl) (v := nI 2) (by decide) ?_
          refine r_irem C (dk oX2_apply 22 rfl) (by decide) ?_
          rw [mod2 (by omega)]
          refine r_iast C _ (dk oX2_apply 23 rfl) rfl (kn hn rfl) rfl (by omega) (by decide) ?_
          refine r_aload_n C 0 (dk oX2_apply 24 rfl) rfl ?_
          refine r_getR C (dk oX2_apply 25 rfl) fl_X2_21 rfl (kn hn rfl) ?_
          refine r_iload_n C 1 (dk oX2_apply 26 rfl) rfl ?_
          refine r_iload_n C 3 (dk oX2_apply 27 rfl) rfl ?_
          refine r_iast C _ (dk oX2_apply 28 rfl) rfl (kn hn rfl) rfl (by omega) (by decide) ?_
          refine r_goto (tgt := 117) C (dk oX2_apply 29 rfl) (by decide) ?_
          refine hret (dk oX2_apply 51 rfl) ?_
          first
            | exact h84
            | exact h94
            | exact h104
            | exact h114
            | (refine ⟨⟨fun k hk => by rw [up2_ne (by omega), up2_ne (by omega), up2_ne (by omega), up2_ne (by omega)], five ?_ ?_ ?_ ?_ ?_⟩, rfl⟩
               all_goals (intro g; by_cases e : g = f <;> simp [up2_ap, app, e]))
    · first
        | exact absurd hb54 (by decide)
        | refine r_iconst C (dk oX2_apply 13 rfl) (v := nI 1) (by decide) ?_
          refine r_goto (tgt := 62) C (dk oX2_apply 14 rfl) (by decide) ?_
          refine r_iast C _ (dk oX2_apply 16 rfl) rfl (kn hn rfl) rfl (by omega) (by decide) ?_
          refine r_aload_n C 0 (dk oX2_apply 17 rfl) rfl ?_
          refine r_getR C (dk oX2_apply 18 rfl) fl_X2_18 rfl (kn hn rfl) ?_
          refine r_iload_n C 1 (dk oX2_apply 19 rfl) rfl ?_
          refine r_iload_n C 3 (dk oX2_apply 20 rfl) rfl ?_
          refine r_iconst C (dk oX2_apply 21 rfl) (v := nI 2) (by decide) ?_
          refine r_irem C (dk oX2_apply 22 rfl) (by decide) ?_
          rw [mod2 (by omega)]
          refine r_iast C _ (dk oX2_apply 23 rfl) rfl (kn hn rfl) rfl (by omega) (by decide) ?_
          refine r_aload_n C 0 (dk oX2_apply 24 rfl) rfl ?_
          refine r_getR C (dk oX2_apply 25 rfl) fl_X2_21 rfl (kn hn rfl) ?_
          refine r_iload_n C 1 (dk oX2_apply 26 rfl) rfl ?_
          refine r_iload_n C 3 (dk oX2_apply 27 rfl) rfl ?_
          refine r_iast C _ (dk oX2_apply 28 rfl) rfl (kn hn rfl) rfl (by omega) (by decide) ?_
          refine r_goto (tgt := 117) C (dk oX2_apply 29 rfl) (by decide) ?_
          refine hret (dk oX2_apply 51 rfl) ?_
          first
            | exact h84
            | exact h94
            | exact h104
            | exact h114
            | (refine ⟨⟨fun k hk => by rw [up2_ne (by omega), up2_ne (by omega), up2_ne (by omega), up2_ne (by omega)], five ?_ ?_ ?_ ?_ ?_⟩, rfl⟩
               all_goals (intro g; by_cases e : g = f <;> simp [up2_ap, app, e]))
  · refine r_tabIn (off := 39) (tgt := 40) C (dk oX2_apply 1 rfl) (by decide) (by decide) (by decide) (by decide) ?_
    refine r_aload_n C 0 (dk oX2_apply 2 rfl) rfl ?_
    refine r_getR C (dk oX2_apply 3 rfl) fl_X2_9 rfl (kn hn rfl) ?_
    refine r_iload_n C 1 (dk oX2_apply 4 rfl) rfl ?_
    refine r_iconst C (dk oX2_apply 5 rfl) (v := nI 1) (by decide) ?_
    refine r_iast C _ (dk oX2_apply 6 rfl) rfl (kn hn rfl) rfl (by omega) (by decide) ?_
    refine r_aload_n C 0 (dk oX2_apply 7 rfl) rfl ?_
    refine r_getR C (dk oX2_apply 8 rfl) fl_X2_15 rfl (kn hn rfl) ?_
    refine r_iload_n C 1 (dk oX2_apply 9 rfl) rfl ?_
    refine r_iload_n C 2 (dk oX2_apply 10 rfl) rfl ?_
    refine r_iconst C (dk oX2_apply 11 rfl) (v := nI 1) (by decide) ?_
    refine r_icmp_ne (tgt := 61) C (dk oX2_apply 12 rfl) (by decide) (fun hb54 => ?_) (fun hb54 => ?_)
    · first
        | exact absurd rfl hb54
        | refine r_iconst C (dk oX2_apply 15 rfl) (v := nI 0) (by decide) ?_
          refine r_iast C _ (dk oX2_apply 16 rfl) rfl (kn hn rfl) rfl (by omega) (by decide) ?_
          refine r_aload_n C 0 (dk oX2_apply 17 rfl) rfl ?_
          refine r_getR C (dk oX2_apply 18 rfl) fl_X2_18 rfl (kn hn rfl) ?_
          refine r_iload_n C 1 (dk oX2_apply 19 rfl) rfl ?_
          refine r_iload_n C 3 (dk oX2_apply 20 rfl) rfl ?_
          refine r_iconst C (dk oX2_apply 21 rfl) (v := nI 2) (by decide) ?_
          refine r_irem C (dk oX2_apply 22 rfl) (by decide) ?_
          rw [mod2 (by omega)]
          refine r_iast C _ (dk oX2_apply 23 rfl) rfl (kn hn rfl) rfl (by omega) (by decide) ?_
          refine r_aload_n C 0 (dk oX2_apply 24 rfl) rfl ?_
          refine r_getR C (dk oX2_apply 25 rfl) fl_X2_21 rfl (kn hn rfl) ?_
          refine r_iload_n C 1 (dk oX2_apply 26 rfl) rfl ?_
          refine r_iload_n C 3 (dk oX2_apply 27 rfl) rfl ?_
          refine r_iast C _ (dk oX2_apply 28 rfl) rfl (kn hn rfl) rfl (by omega) (by decide) ?_
          refine r_goto (tgt := 117) C (dk oX2_apply 29 rfl) (by decide) ?_
          refine hret (dk oX2_apply 51 rfl) ?_
          first
            | exact h84
            | exact h94
            | exact h104
            | exact h114
            | (refine ⟨⟨fun k hk => by rw [up2_ne (by omega), up2_ne (by omega), up2_ne (by omega), up2_ne (by omega)], five ?_ ?_ ?_ ?_ ?_⟩, rfl⟩
               all_goals (intro g; by_cases e : g = f <;> simp [up2_ap, app, e]))
    · first
        | exact absurd hb54 (by decide)
        | refine r_iconst C (dk oX2_apply 13 rfl) (v := nI 1) (by decide) ?_
          refine r_goto (tgt := 62) C (dk oX2_apply 14 rfl) (by decide) ?_
          refine r_iast C _ (dk oX2_apply 16 rfl) rfl (kn hn rfl) rfl (by omega) (by decide) ?_
          refine r_aload_n C 0 (dk oX2_apply 17 rfl) rfl ?_
          refine r_getR C (dk oX2_apply 18 rfl) fl_X2_18 rfl (kn hn rfl) ?_
          refine r_iload_n C 1 (dk oX2_apply 19 rfl) rfl ?_
          refine r_iload_n C 3 (dk oX2_apply 20 rfl) rfl ?_
          refine r_iconst C (dk oX2_apply 21 rfl) (v := nI 2) (by decide) ?_
          refine r_irem C (dk oX2_apply 22 rfl) (by decide) ?_
          rw [mod2 (by omega)]
          refine r_iast C _ (dk oX2_apply 23 rfl) rfl (kn hn rfl) rfl (by omega) (by decide) ?_
          refine r_aload_n C 0 (dk oX2_apply 24 rfl) rfl ?_
          refine r_getR C (dk oX2_apply 25 rfl) fl_X2_21 rfl (kn hn rfl) ?_
          refine r_iload_n C 1 (dk oX2_apply 26 rfl) rfl ?_
          refine r_iload_n C 3 (dk oX2_apply 27 rfl) rfl ?_
          refine r_iast C _ (dk oX2_apply 28 rfl) rfl (kn hn rfl) rfl (by omega) (by decide) ?_
          refine r_goto (tgt := 117) C (dk oX2_apply 29 rfl) (by decide) ?_
          refine hret (dk oX2_apply 51 rfl) ?_
          first
            | exact h84
            | exact h94
            | exact h104
            | exact h114
            | (refine ⟨⟨fun k hk => by rw [up2_ne (by omega), up2_ne (by omega), up2_ne (by omega), up2_ne (by omega)], five ?_ ?_ ?_ ?_ ?_⟩, rfl⟩
               all_goals (intro g; by_cases e : g = f <;> simp [up2_ap, app, e]))
  · refine r_tabIn (off := 89) (tgt := 90) C (dk oX2_apply 1 rfl) (by decide) (by decide) (by decide) (by decide) ?_
    refine r_aload_n C 0 (dk oX2_apply 34 rfl) rfl ?_
    refine r_iload_n C 1 (dk oX2_apply 35 rfl) rfl ?_
    refine r_iconst C (dk oX2_apply 36 rfl) (v := nI 2) (by decide) ?_
    refine r_iload_n C 3 (dk oX2_apply 37 rfl) rfl ?_
    refine r_ivv C Z (dk oX2_apply 38 rfl) cl_X2_73 ci_X2_answer rfl (kn hn rfl) (c38_X2_answer hn I J f 2 p_ hf) rfl rfl (Nat.le_of_ble_eq_true rfl) ⟨Nat.le_of_ble_eq_true rfl, Nat.le_of_ble_eq_true rfl⟩ ⟨Nat.zero_le _, Nat.zero_le _⟩ (fun I94 J94 h94 => ?_)
    refine r_goto (tgt := 117) C (dk oX2_apply 39 rfl) (by decide) ?_
    refine hret (dk oX2_apply 51 rfl) ?_
    first
      | exact h84
      | exact h94
      | exact h104
      | exact h114
      | (refine ⟨⟨fun k hk => by rw [up2_ne (by omega), up2_ne (by omega), up2_ne (by omega), up2_ne (by omega)], five ?_ ?_ ?_ ?_ ?_⟩, rfl⟩
         all_goals (intro g; by_cases e : g = f <;> simp [up2_ap, app, e]))
  · refine r_tabIn (off := 99) (tgt := 100) C (dk oX2_apply 1 rfl) (by decide) (by decide) (by decide) (by decide) ?_
    refine r_aload_n C 0 (dk oX2_apply 40 rfl) rfl ?_
    refine r_iload_n C 1 (dk oX2_apply 41 rfl) rfl ?_
    refine r_iconst C (dk oX2_apply 42 rfl) (v := nI 3) (by decide) ?_
    refine r_iload_n C 3 (dk oX2_apply 43 rfl) rfl ?_
    refine r_ivv C Z (dk oX2_apply 44 rfl) cl_X2_73 ci_X2_answer rfl (kn hn rfl) (c38_X2_answer hn I J f 3 p_ hf) rfl rfl (Nat.le_of_ble_eq_true rfl) ⟨Nat.le_of_ble_eq_true rfl, Nat.le_of_ble_eq_true rfl⟩ ⟨Nat.zero_le _, Nat.zero_le _⟩ (fun I104 J104 h104 => ?_)
    refine r_goto (tgt := 117) C (dk oX2_apply 45 rfl) (by decide) ?_
    refine hret (dk oX2_apply 51 rfl) ?_
    first
      | exact h84
      | exact h94
      | exact h104
      | exact h114
      | (refine ⟨⟨fun k hk => by rw [up2_ne (by omega), up2_ne (by omega), up2_ne (by omega), up2_ne (by omega)], five ?_ ?_ ?_ ?_ ?_⟩, rfl⟩
         all_goals (intro g; by_cases e : g = f <;> simp [up2_ap, app, e]))
  · refine r_tabIn (off := 109) (tgt := 110) C (dk oX2_apply 1 rfl) (by decide) (by decide) (by decide) (by decide) ?_
    refine r_aload_n C 0 (dk oX2_apply 46 rfl) rfl ?_
    refine r_iload_n C 1 (dk oX2_apply 47 rfl) rfl ?_
    refine r_iconst C (dk oX2_apply 48 rfl) (v := nI 4) (by decide) ?_
    refine r_iload_n C 3 (dk oX2_apply 49 rfl) rfl ?_
    refine r_ivv C Z (dk oX2_apply 50 rfl) cl_X2_73 ci_X2_answer rfl (kn hn rfl) (c38_X2_answer hn I J f 4 p_ hf) rfl rfl (Nat.le_of_ble_eq_true rfl) ⟨Nat.le_of_ble_eq_true rfl, Nat.le_of_ble_eq_true rfl⟩ ⟨Nat.zero_le _, Nat.zero_le _⟩ (fun I114 J114 h114 => ?_)
    refine hret (dk oX2_apply 51 rfl) ?_
    first
      | exact h84
      | exact h94
      | exact h104
      | exact h114
      | (refine ⟨⟨fun k hk => by rw [up2_ne (by omega), up2_ne (by omega), up2_ne (by omega), up2_ne (by omega)], five ?_ ?_ ?_ ?_ ?_⟩, rfl⟩
         all_goals (intro g; by_cases e : g = f <;> simp [up2_ap, app, e]))
  · refine r_tabIn (off := 81) (tgt := 82) C (dk oX2_apply 1 rfl) (by decide) (by decide) (by decide) (by decide) ?_
    refine r_aload_n C 0 (dk oX2_apply 30 rfl) rfl ?_
    refine r_iload_n C 1 (dk oX2_apply 31 rfl) rfl ?_
    refine r_ivv C Z (dk oX2_apply 32 rfl) cl_X2_30 ci_X2_free rfl (kn hn rfl) (c38_X2_free hn I J f hf) rfl rfl (Nat.le_of_ble_eq_true rfl) ⟨Nat.le_of_ble_eq_true rfl, Nat.le_of_ble_eq_true rfl⟩ ⟨Nat.zero_le _, Nat.zero_le _⟩ (fun I84 J84 h84 => ?_)
    refine r_goto (tgt := 117) C (dk oX2_apply 33 rfl) (by decide) ?_
    refine hret (dk oX2_apply 51 rfl) ?_
    first
      | exact h84
      | exact h94
      | exact h104
      | exact h114
      | (refine ⟨⟨fun k hk => by rw [up2_ne (by omega), up2_ne (by omega), up2_ne (by omega), up2_ne (by omega)], five ?_ ?_ ?_ ?_ ?_⟩, rfl⟩
         all_goals (intro g; by_cases e : g = f <;> simp [up2_ap, app, e]))

set_option maxHeartbeats 1000000 in
set_option maxRecDepth 100000 in
theorem c38_X2_hear (hn : 117 ≤ n) (I : MI) (J : MJ) (p_ : Nat) (hp : p_ < 10) (a_ : Nat → Nat) (ha : ∀ f, f < 12 → I (23 + p_) f = nI (a_ f) ∧ a_ f ≤ 6) : Cv l n ad cA D z 2 yX2_hear cX2_hear 4 I J [.ref (ad 38), .ref (ad (23 + p_)), .int (nI p_)] (fun I' J' => fcO I I' 38 ∧ (∀ g, g < 12 → ∀ i, i < 5 → I' (38 + 1 + i) g = hrF false (a_ g) p_ (fun i => I (38 + 1 + i) g) i) ∧ J' = J) := by
  refine Cv.of (by decide) (Nat.le_of_ble_eq_true rfl) ?_
  intro p e s m args below meth c A C hin Z Q hret
  refine r_iconst C (dk oX2_hear 0 rfl) (v := nI 0) (by decide) ?_
  refine r_istore_n (lo' := [(3, _), (0, _), (1, _), (2, _)]) C (dk oX2_hear 1 rfl) rfl (by decide) rfl ?_
  have L2 : ∀ (d_ : Nat) (f : Nat) (I1 : MI), 12 - f < d_ → f ≤ 12 → (∀ g, g < 12 → ∀ i, i < 5 → I1 (38 + 1 + i) g = if g < f then hrF false (a_ g) p_ (fun i => I (38 + 1 + i) g) i else I (38 + 1 + i) g) → fcO I I1 38 → V p l e (rmL 2) s m args below meth c Q D A 4 0 0 n ad (mE cA ad I1 J) 2 [(0, .ref (ad 38)), (1, .ref (ad (23 + p_))), (2, .int (nI p_)), (3, .int (nI f))] [] := by
    intro d_
    induction d_ with
    | zero => intros; exact absurd (by assumption) (Nat.not_lt_zero _)
    | succ d_ ih => 
      intro f I1 hd_ hf hM hO
      refine r_iload_n C 3 (dk oX2_hear 2 rfl) rfl ?_
      refine r_bipush C (dk oX2_hear 3 rfl) (v := nI 12) (by decide) ?_
      refine r_icmp_ge (tgt := 49) C (dk oX2_hear 4 rfl) (by decide) (fun hb5 => ?_) (fun hb5 => ?_)
      · simp (disch := omega) only [nI_leI, nI_ltI, nI_eq, nI_eq0] at hb5
        refine hret (dk oX2_hear 32 rfl) ?_
        first | exact ⟨hO, fun g hg i hi => by rw [hM g hg i hi, if_pos (by omega)], rfl⟩ | (exfalso; omega)
      · simp (disch := omega) only [nI_leI, nI_ltI, nI_eq, nI_eq0] at hb5
        refine r_iload_n C 3 (dk oX2_hear 5 rfl) rfl ?_
        refine r_aload_n C 1 (dk oX2_hear 6 rfl) rfl ?_
        refine r_alen C (dk oX2_hear 7 rfl) (shA_act p_ hp).2 (by decide) (by omega) ?_
        refine r_icmp_ge (tgt := 49) C (dk oX2_hear 8 rfl) (by decide) (fun hb11 => ?_) (fun hb11 => ?_)
        · simp (disch := omega) only [nI_leI, nI_ltI, nI_eq, nI_eq0] at hb11
          refine hret (dk oX2_hear 32 rfl) ?_
          first | exact ⟨hO, fun g hg i hi => by rw [hM g hg i hi, if_pos (by omega)], rfl⟩ | (exfalso; omega)
        · simp (disch := omega) only [nI_leI, nI_ltI, nI_eq, nI_eq0] at hb11
          refine r_aload_n C 1 (dk oX2_hear 9 rfl) rfl ?_
          refine r_iload_n C 3 (dk oX2_hear 10 rfl) rfl ?_
          refine r_iald C _ (dk oX2_hear 11 rfl) (shA_act p_ hp).1 (by omega) rfl (by omega) (by decide) ?_
          have hrow : I1 (23 + p_) = I (23 + p_) := hO _ (Or.inl (by omega))
          have haf := ha f (by omega)
          have ha6 := haf.2
          rw [hrow, haf.1]
          refine r_if_eq (tgt := 43) C (dk oX2_hear 12 rfl) (by decide) (fun hb17 => ?_) (fun hb17 => ?_)
          · simp (disch := omega) only [nI_leI, nI_ltI, nI_eq, nI_eq0] at hb17
            refine r_iinc (lo' := [(3, _), (0, _), (1, _), (2, _)]) C 3 (dk oX2_hear 30 rfl) rfl (by first | exact nI_inc _ | rfl) (by decide) rfl ?_
            refine r_goto (tgt := 2) C (dk oX2_hear 31 rfl) (by decide) ?_
            refine V.sub [1, 2, 3, 0] rfl ?_
            have hsame : (fun i => I1 (38 + 1 + i) f) = fun i => I1 (38 + 1 + i) f := rfl
            have hcur : ∀ i, i < 5 → I1 (38 + 1 + i) f = I (38 + 1 + i) f := fun i hi => by rw [hM f (by omega) i hi, if_neg (by omega)]
            have c0 := hcur 0 (by decide)
            have c2 := hcur 2 (by decide)
            first
              | (refine ih (f + 1) _ (by omega) (by omega) (fun g hg i hi => ?_) hO
                 rw [hM g hg i hi]
                 by_cases e : g = f
                 · subst e
                   rw [if_neg (by omega), if_pos (by omega), show hrF false (a_ g) p_ (fun i => I (38 + 1 + i) g) = _ from if_neg (fun q => q.2.1 hb17)]
                 · by_cases e2 : g < f
                   · rw [if_pos e2, if_pos (by omega)]
                   · rw [if_neg e2, if_neg (by omega)])
              | (refine ih (f + 1) _ (by omega) (by omega) (fun g hg i hi => ?_) hO
                 rw [hM g hg i hi]
                 by_cases e : g = f
                 · subst e
                   have hal : alw (a_ g) p_ (fun i => I (38 + 1 + i) g) = false := (alw_cong c0.symm c2.symm).trans hb31
                   rw [if_neg (by omega), if_pos (by omega), show hrF false (a_ g) p_ (fun i => I (38 + 1 + i) g) = _ from if_neg (fun q => by rw [hal] at q; exact absurd q.2.2 (by decide))]
                 · by_cases e2 : g < f
                   · rw [if_pos e2, if_pos (by omega)]
                   · rw [if_neg e2, if_neg (by omega)])
              | (refine ih (f + 1) _ (by omega) (by omega) (fun g hg i hi => ?_) (hO.trans h40.1)
                 rw [h40.2 i hi g]
                 by_cases e : g = f
                 · subst e
                   have hal : alw (a_ g) p_ (fun i => I (38 + 1 + i) g) = true := (alw_cong c0.symm c2.symm).trans hb31
                   rw [if_pos rfl, if_pos (by omega), show hrF false (a_ g) p_ (fun i => I (38 + 1 + i) g) = _ from if_pos ⟨rfl, hb17, hal⟩]
                   exact app_cong (fun j hj => hcur j hj) i hi
                 · rw [if_neg e, hM g hg i hi]
                   by_cases e2 : g < f
                   · rw [if_pos e2, if_pos (by omega)]
                   · rw [if_neg e2, if_neg (by omega)])
          · simp (disch := omega) only [nI_leI, nI_ltI, nI_eq, nI_eq0] at hb17
            refine r_aload_n C 0 (dk oX2_hear 13 rfl) rfl ?_
            refine r_iload_n C 3 (dk oX2_hear 14 rfl) rfl ?_
            refine r_aload_n C 1 (dk oX2_hear 15 rfl) rfl ?_
            refine r_iload_n C 3 (dk oX2_hear 16 rfl) rfl ?_
            refine r_iald C _ (dk oX2_hear 17 rfl) (shA_act p_ hp).1 (by omega) rfl (by omega) (by decide) ?_
            rw [hrow, haf.1]
            refine r_iload_n C 2 (dk oX2_hear 18 rfl) rfl ?_
            refine r_iconst C (dk oX2_hear 19 rfl) (v := nI 2) (by decide) ?_
            refine r_irem C (dk oX2_hear 20 rfl) (by decide) ?_
            rw [mod2 (by omega)]
            refine r_ivi C Z (dk oX2_hear 21 rfl) cl_X2_62 ci_X2_allow rfl (kn hn rfl) (c38_X2_allow hn I1 J f (a_ f) p_ (by omega) (by omega)) rfl rfl (Nat.le_of_ble_eq_true rfl) ⟨Nat.le_of_ble_eq_true rfl, Nat.le_of_ble_eq_true rfl⟩ ⟨Nat.zero_le _, Nat.zero_le _⟩ (fun r28 I28 J28 h28 => ?_)
            obtain ⟨h28, e1_, e2_⟩ := h28
            have e1_ := e1_.symm
            have e2_ := e2_.symm
            subst e1_
            subst e2_
            subst h28
            refine r_if_eq (tgt := 43) C (dk oX2_hear 22 rfl) (by decide) (fun hb31 => ?_) (fun hb31 => ?_)
            · rw [b32_0] at hb31
              refine r_iinc (lo' := [(3, _), (0, _), (1, _), (2, _)]) C 3 (dk oX2_hear 30 rfl) rfl (by first | exact nI_inc _ | rfl) (by decide) rfl ?_
              refine r_goto (tgt := 2) C (dk oX2_hear 31 rfl) (by decide) ?_
              refine V.sub [1, 2, 3, 0] rfl ?_
              have hsame : (fun i => I1 (38 + 1 + i) f) = fun i => I1 (38 + 1 + i) f := rfl
              have hcur : ∀ i, i < 5 → I1 (38 + 1 + i) f = I (38 + 1 + i) f := fun i hi => by rw [hM f (by omega) i hi, if_neg (by omega)]
              have c0 := hcur 0 (by decide)
              have c2 := hcur 2 (by decide)
              first
                | (refine ih (f + 1) _ (by omega) (by omega) (fun g hg i hi => ?_) hO
                   rw [hM g hg i hi]
                   by_cases e : g = f
                   · subst e
                     rw [if_neg (by omega), if_pos (by omega), show hrF false (a_ g) p_ (fun i => I (38 + 1 + i) g) = _ from if_neg (fun q => q.2.1 hb17)]
                   · by_cases e2 : g < f
                     · rw [if_pos e2, if_pos (by omega)]
                     · rw [if_neg e2, if_neg (by omega)])
                | (refine ih (f + 1) _ (by omega) (by omega) (fun g hg i hi => ?_) hO
                   rw [hM g hg i hi]
                   by_cases e : g = f
                   · subst e
                     have hal : alw (a_ g) p_ (fun i => I (38 + 1 + i) g) = false := (alw_cong c0.symm c2.symm).trans hb31
                     rw [if_neg (by omega), if_pos (by omega), show hrF false (a_ g) p_ (fun i => I (38 + 1 + i) g) = _ from if_neg (fun q => by rw [hal] at q; exact absurd q.2.2 (by decide))]
                   · by_cases e2 : g < f
                     · rw [if_pos e2, if_pos (by omega)]
                     · rw [if_neg e2, if_neg (by omega)])
                | (refine ih (f + 1) _ (by omega) (by omega) (fun g hg i hi => ?_) (hO.trans h40.1)
                   rw [h40.2 i hi g]
                   by_cases e : g = f
                   · subst e
                     have hal : alw (a_ g) p_ (fun i => I (38 + 1 + i) g) = true := (alw_cong c0.symm c2.symm).trans hb31
                     rw [if_pos rfl, if_pos (by omega), show hrF false (a_ g) p_ (fun i => I (38 + 1 + i) g) = _ from if_pos ⟨rfl, hb17, hal⟩]
                     exact app_cong (fun j hj => hcur j hj) i hi
                   · rw [if_neg e, hM g hg i hi]
                     by_cases e2 : g < f
                     · rw [if_pos e2, if_pos (by omega)]
                     · rw [if_neg e2, if_neg (by omega)])
            · rw [b32_n] at hb31
              refine r_aload_n C 0 (dk oX2_hear 23 rfl) rfl ?_
              refine r_iload_n C 3 (dk oX2_hear 24 rfl) rfl ?_
              refine r_aload_n C 1 (dk oX2_hear 25 rfl) rfl ?_
              refine r_iload_n C 3 (dk oX2_hear 26 rfl) rfl ?_
              refine r_iald C _ (dk oX2_hear 27 rfl) (shA_act p_ hp).1 (by omega) rfl (by omega) (by decide) ?_
              rw [hrow, haf.1]
              refine r_iload_n C 2 (dk oX2_hear 28 rfl) rfl ?_
              refine r_ivv C Z (dk oX2_hear 29 rfl) cl_X2_66 ci_X2_apply rfl (kn hn rfl) (c38_X2_apply hn I1 J f (a_ f) p_ (by omega) hp (by omega)) rfl rfl (Nat.le_of_ble_eq_true rfl) ⟨Nat.le_of_ble_eq_true rfl, Nat.le_of_ble_eq_true rfl⟩ ⟨Nat.zero_le _, Nat.zero_le _⟩ (fun I40 J40 h40 => ?_)
              obtain ⟨h40, e2_⟩ := h40
              have e2_ := e2_.symm
              subst e2_
              refine r_iinc (lo' := [(3, _), (0, _), (1, _), (2, _)]) C 3 (dk oX2_hear 30 rfl) rfl (by first | exact nI_inc _ | rfl) (by decide) rfl ?_
              refine r_goto (tgt := 2) C (dk oX2_hear 31 rfl) (by decide) ?_
              refine V.sub [1, 2, 3, 0] rfl ?_
              have hsame : (fun i => I1 (38 + 1 + i) f) = fun i => I1 (38 + 1 + i) f := rfl
              have hcur : ∀ i, i < 5 → I1 (38 + 1 + i) f = I (38 + 1 + i) f := fun i hi => by rw [hM f (by omega) i hi, if_neg (by omega)]
              have c0 := hcur 0 (by decide)
              have c2 := hcur 2 (by decide)
              first
                | (refine ih (f + 1) _ (by omega) (by omega) (fun g hg i hi => ?_) hO
                   rw [hM g hg i hi]
                   by_cases e : g = f
                   · subst e
                     rw [if_neg (by omega), if_pos (by omega), show hrF false (a_ g) p_ (fun i => I (38 + 1 + i) g) = _ from if_neg (fun q => q.2.1 hb17)]
                   · by_cases e2 : g < f
                     · rw [if_pos e2, if_pos (by omega)]
                     · rw [if_neg e2, if_neg (by omega)])
                | (refine ih (f + 1) _ (by omega) (by omega) (fun g hg i hi => ?_) hO
                   rw [hM g hg i hi]
                   by_cases e : g = f
                   · subst e
                     have hal : alw (a_ g) p_ (fun i => I (38 + 1 + i) g) = false := (alw_cong c0.symm c2.symm).trans hb31
                     rw [if_neg (by omega), if_pos (by omega), show hrF false (a_ g) p_ (fun i => I (38 + 1 + i) g) = _ from if_neg (fun q => by rw [hal] at q; exact absurd q.2.2 (by decide))]
                   · by_cases e2 : g < f
                     · rw [if_pos e2, if_pos (by omega)]
                     · rw [if_neg e2, if_neg (by omega)])
                | (refine ih (f + 1) _ (by omega) (by omega) (fun g hg i hi => ?_) (hO.trans h40.1)
                   rw [h40.2 i hi g]
                   by_cases e : g = f
                   · subst e
                     have hal : alw (a_ g) p_ (fun i => I (38 + 1 + i) g) = true := (alw_cong c0.symm c2.symm).trans hb31
                     rw [if_pos rfl, if_pos (by omega), show hrF false (a_ g) p_ (fun i => I (38 + 1 + i) g) = _ from if_pos ⟨rfl, hb17, hal⟩]
                     exact app_cong (fun j hj => hcur j hj) i hi
                   · rw [if_neg e, hM g hg i hi]
                     by_cases e2 : g < f
                     · rw [if_pos e2, if_pos (by omega)]
                     · rw [if_neg e2, if_neg (by omega)])
  refine V.sub [1, 2, 3, 0] rfl ?_
  exact L2 13 0 I (by omega) (by omega) (fun g hg i hi => by rw [if_neg (by omega)]) (fcO.rf _ _)

set_option maxHeartbeats 1000000 in
set_option maxRecDepth 100000 in
theorem c38_X2_admitSilently (hn : 117 ≤ n) (I : MI) (J : MJ) (p_ : Nat) (hp : p_ < 10) : Ci l n ad cA D z 1 yX2_admitSilently cX2_admitSilently 4 .int I J [.ref (ad 38), .int (nI p_)] (fun r I' J' => r = nI (bS (fun f => adB p_ (fun i => I (38 + 1 + i) f)) 12) ∧ fcO I I' 38 ∧ (∀ g, g < 12 → ∀ i, i < 5 → I' (38 + 1 + i) g = admF p_ (fun i => I (38 + 1 + i) g) i) ∧ J' = J) := by
  refine Ci.of (by decide) (Nat.le_of_ble_eq_true rfl) ?_
  intro p e s m args below meth c A C hin Z Q hret
  refine r_iconst C (dk oX2_admitSilently 0 rfl) (v := nI 0) (by decide) ?_
  refine r_istore_n (lo' := [(2, _), (0, _), (1, _)]) C (dk oX2_admitSilently 1 rfl) rfl (by decide) rfl ?_
  refine r_iconst C (dk oX2_admitSilently 2 rfl) (v := nI 0) (by decide) ?_
  refine r_istore_n (lo' := [(3, _), (2, _), (0, _), (1, _)]) C (dk oX2_admitSilently 3 rfl) rfl (by decide) rfl ?_
  have L4 : ∀ (d_ : Nat) (f : Nat) (I1 : MI), 12 - f < d_ → f ≤ 12 → (∀ g, g < 12 → ∀ i, i < 5 → I1 (38 + 1 + i) g = if g < f then admF p_ (fun i => I (38 + 1 + i) g) i else I (38 + 1 + i) g) → fcO I I1 38 → V p l e (rmL 1) s m args below meth c Q D A 4 0 0 n ad (mE cA ad I1 J) 4 [(0, .ref (ad 38)), (1, .int (nI p_)), (2, .int (nI (bS (fun f => adB p_ (fun i => I (38 + 1 + i) f)) f))), (3, .int (nI f))] [] := by
    intro d_
    induction d_ with
    | zero => intros; exact absurd (by assumption) (Nat.not_lt_zero _)
    | succ d_ ih => 
      intro f I1 hd_ hf hM hO
      refine r_iload_n C 3 (dk oX2_admitSilently 4 rfl) rfl ?_
      refine r_bipush C (dk oX2_admitSilently 5 rfl) (v := nI 12) (by decide) ?_
      refine r_icmp_ge (tgt := 40) C (dk oX2_admitSilently 6 rfl) (by decide) (fun hb7 => ?_) (fun hb7 => ?_)
      · simp (disch := omega) only [nI_leI, nI_ltI, nI_eq, nI_eq0] at hb7
        refine r_iload_n C 2 (dk oX2_admitSilently 27 rfl) rfl ?_
        refine hret (dk oX2_admitSilently 28 rfl) rfl ?_
        exact ⟨by rw [show f = 12 by omega], hO, fun g hg i hi => by rw [hM g hg i hi, if_pos (by omega)], rfl⟩
      · simp (disch := omega) only [nI_leI, nI_ltI, nI_eq, nI_eq0] at hb7
        refine r_aload_n C 0 (dk oX2_admitSilently 7 rfl) rfl ?_
        refine r_iload_n C 3 (dk oX2_admitSilently 8 rfl) rfl ?_
        refine r_iload_n C 1 (dk oX2_admitSilently 9 rfl) rfl ?_
        refine r_iconst C (dk oX2_admitSilently 10 rfl) (v := nI 2) (by decide) ?_
        refine r_irem C (dk oX2_admitSilently 11 rfl) (by decide) ?_
        rw [mod2 (by omega)]
        refine r_ivi C Z (dk oX2_admitSilently 12 rfl) cl_X2_70 ci_X2_awaitsAnswerOf rfl (kn hn rfl) (c38_X2_awaitsAnswerOf hn I1 J f (p_ % 2) (by omega) (by omega)) rfl rfl (Nat.le_of_ble_eq_true rfl) ⟨Nat.le_of_ble_eq_true rfl, Nat.le_of_ble_eq_true rfl⟩ ⟨Nat.zero_le _, Nat.zero_le _⟩ (fun r15 I15 J15 h15 => ?_)
        obtain ⟨h15, e1_, e2_⟩ := h15
        have e1_ := e1_.symm
        have e2_ := e2_.symm
        subst e1_
        subst e2_
        subst h15
        refine r_if_eq (tgt := 34) C (dk oX2_admitSilently 13 rfl) (by decide) (fun hb18 => ?_) (fun hb18 => ?_)
        · rw [b32_0] at hb18
          refine r_iinc (lo' := [(3, _), (0, _), (1, _), (2, _)]) C 3 (dk oX2_admitSilently 25 rfl) rfl (by first | exact nI_inc _ | rfl) (by decide) rfl ?_
          refine r_goto (tgt := 4) C (dk oX2_admitSilently 26 rfl) (by decide) ?_
          refine V.sub [1, 2, 3, 0] rfl ?_
          have hcur : ∀ i, i < 5 → I1 (38 + 1 + i) f = I (38 + 1 + i) f := fun i hi => by rw [hM f (by omega) i hi, if_neg (by omega)]
          have c0 := hcur 0 (by decide)
          have c2 := hcur 2 (by decide)
          have had : adB p_ (fun i => I (38 + 1 + i) f) = decide (I1 39 f = nI 1 ∧ I1 41 f = nI (1 - p_ % 2)) := adB_cong (ψ := fun i => I1 (38 + 1 + i) f) c0.symm c2.symm
          rw [← had] at hb18
          have eB : bS (fun f => adB p_ (fun i => I (38 + 1 + i) f)) (f + 1) = if adB p_ (fun i => I (38 + 1 + i) f) = true then bS (fun f => adB p_ (fun i => I (38 + 1 + i) f)) f ||| 2 ^ f else bS (fun f => adB p_ (fun i => I (38 + 1 + i) f)) f := rfl
          first
            | (have hR := ih (f + 1) I1 (by omega) (by omega) (fun g hg i hi => by
                 rw [hM g hg i hi]
                 by_cases e : g = f
                 · subst e
                   rw [if_neg (by omega), if_pos (by omega), show admF p_ (fun i => I (38 + 1 + i) g) = _ from if_neg (by rw [hb18]; decide)]
                 · by_cases e2 : g < f
                   · rw [if_pos e2, if_pos (by omega)]
                   · rw [if_neg e2, if_neg (by omega)]) hO
               rw [eB, if_neg (by rw [hb18]; decide)] at hR
               exact hR)
            | (have hR := ih (f + 1) I25 (by omega) (by omega) (fun g hg i hi => by
                 rw [h25.2 i hi g]
                 by_cases e : g = f
                 · subst e
                   rw [if_pos rfl, if_pos (by omega), show admF p_ (fun i => I (38 + 1 + i) g) = _ from if_pos hb18]
                   exact ans_cong (fun j hj => hcur j hj) i hi
                 · rw [if_neg e, hM g hg i hi]
                   by_cases e2 : g < f
                   · rw [if_pos e2, if_pos (by omega)]
                   · rw [if_neg e2, if_neg (by omega)]) (hO.trans h25.1)
               rw [eB, if_pos hb18] at hR
               exact hR)
        · rw [b32_n] at hb18
          refine r_aload_n C 0 (dk oX2_admitSilently 14 rfl) rfl ?_
          refine r_iload_n C 3 (dk oX2_admitSilently 15 rfl) rfl ?_
          refine r_iconst C (dk oX2_admitSilently 16 rfl) (v := nI 2) (by decide) ?_
          refine r_iload_n C 1 (dk oX2_admitSilently 17 rfl) rfl ?_
          refine r_ivv C Z (dk oX2_admitSilently 18 rfl) cl_X2_73 ci_X2_answer rfl (kn hn rfl) (c38_X2_answer hn I1 J f 2 p_ (by omega)) rfl rfl (Nat.le_of_ble_eq_true rfl) ⟨Nat.le_of_ble_eq_true rfl, Nat.le_of_ble_eq_true rfl⟩ ⟨Nat.zero_le _, Nat.zero_le _⟩ (fun I25 J25 h25 => ?_)
          obtain ⟨h25, e2_⟩ := h25
          have e2_ := e2_.symm
          subst e2_
          refine r_iload_n C 2 (dk oX2_admitSilently 19 rfl) rfl ?_
          refine r_iconst C (dk oX2_admitSilently 20 rfl) (v := nI 1) (by decide) ?_
          refine r_iload_n C 3 (dk oX2_admitSilently 21 rfl) rfl ?_
          refine r_ishl C (dk oX2_admitSilently 22 rfl) ?_
          refine r_ior C (dk oX2_admitSilently 23 rfl) ?_
          rw [or_bit (by omega)]
          refine r_istore_n (lo' := [(2, _), (0, _), (1, _), (3, _)]) C (dk oX2_admitSilently 24 rfl) rfl (by decide) rfl ?_
          refine r_iinc (lo' := [(3, _), (2, _), (0, _), (1, _)]) C 3 (dk oX2_admitSilently 25 rfl) rfl (by first | exact nI_inc _ | rfl) (by decide) rfl ?_
          refine r_goto (tgt := 4) C (dk oX2_admitSilently 26 rfl) (by decide) ?_
          refine V.sub [2, 3, 1, 0] rfl ?_
          have hcur : ∀ i, i < 5 → I1 (38 + 1 + i) f = I (38 + 1 + i) f := fun i hi => by rw [hM f (by omega) i hi, if_neg (by omega)]
          have c0 := hcur 0 (by decide)
          have c2 := hcur 2 (by decide)
          have had : adB p_ (fun i => I (38 + 1 + i) f) = decide (I1 39 f = nI 1 ∧ I1 41 f = nI (1 - p_ % 2)) := adB_cong (ψ := fun i => I1 (38 + 1 + i) f) c0.symm c2.symm
          rw [← had] at hb18
          have eB : bS (fun f => adB p_ (fun i => I (38 + 1 + i) f)) (f + 1) = if adB p_ (fun i => I (38 + 1 + i) f) = true then bS (fun f => adB p_ (fun i => I (38 + 1 + i) f)) f ||| 2 ^ f else bS (fun f => adB p_ (fun i => I (38 + 1 + i) f)) f := rfl
          first
            | (have hR := ih (f + 1) I1 (by omega) (by omega) (fun g hg i hi => by
                 rw [hM g hg i hi]
                 by_cases e : g = f
                 · subst e
                   rw [if_neg (by omega), if_pos (by omega), show admF p_ (fun i => I (38 + 1 + i) g) = _ from if_neg (by rw [hb18]; decide)]
                 · by_cases e2 : g < f
                   · rw [if_pos e2, if_pos (by omega)]
                   · rw [if_neg e2, if_neg (by omega)]) hO
               rw [eB, if_neg (by rw [hb18]; decide)] at hR
               exact hR)
            | (have hR := ih (f + 1) I25 (by omega) (by omega) (fun g hg i hi => by
                 rw [h25.2 i hi g]
                 by_cases e : g = f
                 · subst e
                   rw [if_pos rfl, if_pos (by omega), show admF p_ (fun i => I (38 + 1 + i) g) = _ from if_pos hb18]
                   exact ans_cong (fun j hj => hcur j hj) i hi
                 · rw [if_neg e, hM g hg i hi]
                   by_cases e2 : g < f
                   · rw [if_pos e2, if_pos (by omega)]
                   · rw [if_neg e2, if_neg (by omega)]) (hO.trans h25.1)
               rw [eB, if_pos hb18] at hR
               exact hR)
  refine V.sub [2, 3, 1, 0] rfl ?_
  exact L4 13 0 I (by omega) (by omega) (fun g hg i hi => by rw [if_neg (by omega)]) (fcO.rf _ _)

set_option maxHeartbeats 1000000 in
set_option maxRecDepth 100000 in
theorem c38_X2_sumUp (hn : 117 ≤ n) (I : MI) (J : MJ) (Φ : Nat → FS) (hM : FcM I 38 Φ) : Cv l n ad cA D z 0 yX2_sumUp cX2_sumUp 2 I J [.ref (ad 38)] (fun I' J' => Fc I' 38 Φ ∧ (∀ k, k ≠ 38 → I' k = I k) ∧ J' = J) := by
  refine Cv.of (by decide) (Nat.le_of_ble_eq_true rfl) ?_
  intro p e s m args below meth c A C hin Z Q hret
  refine r_aload_n C 0 (dk oX2_sumUp 0 rfl) rfl ?_
  refine r_iconst C (dk oX2_sumUp 1 rfl) (v := nI 0) (by decide) ?_
  refine r_putI C (dk oX2_sumUp 2 rfl) fl_X2_76 ft_2_6 rfl (kn hn rfl) ?_
  refine r_aload_n C 0 (dk oX2_sumUp 3 rfl) rfl ?_
  refine r_iconst C (dk oX2_sumUp 4 rfl) (v := nI 0) (by decide) ?_
  refine r_putI C (dk oX2_sumUp 5 rfl) fl_X2_79 ft_2_7 rfl (kn hn rfl) ?_
  refine r_aload_n C 0 (dk oX2_sumUp 6 rfl) rfl ?_
  refine r_iconst C (dk oX2_sumUp 7 rfl) (v := nI 0) (by decide) ?_
  refine r_putI C (dk oX2_sumUp 8 rfl) fl_X2_82 ft_2_8 rfl (kn hn rfl) ?_
  generalize hI0 : up2 (up2 (up2 I 38 6 (nI 0)) 38 7 (nI 0)) 38 8 (nI 0) = I0
  refine r_iconst C (dk oX2_sumUp 9 rfl) (v := nI 0) (by decide) ?_
  refine r_istore_n (lo' := [(1, _), (0, _)]) C (dk oX2_sumUp 10 rfl) rfl (by decide) rfl ?_
  have L17 : ∀ (d_ : Nat) (f : Nat) (I1 : MI), 12 - f < d_ → f ≤ 12 → I1 38 6 = nI (bS (fun f => opB (Φ f)) f) → I1 38 7 = nI (bS (fun f => onB (Φ f)) f) → I1 38 8 = nI (bS (fun f => asB (Φ f)) f) → (∀ k, k ≠ 38 → I1 k = I k) → V p l e (rmL 0) s m args below meth c Q D A 2 0 0 n ad (mE cA ad I1 J) 17 [(0, .ref (ad 38)), (1, .int (nI f))] [] := by
    intro d_
    induction d_ with
    | zero => intros; exact absurd (by assumption) (Nat.not_lt_zero _)
    | succ d_ ih => 
      intro f I1 hd_ hf h6 h7 h8 hO
      refine r_iload_n C 1 (dk oX2_sumUp 11 rfl) rfl ?_
      refine r_bipush C (dk oX2_sumUp 12 rfl) (v := nI 12) (by decide) ?_
      refine r_icmp_ge (tgt := 114) C (dk oX2_sumUp 13 rfl) (by decide) (fun hb20 => ?_) (fun hb20 => ?_)
      · simp (disch := omega) only [nI_leI, nI_ltI, nI_eq, nI_eq0] at hb20
        refine hret (dk oX2_sumUp 67 rfl) ?_
        have hf12 : f = 12 := by omega
        subst hf12
        exact ⟨⟨fun f hf i hi => (congrFun (hO (38 + 1 + i) (by omega)) f).trans (hM f hf i hi), h6, h7, h8⟩, hO, rfl⟩
      · simp (disch := omega) only [nI_leI, nI_ltI, nI_eq, nI_eq0] at hb20
        have hw0 : I1 39 f = Φ f 0 := (congrFun (hO 39 (by decide)) f).trans (hM f (by omega) 0 (by decide))
        have hw1 : I1 40 f = Φ f 1 := (congrFun (hO 40 (by decide)) f).trans (hM f (by omega) 1 (by decide))
        refine r_aload_n C 0 (dk oX2_sumUp 14 rfl) rfl ?_
        refine r_getR C (dk oX2_sumUp 15 rfl) fl_X2_9 rfl (kn hn rfl) ?_
        refine r_iload_n C 1 (dk oX2_sumUp 16 rfl) rfl ?_
        refine r_iald C _ (dk oX2_sumUp 17 rfl) rfl (kn hn rfl) rfl (by omega) (by decide) ?_
        rw [hw0]
        refine r_iconst C (dk oX2_sumUp 18 rfl) (v := nI 2) (by decide) ?_
        refine r_icmp_ne (tgt := 62) C (dk oX2_sumUp 19 rfl) (by decide) (fun hb30 => ?_) (fun hb30 => ?_)
        · refine r_aload_n C 0 (dk oX2_sumUp 37 rfl) rfl ?_
          refine r_getR C (dk oX2_sumUp 38 rfl) fl_X2_9 rfl (kn hn rfl) ?_
          refine r_iload_n C 1 (dk oX2_sumUp 39 rfl) rfl ?_
          refine r_iald C _ (dk oX2_sumUp 40 rfl) rfl (kn hn rfl) rfl (by omega) (by decide) ?_
          rw [hw0]
          refine r_if_eq (tgt := 108) C (dk oX2_sumUp 41 rfl) (by decide) (fun hb68 => ?_) (fun hb68 => ?_)
          · refine r_iinc (lo' := [(1, _), (0, _)]) C 1 (dk oX2_sumUp 65 rfl) rfl (by first | exact nI_inc _ | rfl) (by decide) rfl ?_
            refine r_goto (tgt := 17) C (dk oX2_sumUp 66 rfl) (by decide) ?_
            refine V.sub [1, 0] rfl ?_
            have q6 : bS (fun f => opB (Φ f)) (f + 1) = if opB (Φ f) = true then bS (fun f => opB (Φ f)) f ||| 2 ^ f else bS (fun f => opB (Φ f)) f := rfl
            have q7 : bS (fun f => onB (Φ f)) (f + 1) = if onB (Φ f) = true then bS (fun f => onB (Φ f)) f ||| 2 ^ f else bS (fun f => onB (Φ f)) f := rfl
            have q8 : bS (fun f => asB (Φ f)) (f + 1) = if asB (Φ f) = true then bS (fun f => asB (Φ f)) f ||| 2 ^ f else bS (fun f => asB (Φ f)) f := rfl
            have n20 : ¬ (nI 2 = nI 0) := by decide
            first
              | (have z6 : opB (Φ f) = false := decide_eq_false (fun q => q.2 hb30)
                 have z7 : onB (Φ f) = false := decide_eq_false (fun q => q.2.1 hb30)
                 have z8 : asB (Φ f) = true := decide_eq_true ⟨hb30, hb45⟩
                 exact ih (f + 1) _ (by omega) (by omega) (by rw [up2_off (by decide), h6, q6, z6]; rfl) (by rw [up2_off (by decide), h7, q7, z7]; rfl) (by rw [up2_at, q8, z8]; rfl) (fun k hk => by rw [up2_ne hk]; exact hO k hk))
              | (have z6 : opB (Φ f) = false := decide_eq_false (fun q => q.2 hb30)
                 have z7 : onB (Φ f) = false := decide_eq_false (fun q => q.2.1 hb30)
                 have z8 : asB (Φ f) = false := decide_eq_false (fun q => hb45 q.2)
                 exact ih (f + 1) _ (by omega) (by omega) (by rw [up2_off (by decide), h6, q6, z6]; rfl) (by rw [up2_off (by decide), h7, q7, z7]; rfl) (by rw [up2_at, q8, z8, Nat.or_zero]; rfl) (fun k hk => by rw [up2_ne hk]; exact hO k hk))
              | (have z6 : opB (Φ f) = false := decide_eq_false (fun q => q.1 hb68)
                 have z7 : onB (Φ f) = false := decide_eq_false (fun q => q.1 hb68)
                 have z8 : asB (Φ f) = false := decide_eq_false (fun q => hb30 q.1)
                 exact ih (f + 1) _ (by omega) (by omega) (by rw [h6, q6, z6]; rfl) (by rw [h7, q7, z7]; rfl) (by rw [h8, q8, z8]; rfl) hO)
              | (have z6 : opB (Φ f) = true := decide_eq_true ⟨hb68, hb30⟩
                 have z7 : onB (Φ f) = true := decide_eq_true ⟨hb68, hb30, hb94⟩
                 have z8 : asB (Φ f) = false := decide_eq_false (fun q => hb30 q.1)
                 exact ih (f + 1) _ (by omega) (by omega) (by rw [up2_off (by decide), up2_at, q6, z6]; rfl) (by rw [up2_at, q7, z7]; rfl) (by rw [up2_off (by decide), up2_off (by decide), h8, q8, z8]; rfl) (fun k hk => by rw [up2_ne hk, up2_ne hk]; exact hO k hk))
              | (have z6 : opB (Φ f) = true := decide_eq_true ⟨hb68, hb30⟩
                 have z7 : onB (Φ f) = false := decide_eq_false (fun q => hb94 q.2.2)
                 have z8 : asB (Φ f) = false := decide_eq_false (fun q => hb30 q.1)
                 exact ih (f + 1) _ (by omega) (by omega) (by rw [up2_off (by decide), up2_at, q6, z6]; rfl) (by rw [up2_at, q7, z7, Nat.or_zero]; rfl) (by rw [up2_off (by decide), up2_off (by decide), h8, q8, z8]; rfl) (fun k hk => by rw [up2_ne hk, up2_ne hk]; exact hO k hk))
          · refine r_aload_n C 0 (dk oX2_sumUp 42 rfl) rfl ?_
            refine r_dup C (dk oX2_sumUp 43 rfl) rfl ?_
            refine r_getI C (dk oX2_sumUp 44 rfl) fl_X2_76 rfl (kn hn rfl) ?_
            rw [h6]
            refine r_iconst C (dk oX2_sumUp 45 rfl) (v := nI 1) (by decide) ?_
            refine r_iload_n C 1 (dk oX2_sumUp 46 rfl) rfl ?_
            refine r_ishl C (dk oX2_sumUp 47 rfl) ?_
            refine r_ior C (dk oX2_sumUp 48 rfl) ?_
            rw [or_bit (by omega)]
            refine r_putI C (dk oX2_sumUp 49 rfl) fl_X2_76 ft_2_6 rfl (kn hn rfl) ?_
            refine r_aload_n C 0 (dk oX2_sumUp 50 rfl) rfl ?_
            refine r_dup C (dk oX2_sumUp 51 rfl) rfl ?_
            refine r_getI C (dk oX2_sumUp 52 rfl) fl_X2_79 rfl (kn hn rfl) ?_
            rw [up2_off (by decide), h7]
            refine r_aload_n C 0 (dk oX2_sumUp 53 rfl) rfl ?_
            refine r_getR C (dk oX2_sumUp 54 rfl) fl_X2_15 rfl (kn hn rfl) ?_
            refine r_iload_n C 1 (dk oX2_sumUp 55 rfl) rfl ?_
            refine r_iald C _ (dk oX2_sumUp 56 rfl) rfl (kn hn rfl) rfl (by omega) (by decide) ?_
            rw [up2_ne (by decide), hw1]
            refine r_if_ne (tgt := 103) C (dk oX2_sumUp 57 rfl) (by decide) (fun hb94 => ?_) (fun hb94 => ?_)
            · refine r_iconst C (dk oX2_sumUp 62 rfl) (v := nI 0) (by decide) ?_
              refine r_ior C (dk oX2_sumUp 63 rfl) ?_
              rw [fa_or]
              refine r_putI C (dk oX2_sumUp 64 rfl) fl_X2_79 ft_2_7 rfl (kn hn rfl) ?_
              refine r_iinc (lo' := [(1, _), (0, _)]) C 1 (dk oX2_sumUp 65 rfl) rfl (by first | exact nI_inc _ | rfl) (by decide) rfl ?_
              refine r_goto (tgt := 17) C (dk oX2_sumUp 66 rfl) (by decide) ?_
              refine V.sub [1, 0] rfl ?_
              have q6 : bS (fun f => opB (Φ f)) (f + 1) = if opB (Φ f) = true then bS (fun f => opB (Φ f)) f ||| 2 ^ f else bS (fun f => opB (Φ f)) f := rfl
              have q7 : bS (fun f => onB (Φ f)) (f + 1) = if onB (Φ f) = true then bS (fun f => onB (Φ f)) f ||| 2 ^ f else bS (fun f => onB (Φ f)) f := rfl
              have q8 : bS (fun f => asB (Φ f)) (f + 1) = if asB (Φ f) = true then bS (fun f => asB (Φ f)) f ||| 2 ^ f else bS (fun f => asB (Φ f)) f := rfl
              have n20 : ¬ (nI 2 = nI 0) := by decide
              first
                | (have z6 : opB (Φ f) = false := decide_eq_false (fun q => q.2 hb30)
                   have z7 : onB (Φ f) = false := decide_eq_false (fun q => q.2.1 hb30)
                   have z8 : asB (Φ f) = true := decide_eq_true ⟨hb30, hb45⟩
                   exact ih (f + 1) _ (by omega) (by omega) (by rw [up2_off (by decide), h6, q6, z6]; rfl) (by rw [up2_off (by decide), h7, q7, z7]; rfl) (by rw [up2_at, q8, z8]; rfl) (fun k hk => by rw [up2_ne hk]; exact hO k hk))
                | (have z6 : opB (Φ f) = false := decide_eq_false (fun q => q.2 hb30)
                   have z7 : onB (Φ f) = false := decide_eq_false (fun q => q.2.1 hb30)
                   have z8 : asB (Φ f) = false := decide_eq_false (fun q => hb45 q.2)
                   exact ih (f + 1) _ (by omega) (by omega) (by rw [up2_off (by decide), h6, q6, z6]; rfl) (by rw [up2_off (by decide), h7, q7, z7]; rfl) (by rw [up2_at, q8, z8, Nat.or_zero]; rfl) (fun k hk => by rw [up2_ne hk]; exact hO k hk))
                | (have z6 : opB (Φ f) = false := decide_eq_false (fun q => q.1 hb68)
                   have z7 : onB (Φ f) = false := decide_eq_false (fun q => q.1 hb68)
                   have z8 : asB (Φ f) = false := decide_eq_false (fun q => hb30 q.1)
                   exact ih (f + 1) _ (by omega) (by omega) (by rw [h6, q6, z6]; rfl) (by rw [h7, q7, z7]; rfl) (by rw [h8, q8, z8]; rfl) hO)
                | (have z6 : opB (Φ f) = true := decide_eq_true ⟨hb68, hb30⟩
                   have z7 : onB (Φ f) = true := decide_eq_true ⟨hb68, hb30, hb94⟩
                   have z8 : asB (Φ f) = false := decide_eq_false (fun q => hb30 q.1)
                   exact ih (f + 1) _ (by omega) (by omega) (by rw [up2_off (by decide), up2_at, q6, z6]; rfl) (by rw [up2_at, q7, z7]; rfl) (by rw [up2_off (by decide), up2_off (by decide), h8, q8, z8]; rfl) (fun k hk => by rw [up2_ne hk, up2_ne hk]; exact hO k hk))
                | (have z6 : opB (Φ f) = true := decide_eq_true ⟨hb68, hb30⟩
                   have z7 : onB (Φ f) = false := decide_eq_false (fun q => hb94 q.2.2)
                   have z8 : asB (Φ f) = false := decide_eq_false (fun q => hb30 q.1)
                   exact ih (f + 1) _ (by omega) (by omega) (by rw [up2_off (by decide), up2_at, q6, z6]; rfl) (by rw [up2_at, q7, z7, Nat.or_zero]; rfl) (by rw [up2_off (by decide), up2_off (by decide), h8, q8, z8]; rfl) (fun k hk => by rw [up2_ne hk, up2_ne hk]; exact hO k hk))
            · refine r_iconst C (dk oX2_sumUp 58 rfl) (v := nI 1) (by decide) ?_
              refine r_iload_n C 1 (dk oX2_sumUp 59 rfl) rfl ?_
              refine r_ishl C (dk oX2_sumUp 60 rfl) ?_
              rw [shl1 (by omega)]
              refine r_goto (tgt := 104) C (dk oX2_sumUp 61 rfl) (by decide) ?_
              refine r_ior C (dk oX2_sumUp 63 rfl) ?_
              rw [fa_or]
              refine r_putI C (dk oX2_sumUp 64 rfl) fl_X2_79 ft_2_7 rfl (kn hn rfl) ?_
              refine r_iinc (lo' := [(1, _), (0, _)]) C 1 (dk oX2_sumUp 65 rfl) rfl (by first | exact nI_inc _ | rfl) (by decide) rfl ?_
              refine r_goto (tgt := 17) C (dk oX2_sumUp 66 rfl) (by decide) ?_
              refine V.sub [1, 0] rfl ?_
              have q6 : bS (fun f => opB (Φ f)) (f + 1) = if opB (Φ f) = true then bS (fun f => opB (Φ f)) f ||| 2 ^ f else bS (fun f => opB (Φ f)) f := rfl
              have q7 : bS (fun f => onB (Φ f)) (f + 1) = if onB (Φ f) = true then bS (fun f => onB (Φ f)) f ||| 2 ^ f else bS (fun f => onB (Φ f)) f := rfl
              have q8 : bS (fun f => asB (Φ f)) (f + 1) = if asB (Φ f) = true then bS (fun f => asB (Φ f)) f ||| 2 ^ f else bS (fun f => asB (Φ f)) f := rfl
              have n20 : ¬ (nI 2 = nI 0) := by decide
              first
                | (have z6 : opB (Φ f) = false := decide_eq_false (fun q => q.2 hb30)
                   have z7 : onB (Φ f) = false := decide_eq_false (fun q => q.2.1 hb30)
                   have z8 : asB (Φ f) = true := decide_eq_true ⟨hb30, hb45⟩
                   exact ih (f + 1) _ (by omega) (by omega) (by rw [up2_off (by decide), h6, q6, z6]; rfl) (by rw [up2_off (by decide), h7, q7, z7]; rfl) (by rw [up2_at, q8, z8]; rfl) (fun k hk => by rw [up2_ne hk]; exact hO k hk))
                | (have z6 : opB (Φ f) = false := decide_eq_false (fun q => q.2 hb30)
                   have z7 : onB (Φ f) = false := decide_eq_false (fun q => q.2.1 hb30)
                   have z8 : asB (Φ f) = false := decide_eq_false (fun q => hb45 q.2)
                   exact ih (f + 1) _ (by omega) (by omega) (by rw [up2_off (by decide), h6, q6, z6]; rfl) (by rw [up2_off (by decide), h7, q7, z7]; rfl) (by rw [up2_at, q8, z8, Nat.or_zero]; rfl) (fun k hk => by rw [up2_ne hk]; exact hO k hk))
                | (have z6 : opB (Φ f) = false := decide_eq_false (fun q => q.1 hb68)
                   have z7 : onB (Φ f) = false := decide_eq_false (fun q => q.1 hb68)
                   have z8 : asB (Φ f) = false := decide_eq_false (fun q => hb30 q.1)
                   exact ih (f + 1) _ (by omega) (by omega) (by rw [h6, q6, z6]; rfl) (by rw [h7, q7, z7]; rfl) (by rw [h8, q8, z8]; rfl) hO)
                | (have z6 : opB (Φ f) = true := decide_eq_true ⟨hb68, hb30⟩
                   have z7 : onB (Φ f) = true := decide_eq_true ⟨hb68, hb30, hb94⟩
                   have z8 : asB (Φ f) = false := decide_eq_false (fun q => hb30 q.1)
                   exact ih (f + 1) _ (by omega) (by omega) (by rw [up2_off (by decide), up2_at, q6, z6]; rfl) (by rw [up2_at, q7, z7]; rfl) (by rw [up2_off (by decide), up2_off (by decide), h8, q8, z8]; rfl) (fun k hk => by rw [up2_ne hk, up2_ne hk]; exact hO k hk))
                | (have z6 : opB (Φ f) = true := decide_eq_true ⟨hb68, hb30⟩
                   have z7 : onB (Φ f) = false := decide_eq_false (fun q => hb94 q.2.2)
                   have z8 : asB (Φ f) = false := decide_eq_false (fun q => hb30 q.1)
                   exact ih (f + 1) _ (by omega) (by omega) (by rw [up2_off (by decide), up2_at, q6, z6]; rfl) (by rw [up2_at, q7, z7, Nat.or_zero]; rfl) (by rw [up2_off (by decide), up2_off (by decide), h8, q8, z8]; rfl) (fun k hk => by rw [up2_ne hk, up2_ne hk]; exact hO k hk))
        · refine r_aload_n C 0 (dk oX2_sumUp 20 rfl) rfl ?_
          refine r_dup C (dk oX2_sumUp 21 rfl) rfl ?_
          refine r_getI C (dk oX2_sumUp 22 rfl) fl_X2_82 rfl (kn hn rfl) ?_
          rw [h8]
          refine r_aload_n C 0 (dk oX2_sumUp 23 rfl) rfl ?_
          refine r_getR C (dk oX2_sumUp 24 rfl) fl_X2_15 rfl (kn hn rfl) ?_
          refine r_iload_n C 1 (dk oX2_sumUp 25 rfl) rfl ?_
          refine r_iald C _ (dk oX2_sumUp 26 rfl) rfl (kn hn rfl) rfl (by omega) (by decide) ?_
          rw [hw1]
          refine r_iconst C (dk oX2_sumUp 27 rfl) (v := nI 1) (by decide) ?_
          refine r_icmp_ne (tgt := 54) C (dk oX2_sumUp 28 rfl) (by decide) (fun hb45 => ?_) (fun hb45 => ?_)
          · refine r_iconst C (dk oX2_sumUp 33 rfl) (v := nI 0) (by decide) ?_
            refine r_ior C (dk oX2_sumUp 34 rfl) ?_
            rw [fa_or]
            refine r_putI C (dk oX2_sumUp 35 rfl) fl_X2_82 ft_2_8 rfl (kn hn rfl) ?_
            refine r_goto (tgt := 108) C (dk oX2_sumUp 36 rfl) (by decide) ?_
            refine r_iinc (lo' := [(1, _), (0, _)]) C 1 (dk oX2_sumUp 65 rfl) rfl (by first | exact nI_inc _ | rfl) (by decide) rfl ?_
            refine r_goto (tgt := 17) C (dk oX2_sumUp 66 rfl) (by decide) ?_
            refine V.sub [1, 0] rfl ?_
            have q6 : bS (fun f => opB (Φ f)) (f + 1) = if opB (Φ f) = true then bS (fun f => opB (Φ f)) f ||| 2 ^ f else bS (fun f => opB (Φ f)) f := rfl
            have q7 : bS (fun f => onB (Φ f)) (f + 1) = if onB (Φ f) = true then bS (fun f => onB (Φ f)) f ||| 2 ^ f else bS (fun f => onB (Φ f)) f := rfl
            have q8 : bS (fun f => asB (Φ f)) (f + 1) = if asB (Φ f) = true then bS (fun f => asB (Φ f)) f ||| 2 ^ f else bS (fun f => asB (Φ f)) f := rfl
            have n20 : ¬ (nI 2 = nI 0) := by decide
            first
              | (have z6 : opB (Φ f) = false := decide_eq_false (fun q => q.2 hb30)
                 have z7 : onB (Φ f) = false := decide_eq_false (fun q => q.2.1 hb30)
                 have z8 : asB (Φ f) = true := decide_eq_true ⟨hb30, hb45⟩
                 exact ih (f + 1) _ (by omega) (by omega) (by rw [up2_off (by decide), h6, q6, z6]; rfl) (by rw [up2_off (by decide), h7, q7, z7]; rfl) (by rw [up2_at, q8, z8]; rfl) (fun k hk => by rw [up2_ne hk]; exact hO k hk))
              | (have z6 : opB (Φ f) = false := decide_eq_false (fun q => q.2 hb30)
                 have z7 : onB (Φ f) = false := decide_eq_false (fun q => q.2.1 hb30)
                 have z8 : asB (Φ f) = false := decide_eq_false (fun q => hb45 q.2)
                 exact ih (f + 1) _ (by omega) (by omega) (by rw [up2_off (by decide), h6, q6, z6]; rfl) (by rw [up2_off (by decide), h7, q7, z7]; rfl) (by rw [up2_at, q8, z8, Nat.or_zero]; rfl) (fun k hk => by rw [up2_ne hk]; exact hO k hk))
              | (have z6 : opB (Φ f) = false := decide_eq_false (fun q => q.1 hb68)
                 have z7 : onB (Φ f) = false := decide_eq_false (fun q => q.1 hb68)
                 have z8 : asB (Φ f) = false := decide_eq_false (fun q => hb30 q.1)
                 exact ih (f + 1) _ (by omega) (by omega) (by rw [h6, q6, z6]; rfl) (by rw [h7, q7, z7]; rfl) (by rw [h8, q8, z8]; rfl) hO)
              | (have z6 : opB (Φ f) = true := decide_eq_true ⟨hb68, hb30⟩
                 have z7 : onB (Φ f) = true := decide_eq_true ⟨hb68, hb30, hb94⟩
                 have z8 : asB (Φ f) = false := decide_eq_false (fun q => hb30 q.1)
                 exact ih (f + 1) _ (by omega) (by omega) (by rw [up2_off (by decide), up2_at, q6, z6]; rfl) (by rw [up2_at, q7, z7]; rfl) (by rw [up2_off (by decide), up2_off (by decide), h8, q8, z8]; rfl) (fun k hk => by rw [up2_ne hk, up2_ne hk]; exact hO k hk))
              | (have z6 : opB (Φ f) = true := decide_eq_true ⟨hb68, hb30⟩
                 have z7 : onB (Φ f) = false := decide_eq_false (fun q => hb94 q.2.2)
                 have z8 : asB (Φ f) = false := decide_eq_false (fun q => hb30 q.1)
                 exact ih (f + 1) _ (by omega) (by omega) (by rw [up2_off (by decide), up2_at, q6, z6]; rfl) (by rw [up2_at, q7, z7, Nat.or_zero]; rfl) (by rw [up2_off (by decide), up2_off (by decide), h8, q8, z8]; rfl) (fun k hk => by rw [up2_ne hk, up2_ne hk]; exact hO k hk))
          · refine r_iconst C (dk oX2_sumUp 29 rfl) (v := nI 1) (by decide) ?_
            refine r_iload_n C 1 (dk oX2_sumUp 30 rfl) rfl ?_
            refine r_ishl C (dk oX2_sumUp 31 rfl) ?_
            rw [shl1 (by omega)]
            refine r_goto (tgt := 55) C (dk oX2_sumUp 32 rfl) (by decide) ?_
            refine r_ior C (dk oX2_sumUp 34 rfl) ?_
            rw [fa_or]
            refine r_putI C (dk oX2_sumUp 35 rfl) fl_X2_82 ft_2_8 rfl (kn hn rfl) ?_
            refine r_goto (tgt := 108) C (dk oX2_sumUp 36 rfl) (by decide) ?_
            refine r_iinc (lo' := [(1, _), (0, _)]) C 1 (dk oX2_sumUp 65 rfl) rfl (by first | exact nI_inc _ | rfl) (by decide) rfl ?_
            refine r_goto (tgt := 17) C (dk oX2_sumUp 66 rfl) (by decide) ?_
            refine V.sub [1, 0] rfl ?_
            have q6 : bS (fun f => opB (Φ f)) (f + 1) = if opB (Φ f) = true then bS (fun f => opB (Φ f)) f ||| 2 ^ f else bS (fun f => opB (Φ f)) f := rfl
            have q7 : bS (fun f => onB (Φ f)) (f + 1) = if onB (Φ f) = true then bS (fun f => onB (Φ f)) f ||| 2 ^ f else bS (fun f => onB (Φ f)) f := rfl
            have q8 : bS (fun f => asB (Φ f)) (f + 1) = if asB (Φ f) = true then bS (fun f => asB (Φ f)) f ||| 2 ^ f else bS (fun f => asB (Φ f)) f := rfl
            have n20 : ¬ (nI 2 = nI 0) := by decide
            first
              | (have z6 : opB (Φ f) = false := decide_eq_false (fun q => q.2 hb30)
                 have z7 : onB (Φ f) = false := decide_eq_false (fun q => q.2.1 hb30)
                 have z8 : asB (Φ f) = true := decide_eq_true ⟨hb30, hb45⟩
                 exact ih (f + 1) _ (by omega) (by omega) (by rw [up2_off (by decide), h6, q6, z6]; rfl) (by rw [up2_off (by decide), h7, q7, z7]; rfl) (by rw [up2_at, q8, z8]; rfl) (fun k hk => by rw [up2_ne hk]; exact hO k hk))
              | (have z6 : opB (Φ f) = false := decide_eq_false (fun q => q.2 hb30)
                 have z7 : onB (Φ f) = false := decide_eq_false (fun q => q.2.1 hb30)
                 have z8 : asB (Φ f) = false := decide_eq_false (fun q => hb45 q.2)
                 exact ih (f + 1) _ (by omega) (by omega) (by rw [up2_off (by decide), h6, q6, z6]; rfl) (by rw [up2_off (by decide), h7, q7, z7]; rfl) (by rw [up2_at, q8, z8, Nat.or_zero]; rfl) (fun k hk => by rw [up2_ne hk]; exact hO k hk))
              | (have z6 : opB (Φ f) = false := decide_eq_false (fun q => q.1 hb68)
                 have z7 : onB (Φ f) = false := decide_eq_false (fun q => q.1 hb68)
                 have z8 : asB (Φ f) = false := decide_eq_false (fun q => hb30 q.1)
                 exact ih (f + 1) _ (by omega) (by omega) (by rw [h6, q6, z6]; rfl) (by rw [h7, q7, z7]; rfl) (by rw [h8, q8, z8]; rfl) hO)
              | (have z6 : opB (Φ f) = true := decide_eq_true ⟨hb68, hb30⟩
                 have z7 : onB (Φ f) = true := decide_eq_true ⟨hb68, hb30, hb94⟩
                 have z8 : asB (Φ f) = false := decide_eq_false (fun q => hb30 q.1)
                 exact ih (f + 1) _ (by omega) (by omega) (by rw [up2_off (by decide), up2_at, q6, z6]; rfl) (by rw [up2_at, q7, z7]; rfl) (by rw [up2_off (by decide), up2_off (by decide), h8, q8, z8]; rfl) (fun k hk => by rw [up2_ne hk, up2_ne hk]; exact hO k hk))
              | (have z6 : opB (Φ f) = true := decide_eq_true ⟨hb68, hb30⟩
                 have z7 : onB (Φ f) = false := decide_eq_false (fun q => hb94 q.2.2)
                 have z8 : asB (Φ f) = false := decide_eq_false (fun q => hb30 q.1)
                 exact ih (f + 1) _ (by omega) (by omega) (by rw [up2_off (by decide), up2_at, q6, z6]; rfl) (by rw [up2_at, q7, z7, Nat.or_zero]; rfl) (by rw [up2_off (by decide), up2_off (by decide), h8, q8, z8]; rfl) (fun k hk => by rw [up2_ne hk, up2_ne hk]; exact hO k hk))
  refine V.sub [1, 0] rfl ?_
  exact L17 13 0 I0 (by omega) (by omega) (by rw [← hI0, up2_off (by decide), up2_off (by decide), up2_at]; rfl) (by rw [← hI0, up2_off (by decide), up2_at]; rfl) (by rw [← hI0, up2_at]; rfl) (fun k hk => by rw [← hI0, up2_ne hk, up2_ne hk, up2_ne hk])

set_option maxHeartbeats 1000000 in
set_option maxRecDepth 100000 in
theorem c38_X2_replay (hn : 117 ≤ n) (I : MI) (J : MJ) (np : Nat) (dy : Nat → Nat) (lt : Nat → Bool) (ac : Nat → Nat → Nat) (hP : CPap I 8 np dy lt ac) (x : Int32) : Cv l n ad cA D z 3 yX2_replay cX2_replay 4 I J [.ref (ad 38), .ref (ad 19), .int x] (fun I' J' => Fc I' 38 (fun f => stF ac (ltX lt x) f np) ∧ (∀ p, p < np → I' 44 p = nI (silF ac (ltX lt x) p)) ∧ faO I I' 38 ∧ J' = J) := by
  refine Cv.of (by decide) (Nat.le_of_ble_eq_true rfl) ?_
  intro p e s m args below meth c A C hin Z Q hret
  obtain ⟨p1, p2, p3⟩ := hP
  refine r_iconst C (dk oX2_replay 0 rfl) (v := nI 0) (by decide) ?_
  refine r_istore_n (lo' := [(3, _), (0, _), (1, _), (2, _)]) C (dk oX2_replay 1 rfl) rfl (by decide) rfl ?_
  have L2 : ∀ (d_ : Nat) (f : Nat) (I1 : MI), 12 - f < d_ → f ≤ 12 → (∀ g, g < f → ∀ i, i < 5 → I1 (38 + 1 + i) g = frS i) → faO I I1 38 → V p l e (rmL 3) s m args below meth c Q D A 4 0 0 n ad (mE cA ad I1 J) 2 [(0, .ref (ad 38)), (1, .ref (ad 19)), (2, .int x), (3, .int (nI f))] [] := by
    intro d_
    induction d_ with
    | zero => intros; exact absurd (by assumption) (Nat.not_lt_zero _)
    | succ d_ ih => 
      intro f I1 hd_ hf hM0 hO0
      refine r_iload_n C 3 (dk oX2_replay 2 rfl) rfl ?_
      refine r_bipush C (dk oX2_replay 3 rfl) (v := nI 12) (by decide) ?_
      refine r_icmp_ge (tgt := 19) C (dk oX2_replay 4 rfl) (by decide) (fun hb5 => ?_) (fun hb5 => ?_)
      · simp (disch := omega) only [nI_leI, nI_ltI, nI_eq, nI_eq0] at hb5
        have hf12 : f = 12 := by omega
        subst hf12
        refine r_iconst C (dk oX2_replay 10 rfl) (v := nI 0) (by decide) ?_
        refine r_istore_n (lo' := [(3, _), (0, _), (1, _), (2, _)]) C (dk oX2_replay 11 rfl) rfl (by decide) rfl ?_
        have L21 : ∀ (d_ : Nat) (p_ : Nat) (I2 : MI), np - p_ < d_ → p_ ≤ np → FcM I2 38 (fun f => stF ac (ltX lt x) f p_) → (∀ q, q < p_ → I2 44 q = nI (silF ac (ltX lt x) q)) → faO I I2 38 → V p l e (rmL 3) s m args below meth c Q D A 4 0 0 n ad (mE cA ad I2 J) 21 [(0, .ref (ad 38)), (1, .ref (ad 19)), (2, .int x), (3, .int (nI p_))] [] := by
          intro d_
          induction d_ with
          | zero => intros; exact absurd (by assumption) (Nat.not_lt_zero _)
          | succ d_ ih => 
            intro p_ I2 hd2 hp hM hS hO
            refine r_iload_n C 3 (dk oX2_replay 12 rfl) rfl ?_
            refine r_aload_n C 1 (dk oX2_replay 13 rfl) rfl ?_
            refine r_getI C (dk oX2_replay 14 rfl) fl_X2_34 rfl (kn hn rfl) ?_
            rw [hO 19 (Or.inl (by decide)), p2]
            refine r_icmp_ge (tgt := 79) C (dk oX2_replay 15 rfl) (by decide) (fun hb26 => ?_) (fun hb26 => ?_)
            · simp (disch := omega) only [nI_leI, nI_ltI, nI_eq, nI_eq0] at hb26
              have hpn : p_ = np := by omega
              refine r_aload_n C 0 (dk oX2_replay 43 rfl) rfl ?_
              refine r_ivv C Z (dk oX2_replay 44 rfl) cl_X2_59 ci_X2_sumUp rfl (kn hn rfl) (c38_X2_sumUp hn I2 J (fun f => stF ac (ltX lt x) f np) (by rw [hpn] at hM; exact hM)) rfl rfl (Nat.le_of_ble_eq_true rfl) ⟨Nat.le_of_ble_eq_true rfl, Nat.le_of_ble_eq_true rfl⟩ ⟨Nat.zero_le _, Nat.zero_le _⟩ (fun I80 J80 h80 => ?_)
              refine hret (dk oX2_replay 45 rfl) ?_
              obtain ⟨q1, q2, q3⟩ := h80
              exact ⟨q1, fun p hp => by rw [q2 44 (by decide)]; exact hS p (by omega), fun k hk => by rw [q2 k (by omega)]; exact hO k hk, q3⟩
            · simp (disch := omega) only [nI_leI, nI_ltI, nI_eq, nI_eq0] at hb26
              have hpp := p3 p_ (by omega)
              refine r_iload_n C 3 (dk oX2_replay 16 rfl) rfl ?_
              refine r_bipush C (dk oX2_replay 17 rfl) (v := nI 10) (by decide) ?_
              refine r_icmp_ge (tgt := 79) C (dk oX2_replay 18 rfl) (by decide) (fun hb32 => absurd hb32 (by rw [nI_leI (by omega) (by omega)]; omega)) (fun hb32 => ?_)
              refine r_aload_n C 1 (dk oX2_replay 19 rfl) rfl ?_
              refine r_getI C (dk oX2_replay 20 rfl) fl_X2_40 rfl (kn hn rfl) ?_
              obtain ⟨X_, hX1, hX2, hX3⟩ := hpp.2.2.1
              rw [hO 19 (Or.inl (by decide)), show I 19 1 = nI X_ from hX2]
              refine r_iload_n C 3 (dk oX2_replay 21 rfl) rfl ?_
              refine r_isi C Z (dk oX2_replay 22 rfl) cl_X2_43 st_X9_has (c_X9_has I2 J X_ p_ (by omega) (by omega)) rfl rfl (Nat.le_of_ble_eq_true rfl) ⟨Nat.le_of_ble_eq_true rfl, Nat.le_of_ble_eq_true rfl⟩ ⟨Nat.zero_le _, Nat.zero_le _⟩ (fun r40 I40 J40 h40 => ?_)
              obtain ⟨h40, e1_, e2_⟩ := h40
              have e1_ := e1_.symm
              have e2_ := e2_.symm
              subst e1_
              subst e2_
              subst h40
              rw [hX3]
              refine r_if_ne (tgt := 62) C (dk oX2_replay 23 rfl) (by decide) (fun hb43 => ?_) (fun hb43 => ?_)
              · have hl : ltX lt x p_ = true := by unfold ltX; rw [b32_n] at hb43; rw [hb43]; rfl
                have hX : FcM I2 38 (fun f => hrF (ltX lt x p_) (ac p_ f) p_ (stF ac (ltX lt x) f p_)) := hM.cong (fun f hf i hi => by rw [hl]; exact (congrFun (if_neg (fun q => absurd q.1 (by decide))) i).symm)
                obtain ⟨I3, hI3, hO3⟩ : ∃ X, X = I2 ∧ faO I X 38 := ⟨I2, rfl, hO⟩
                have hS3 : ∀ q, q < p_ → I3 44 q = nI (silF ac (ltX lt x) q) := by rw [hI3]; exact hS
                rw [← hI3] at hX ⊢
                refine r_aload_n C 0 (dk oX2_replay 34 rfl) rfl ?_
                refine r_getR C (dk oX2_replay 35 rfl) fl_X2_27 rfl (kn hn rfl) ?_
                refine r_iload_n C 3 (dk oX2_replay 36 rfl) rfl ?_
                refine r_aload_n C 0 (dk oX2_replay 37 rfl) rfl ?_
                refine r_iload_n C 3 (dk oX2_replay 38 rfl) rfl ?_
                refine r_ivi C Z (dk oX2_replay 39 rfl) cl_X2_55 ci_X2_admitSilently rfl (kn hn rfl) (c38_X2_admitSilently hn I3 J p_ (by omega)) rfl rfl (Nat.le_of_ble_eq_true rfl) ⟨Nat.le_of_ble_eq_true rfl, Nat.le_of_ble_eq_true rfl⟩ ⟨Nat.zero_le _, Nat.zero_le _⟩ (fun r69 I69 J69 h69 => ?_)
                obtain ⟨h69, h69a, h69b, e2_⟩ := h69
                have e2_ := e2_.symm
                subst e2_
                subst h69
                refine r_iast C _ (dk oX2_replay 40 rfl) rfl (kn hn rfl) rfl (by omega) (by decide) ?_
                refine r_iinc (lo' := [(3, _), (0, _), (1, _), (2, _)]) C 3 (dk oX2_replay 41 rfl) rfl (by first | exact nI_inc _ | rfl) (by decide) rfl ?_
                refine r_goto (tgt := 21) C (dk oX2_replay 42 rfl) (by decide) ?_
                refine V.sub [1, 2, 3, 0] rfl ?_
                refine ih (p_ + 1) _ (by omega) (by omega) (fun f hf i hi => ?_) (fun q hq => ?_) (fun k hk => ?_)
                · rw [up2_ne (by omega), h69b f hf i hi]
                  exact admF_cong (fun j hj => hX f hf j hj) i hi
                · by_cases e : q = p_
                  · subst e
                    rw [up2_at]
                    unfold silF
                    rw [bS_cong 12 (fun f hf => adB_cong (hX f hf 0 (by decide)) (hX f hf 2 (by decide)))]
                  · rw [up2_off e, h69a 44 (by omega)]
                    exact hS3 q (by omega)
                · rw [up2_ne (by omega), h69a k (by omega)]
                  exact hO3 k hk
              · rw [b32_0] at hb43
                refine r_iload_n C 3 (dk oX2_replay 24 rfl) rfl ?_
                refine r_iload_n C 2 (dk oX2_replay 25 rfl) rfl ?_
                refine r_icmp_eq (tgt := 62) C (dk oX2_replay 26 rfl) (by decide) (fun hb48 => ?_) (fun hb48 => ?_)
                · have hl : ltX lt x p_ = true := by unfold ltX; rw [decide_eq_true hb48, Bool.or_true]
                  have hX : FcM I2 38 (fun f => hrF (ltX lt x p_) (ac p_ f) p_ (stF ac (ltX lt x) f p_)) := hM.cong (fun f hf i hi => by rw [hl]; exact (congrFun (if_neg (fun q => absurd q.1 (by decide))) i).symm)
                  obtain ⟨I3, hI3, hO3⟩ : ∃ X, X = I2 ∧ faO I X 38 := ⟨I2, rfl, hO⟩
                  have hS3 : ∀ q, q < p_ → I3 44 q = nI (silF ac (ltX lt x) q) := by rw [hI3]; exact hS
                  rw [← hI3] at hX ⊢
                  refine r_aload_n C 0 (dk oX2_replay 34 rfl) rfl ?_
                  refine r_getR C (dk oX2_replay 35 rfl) fl_X2_27 rfl (kn hn rfl) ?_
                  refine r_iload_n C 3 (dk oX2_replay 36 rfl) rfl ?_
                  refine r_aload_n C 0 (dk oX2_replay 37 rfl) rfl ?_
                  refine r_iload_n C 3 (dk oX2_replay 38 rfl) rfl ?_
                  refine r_ivi C Z (dk oX2_replay 39 rfl) cl_X2_55 ci_X2_admitSilently rfl (kn hn rfl) (c38_X2_admitSilently hn I3 J p_ (by omega)) rfl rfl (Nat.le_of_ble_eq_true rfl) ⟨Nat.le_of_ble_eq_true rfl, Nat.le_of_ble_eq_true rfl⟩ ⟨Nat.zero_le _, Nat.zero_le _⟩ (fun r69 I69 J69 h69 => ?_)
                  obtain ⟨h69, h69a, h69b, e2_⟩ := h69
                  have e2_ := e2_.symm
                  subst e2_
                  subst h69
                  refine r_iast C _ (dk oX2_replay 40 rfl) rfl (kn hn rfl) rfl (by omega) (by decide) ?_
                  refine r_iinc (lo' := [(3, _), (0, _), (1, _), (2, _)]) C 3 (dk oX2_replay 41 rfl) rfl (by first | exact nI_inc _ | rfl) (by decide) rfl ?_
                  refine r_goto (tgt := 21) C (dk oX2_replay 42 rfl) (by decide) ?_
                  refine V.sub [1, 2, 3, 0] rfl ?_
                  refine ih (p_ + 1) _ (by omega) (by omega) (fun f hf i hi => ?_) (fun q hq => ?_) (fun k hk => ?_)
                  · rw [up2_ne (by omega), h69b f hf i hi]
                    exact admF_cong (fun j hj => hX f hf j hj) i hi
                  · by_cases e : q = p_
                    · subst e
                      rw [up2_at]
                      unfold silF
                      rw [bS_cong 12 (fun f hf => adB_cong (hX f hf 0 (by decide)) (hX f hf 2 (by decide)))]
                    · rw [up2_off e, h69a 44 (by omega)]
                      exact hS3 q (by omega)
                  · rw [up2_ne (by omega), h69a k (by omega)]
                    exact hO3 k hk
                · refine r_aload_n C 0 (dk oX2_replay 27 rfl) rfl ?_
                  refine r_aload_n C 1 (dk oX2_replay 28 rfl) rfl ?_
                  refine r_getR C (dk oX2_replay 29 rfl) fl_X2_47 rfl (kn hn rfl) ?_
                  refine r_iload_n C 3 (dk oX2_replay 30 rfl) rfl ?_
                  refine r_aald C _ (dk oX2_replay 31 rfl) rfl (by decide) (kn hn rfl) rfl (by omega) (by decide) ?_
                  rw [Nat.one_mul]
                  refine r_iload_n C 3 (dk oX2_replay 32 rfl) rfl ?_
                  refine r_ivv C Z (dk oX2_replay 33 rfl) cl_X2_51 ci_X2_hear rfl (kn hn rfl) (c38_X2_hear hn I2 J p_ (by omega) (ac p_) (fun f hf => by rw [hO (23 + p_) (Or.inl (by omega))]; exact hpp.2.2.2 f hf)) rfl rfl (Nat.le_of_ble_eq_true rfl) ⟨Nat.le_of_ble_eq_true rfl, Nat.le_of_ble_eq_true rfl⟩ ⟨Nat.zero_le _, Nat.zero_le _⟩ (fun I59 J59 h59 => ?_)
                  have hl : ltX lt x p_ = false := by unfold ltX; rw [hb43, decide_eq_false hb48]; rfl
                  obtain ⟨h59a, h59b, e2_⟩ := h59
                  have e2_ := e2_.symm
                  subst e2_
                  have hX : FcM I59 38 (fun f => hrF (ltX lt x p_) (ac p_ f) p_ (stF ac (ltX lt x) f p_)) := fun f hf i hi => by
                    rw [h59b f hf i hi, hl]
                    exact hrF_cong (fun j hj => hM f hf j hj) i hi
                  obtain ⟨I3, hI3, hO3⟩ : ∃ X, X = I59 ∧ faO I X 38 := ⟨I59, rfl, fun k hk => by rw [h59a k (by omega)]; exact hO k hk⟩
                  have hS3 : ∀ q, q < p_ → I3 44 q = nI (silF ac (ltX lt x) q) := by rw [hI3, h59a 44 (by omega)]; exact hS
                  rw [← hI3] at hX ⊢
                  refine r_aload_n C 0 (dk oX2_replay 34 rfl) rfl ?_
                  refine r_getR C (dk oX2_replay 35 rfl) fl_X2_27 rfl (kn hn rfl) ?_
                  refine r_iload_n C 3 (dk oX2_replay 36 rfl) rfl ?_
                  refine r_aload_n C 0 (dk oX2_replay 37 rfl) rfl ?_
                  refine r_iload_n C 3 (dk oX2_replay 38 rfl) rfl ?_
                  refine r_ivi C Z (dk oX2_replay 39 rfl) cl_X2_55 ci_X2_admitSilently rfl (kn hn rfl) (c38_X2_admitSilently hn I3 J p_ (by omega)) rfl rfl (Nat.le_of_ble_eq_true rfl) ⟨Nat.le_of_ble_eq_true rfl, Nat.le_of_ble_eq_true rfl⟩ ⟨Nat.zero_le _, Nat.zero_le _⟩ (fun r69 I69 J69 h69 => ?_)
                  obtain ⟨h69, h69a, h69b, e2_⟩ := h69
                  have e2_ := e2_.symm
                  subst e2_
                  subst h69
                  refine r_iast C _ (dk oX2_replay 40 rfl) rfl (kn hn rfl) rfl (by omega) (by decide) ?_
                  refine r_iinc (lo' := [(3, _), (0, _), (1, _), (2, _)]) C 3 (dk oX2_replay 41 rfl) rfl (by first | exact nI_inc _ | rfl) (by decide) rfl ?_
                  refine r_goto (tgt := 21) C (dk oX2_replay 42 rfl) (by decide) ?_
                  refine V.sub [1, 2, 3, 0] rfl ?_
                  refine ih (p_ + 1) _ (by omega) (by omega) (fun f hf i hi => ?_) (fun q hq => ?_) (fun k hk => ?_)
                  · rw [up2_ne (by omega), h69b f hf i hi]
                    exact admF_cong (fun j hj => hX f hf j hj) i hi
                  · by_cases e : q = p_
                    · subst e
                      rw [up2_at]
                      unfold silF
                      rw [bS_cong 12 (fun f hf => adB_cong (hX f hf 0 (by decide)) (hX f hf 2 (by decide)))]
                    · rw [up2_off e, h69a 44 (by omega)]
                      exact hS3 q (by omega)
                  · rw [up2_ne (by omega), h69a k (by omega)]
                    exact hO3 k hk
        refine V.sub [1, 2, 3, 0] rfl ?_
        exact L21 (np + 1) 0 I1 (by omega) (by omega) (fun g hg i hi => hM0 g hg i hi) (fun q hq => absurd hq (Nat.not_lt_zero _)) hO0
      · simp (disch := omega) only [nI_leI, nI_ltI, nI_eq, nI_eq0] at hb5
        refine r_aload_n C 0 (dk oX2_replay 5 rfl) rfl ?_
        refine r_iload_n C 3 (dk oX2_replay 6 rfl) rfl ?_
        refine r_ivv C Z (dk oX2_replay 7 rfl) cl_X2_30 ci_X2_free rfl (kn hn rfl) (c38_X2_free hn I1 J f (by omega)) rfl rfl (Nat.le_of_ble_eq_true rfl) ⟨Nat.le_of_ble_eq_true rfl, Nat.le_of_ble_eq_true rfl⟩ ⟨Nat.zero_le _, Nat.zero_le _⟩ (fun I10 J10 h10 => ?_)
        obtain ⟨h10, e2_⟩ := h10
        have e2_ := e2_.symm
        subst e2_
        refine r_iinc (lo' := [(3, _), (0, _), (1, _), (2, _)]) C 3 (dk oX2_replay 8 rfl) rfl (by first | exact nI_inc _ | rfl) (by decide) rfl ?_
        refine r_goto (tgt := 2) C (dk oX2_replay 9 rfl) (by decide) ?_
        refine V.sub [1, 2, 3, 0] rfl ?_
        exact ih (f + 1) _ (by omega) (by omega) (fun g hg i hi => by
          rw [h10.2 i hi g]
          by_cases e : g = f
          · rw [if_pos e]
          · rw [if_neg e]; exact hM0 g (by omega) i hi) (fun k hk => by rw [h10.1 k (by omega)]; exact hO0 k hk)
  refine V.sub [1, 2, 3, 0] rfl ?_
  exact L2 13 0 I (by omega) (by omega) (fun g hg => absurd hg (Nat.not_lt_zero _)) (fun _ _ => rfl)

set_option maxHeartbeats 1000000 in
set_option maxRecDepth 100000 in
theorem c38_X2_soBy (hn : 117 ≤ n) (I : MI) (J : MJ) (sh A_ N_ : Nat) (hA : I 38 8 = nI A_) (hN : I 38 7 = nI N_) : Ci l n ad cA D z 0 yX2_soBy cX2_soBy 2 .int I J [.ref (ad 38), .int (nI sh)] (fun r I' J' => r = nI (A_ ||| (sh ^^^ N_)) ∧ I' = I ∧ J' = J) := by
  refine Ci.of (by decide) (Nat.le_of_ble_eq_true rfl) ?_
  intro p e s m args below meth c A C hin Z Q hret
  refine r_aload_n C 0 (dk oX2_soBy 0 rfl) rfl ?_
  refine r_getI C (dk oX2_soBy 1 rfl) fl_X2_82 rfl (kn hn rfl) ?_
  rw [hA]
  refine r_iload_n C 1 (dk oX2_soBy 2 rfl) rfl ?_
  refine r_aload_n C 0 (dk oX2_soBy 3 rfl) rfl ?_
  refine r_getI C (dk oX2_soBy 4 rfl) fl_X2_79 rfl (kn hn rfl) ?_
  rw [hN]
  refine r_ixor C (dk oX2_soBy 5 rfl) ?_
  rw [nx_xor]
  refine r_ior C (dk oX2_soBy 6 rfl) ?_
  rw [fa_or]
  refine hret (dk oX2_soBy 7 rfl) rfl ?_
  exact ⟨rfl, rfl, rfl⟩

set_option maxHeartbeats 1000000 in
set_option maxRecDepth 100000 in
theorem c38_X2_howMany (hn : 117 ≤ n) (I : MI) (J : MJ) (Φ : Nat → FS) (hM : FcM I 38 Φ) (x : Int32) : Ci l n ad cA D z 0 yX2_howMany cX2_howMany 4 .int I J [.ref (ad 38), .int x] (fun r I' J' => r = nI (fb_ct (fun f => decide (Φ f 0 = x)) 12) ∧ I' = I ∧ J' = J) := by
  refine Ci.of (by decide) (Nat.le_of_ble_eq_true rfl) ?_
  intro p e s m args below meth c A C hin Z Q hret
  refine r_iconst C (dk oX2_howMany 0 rfl) (v := nI 0) (by decide) ?_
  refine r_istore_n (lo' := [(2, _), (0, _), (1, _)]) C (dk oX2_howMany 1 rfl) rfl (by decide) rfl ?_
  refine r_iconst C (dk oX2_howMany 2 rfl) (v := nI 0) (by decide) ?_
  refine r_istore_n (lo' := [(3, _), (2, _), (0, _), (1, _)]) C (dk oX2_howMany 3 rfl) rfl (by decide) rfl ?_
  have L4 : ∀ (d_ : Nat) (f : Nat), 12 - f < d_ → f ≤ 12 → V p l e (rmL 0) s m args below meth c Q D A 4 0 0 n ad (mE cA ad I J) 4 [(0, .ref (ad 38)), (1, .int x), (2, .int (nI (fb_ct (fun f => decide (Φ f 0 = x)) f))), (3, .int (nI f))] [] := by
    intro d_
    induction d_ with
    | zero => intros; exact absurd (by assumption) (Nat.not_lt_zero _)
    | succ d_ ih => 
      intro f hd_ hf
      refine r_iload_n C 3 (dk oX2_howMany 4 rfl) rfl ?_
      refine r_bipush C (dk oX2_howMany 5 rfl) (v := nI 12) (by decide) ?_
      refine r_icmp_ge (tgt := 29) C (dk oX2_howMany 6 rfl) (by decide) (fun hb7 => ?_) (fun hb7 => ?_)
      · simp (disch := omega) only [nI_leI, nI_ltI, nI_eq, nI_eq0] at hb7
        refine r_iload_n C 2 (dk oX2_howMany 16 rfl) rfl ?_
        refine hret (dk oX2_howMany 17 rfl) rfl ?_
        exact ⟨by rw [show f = 12 by omega], rfl, rfl⟩
      · simp (disch := omega) only [nI_leI, nI_ltI, nI_eq, nI_eq0] at hb7
        have hw0 : I 39 f = Φ f 0 := hM f (by omega) 0 (by decide)
        refine r_aload_n C 0 (dk oX2_howMany 7 rfl) rfl ?_
        refine r_getR C (dk oX2_howMany 8 rfl) fl_X2_9 rfl (kn hn rfl) ?_
        refine r_iload_n C 3 (dk oX2_howMany 9 rfl) rfl ?_
        refine r_iald C _ (dk oX2_howMany 10 rfl) rfl (kn hn rfl) rfl (by omega) (by decide) ?_
        rw [hw0]
        refine r_iload_n C 1 (dk oX2_howMany 11 rfl) rfl ?_
        refine r_icmp_ne (tgt := 23) C (dk oX2_howMany 12 rfl) (by decide) (fun hb17 => ?_) (fun hb17 => ?_)
        · refine r_iinc (lo' := [(3, _), (0, _), (1, _), (2, _)]) C 3 (dk oX2_howMany 14 rfl) rfl (by first | exact nI_inc _ | rfl) (by decide) rfl ?_
          refine r_goto (tgt := 4) C (dk oX2_howMany 15 rfl) (by decide) ?_
          refine V.sub [1, 2, 3, 0] rfl ?_
          have hR := ih (f + 1) (by omega) (by omega)
          rw [fb_ct_succ] at hR
          first
            | (rw [if_neg (by rw [decide_eq_false hb17]; decide), Nat.add_zero] at hR; exact hR)
            | (rw [if_pos (decide_eq_true hb17)] at hR; exact hR)
        · refine r_iinc (lo' := [(2, _), (0, _), (1, _), (3, _)]) C 2 (dk oX2_howMany 13 rfl) rfl (by first | exact nI_inc _ | rfl) (by decide) rfl ?_
          refine r_iinc (lo' := [(3, _), (2, _), (0, _), (1, _)]) C 3 (dk oX2_howMany 14 rfl) rfl (by first | exact nI_inc _ | rfl) (by decide) rfl ?_
          refine r_goto (tgt := 4) C (dk oX2_howMany 15 rfl) (by decide) ?_
          refine V.sub [2, 3, 1, 0] rfl ?_
          have hR := ih (f + 1) (by omega) (by omega)
          rw [fb_ct_succ] at hR
          first
            | (rw [if_neg (by rw [decide_eq_false hb17]; decide), Nat.add_zero] at hR; exact hR)
            | (rw [if_pos (decide_eq_true hb17)] at hR; exact hR)
  refine V.sub [2, 3, 1, 0] rfl ?_
  exact L4 13 0 (by omega) (by omega)

set_option maxHeartbeats 1000000 in
set_option maxRecDepth 100000 in
theorem c38_X2_admittedBy (hn : 117 ≤ n) (I : MI) (J : MJ) (Φ : Nat → FS) (hM : FcM I 38 Φ) (sd : Nat) (hs : sd < 2) : Ci l n ad cA D z 0 yX2_admittedBy cX2_admittedBy 4 .int I J [.ref (ad 38), .int (nI sd)] (fun r I' J' => r = nI (bS (fun f => decide (Φ f 0 = nI 2 ∧ Φ f 2 = nI (1 - sd))) 12) ∧ I' = I ∧ J' = J) := by
  refine Ci.of (by decide) (Nat.le_of_ble_eq_true rfl) ?_
  intro p e s m args below meth c A C hin Z Q hret
  refine r_iconst C (dk oX2_admittedBy 0 rfl) (v := nI 0) (by decide) ?_
  refine r_istore_n (lo' := [(2, _), (0, _), (1, _)]) C (dk oX2_admittedBy 1 rfl) rfl (by decide) rfl ?_
  refine r_iconst C (dk oX2_admittedBy 2 rfl) (v := nI 0) (by decide) ?_
  refine r_istore_n (lo' := [(3, _), (2, _), (0, _), (1, _)]) C (dk oX2_admittedBy 3 rfl) rfl (by decide) rfl ?_
  have L4 : ∀ (d_ : Nat) (f : Nat), 12 - f < d_ → f ≤ 12 → V p l e (rmL 0) s m args below meth c Q D A 4 0 0 n ad (mE cA ad I J) 4 [(0, .ref (ad 38)), (1, .int (nI sd)), (2, .int (nI (bS (fun f => decide (Φ f 0 = nI 2 ∧ Φ f 2 = nI (1 - sd))) f))), (3, .int (nI f))] [] := by
    intro d_
    induction d_ with
    | zero => intros; exact absurd (by assumption) (Nat.not_lt_zero _)
    | succ d_ ih => 
      intro f hd_ hf
      refine r_iload_n C 3 (dk oX2_admittedBy 4 rfl) rfl ?_
      refine r_bipush C (dk oX2_admittedBy 5 rfl) (v := nI 12) (by decide) ?_
      refine r_icmp_ge (tgt := 44) C (dk oX2_admittedBy 6 rfl) (by decide) (fun hb7 => ?_) (fun hb7 => ?_)
      · simp (disch := omega) only [nI_leI, nI_ltI, nI_eq, nI_eq0] at hb7
        refine r_iload_n C 2 (dk oX2_admittedBy 29 rfl) rfl ?_
        refine hret (dk oX2_admittedBy 30 rfl) rfl ?_
        exact ⟨by rw [show f = 12 by omega], rfl, rfl⟩
      · simp (disch := omega) only [nI_leI, nI_ltI, nI_eq, nI_eq0] at hb7
        have hw0 : I 39 f = Φ f 0 := hM f (by omega) 0 (by decide)
        have hw2 : I 41 f = Φ f 2 := hM f (by omega) 2 (by decide)
        refine r_aload_n C 0 (dk oX2_admittedBy 7 rfl) rfl ?_
        refine r_getR C (dk oX2_admittedBy 8 rfl) fl_X2_9 rfl (kn hn rfl) ?_
        refine r_iload_n C 3 (dk oX2_admittedBy 9 rfl) rfl ?_
        refine r_iald C _ (dk oX2_admittedBy 10 rfl) rfl (kn hn rfl) rfl (by omega) (by decide) ?_
        rw [hw0]
        refine r_iconst C (dk oX2_admittedBy 11 rfl) (v := nI 2) (by decide) ?_
        refine r_icmp_ne (tgt := 38) C (dk oX2_admittedBy 12 rfl) (by decide) (fun hb17 => ?_) (fun hb17 => ?_)
        · refine r_iinc (lo' := [(3, _), (0, _), (1, _), (2, _)]) C 3 (dk oX2_admittedBy 27 rfl) rfl (by first | exact nI_inc _ | rfl) (by decide) rfl ?_
          refine r_goto (tgt := 4) C (dk oX2_admittedBy 28 rfl) (by decide) ?_
          refine V.sub [1, 2, 3, 0] rfl ?_
          have hR := ih (f + 1) (by omega) (by omega)
          unfold bS at hR
          first
            | (rw [if_pos (decide_eq_true ⟨hb17, hb29⟩)] at hR; exact hR)
            | (rw [if_neg (by rw [decide_eq_false (fun q => hb17 q.1)]; decide)] at hR; exact hR)
            | (rw [if_neg (by rw [decide_eq_false (fun q => hb29 q.2)]; decide)] at hR; exact hR)
        · refine r_aload_n C 0 (dk oX2_admittedBy 13 rfl) rfl ?_
          refine r_getR C (dk oX2_admittedBy 14 rfl) fl_X2_18 rfl (kn hn rfl) ?_
          refine r_iload_n C 3 (dk oX2_admittedBy 15 rfl) rfl ?_
          refine r_iald C _ (dk oX2_admittedBy 16 rfl) rfl (kn hn rfl) rfl (by omega) (by decide) ?_
          rw [hw2]
          refine r_iconst C (dk oX2_admittedBy 17 rfl) (v := nI 1) (by decide) ?_
          refine r_iload_n C 1 (dk oX2_admittedBy 18 rfl) rfl ?_
          refine r_isub C (dk oX2_admittedBy 19 rfl) ?_
          rw [pk_sub (by omega)]
          refine r_icmp_ne (tgt := 38) C (dk oX2_admittedBy 20 rfl) (by decide) (fun hb29 => ?_) (fun hb29 => ?_)
          · refine r_iinc (lo' := [(3, _), (0, _), (1, _), (2, _)]) C 3 (dk oX2_admittedBy 27 rfl) rfl (by first | exact nI_inc _ | rfl) (by decide) rfl ?_
            refine r_goto (tgt := 4) C (dk oX2_admittedBy 28 rfl) (by decide) ?_
            refine V.sub [1, 2, 3, 0] rfl ?_
            have hR := ih (f + 1) (by omega) (by omega)
            unfold bS at hR
            first
              | (rw [if_pos (decide_eq_true ⟨hb17, hb29⟩)] at hR; exact hR)
              | (rw [if_neg (by rw [decide_eq_false (fun q => hb17 q.1)]; decide)] at hR; exact hR)
              | (rw [if_neg (by rw [decide_eq_false (fun q => hb29 q.2)]; decide)] at hR; exact hR)
          · refine r_iload_n C 2 (dk oX2_admittedBy 21 rfl) rfl ?_
            refine r_iconst C (dk oX2_admittedBy 22 rfl) (v := nI 1) (by decide) ?_
            refine r_iload_n C 3 (dk oX2_admittedBy 23 rfl) rfl ?_
            refine r_ishl C (dk oX2_admittedBy 24 rfl) ?_
            refine r_ior C (dk oX2_admittedBy 25 rfl) ?_
            rw [or_bit (by omega)]
            refine r_istore_n (lo' := [(2, _), (0, _), (1, _), (3, _)]) C (dk oX2_admittedBy 26 rfl) rfl (by decide) rfl ?_
            refine r_iinc (lo' := [(3, _), (2, _), (0, _), (1, _)]) C 3 (dk oX2_admittedBy 27 rfl) rfl (by first | exact nI_inc _ | rfl) (by decide) rfl ?_
            refine r_goto (tgt := 4) C (dk oX2_admittedBy 28 rfl) (by decide) ?_
            refine V.sub [2, 3, 1, 0] rfl ?_
            have hR := ih (f + 1) (by omega) (by omega)
            unfold bS at hR
            first
              | (rw [if_pos (decide_eq_true ⟨hb17, hb29⟩)] at hR; exact hR)
              | (rw [if_neg (by rw [decide_eq_false (fun q => hb17 q.1)]; decide)] at hR; exact hR)
              | (rw [if_neg (by rw [decide_eq_false (fun q => hb29 q.2)]; decide)] at hR; exact hR)
  refine V.sub [2, 3, 1, 0] rfl ?_
  exact L4 13 0 (by omega) (by omega)

set_option maxHeartbeats 1000000 in
set_option maxRecDepth 100000 in
theorem c38_X2_bearing (hn : 117 ≤ n) (I : MI) (J : MJ) (Φ : Nat → FS) (hM : FcM I 38 Φ) (sd f : Nat) (hs : sd < 2) (hf : f < 12) : Ci l n ad cA D z 0 yX2_bearing cX2_bearing 3 .int I J [.ref (ad 38), .int (nI sd), .int (nI f)] (fun r I' J' => r = berF sd (Φ f) ∧ I' = I ∧ J' = J) := by
  refine Ci.of (by decide) (Nat.le_of_ble_eq_true rfl) ?_
  intro p e s m args below meth c A C hin Z Q hret
  have hw0 : I 39 f = Φ f 0 := hM f hf 0 (by decide)
  have hw2 : I 41 f = Φ f 2 := hM f hf 2 (by decide)
  refine r_iload_n C 2 (dk oX2_bearing 0 rfl) rfl ?_
  refine r_if_lt (tgt := 29) C (dk oX2_bearing 1 rfl) (by decide) (fun hb1 => absurd hb1 (nI_lt0 (by omega))) (fun hb1 => ?_)
  refine r_iload_n C 2 (dk oX2_bearing 2 rfl) rfl ?_
  refine r_bipush C (dk oX2_bearing 3 rfl) (v := nI 12) (by decide) ?_
  refine r_icmp_ge (tgt := 29) C (dk oX2_bearing 4 rfl) (by decide) (fun hb7 => absurd hb7 (by rw [nI_leI (by omega) (by omega)]; omega)) (fun hb7 => ?_)
  refine r_aload_n C 0 (dk oX2_bearing 5 rfl) rfl ?_
  refine r_getR C (dk oX2_bearing 6 rfl) fl_X2_9 rfl (kn hn rfl) ?_
  refine r_iload_n C 2 (dk oX2_bearing 7 rfl) rfl ?_
  refine r_iald C _ (dk oX2_bearing 8 rfl) rfl (kn hn rfl) rfl (by omega) (by decide) ?_
  rw [hw0]
  refine r_if_eq (tgt := 29) C (dk oX2_bearing 9 rfl) (by decide) (fun hb16 => ?_) (fun hb16 => ?_)
  · refine r_iconst C (dk oX2_bearing 16 rfl) (v := -1) (by decide) ?_
    refine hret (dk oX2_bearing 17 rfl) rfl ?_
    refine ⟨?_, rfl, rfl⟩
    unfold berF
    first
      | exact (if_pos (Or.inl hb16)).symm
      | exact (if_pos (Or.inr hb26)).symm
      | (rw [if_neg (fun q => q.elim hb16 hb26)]
         first
           | exact (if_pos hb38).symm
           | (rw [if_neg hb38]
              first
                | exact (if_pos hb50).symm
                | exact (if_neg hb50).symm))
  · refine r_aload_n C 0 (dk oX2_bearing 10 rfl) rfl ?_
    refine r_getR C (dk oX2_bearing 11 rfl) fl_X2_9 rfl (kn hn rfl) ?_
    refine r_iload_n C 2 (dk oX2_bearing 12 rfl) rfl ?_
    refine r_iald C _ (dk oX2_bearing 13 rfl) rfl (kn hn rfl) rfl (by omega) (by decide) ?_
    rw [hw0]
    refine r_iconst C (dk oX2_bearing 14 rfl) (v := nI 2) (by decide) ?_
    refine r_icmp_ne (tgt := 31) C (dk oX2_bearing 15 rfl) (by decide) (fun hb26 => ?_) (fun hb26 => ?_)
    · refine r_aload_n C 0 (dk oX2_bearing 18 rfl) rfl ?_
      refine r_getR C (dk oX2_bearing 19 rfl) fl_X2_18 rfl (kn hn rfl) ?_
      refine r_iload_n C 2 (dk oX2_bearing 20 rfl) rfl ?_
      refine r_iald C _ (dk oX2_bearing 21 rfl) rfl (kn hn rfl) rfl (by omega) (by decide) ?_
      rw [hw2]
      refine r_iload_n C 1 (dk oX2_bearing 22 rfl) rfl ?_
      refine r_icmp_ne (tgt := 43) C (dk oX2_bearing 23 rfl) (by decide) (fun hb38 => ?_) (fun hb38 => ?_)
      · refine r_aload_n C 0 (dk oX2_bearing 26 rfl) rfl ?_
        refine r_getR C (dk oX2_bearing 27 rfl) fl_X2_9 rfl (kn hn rfl) ?_
        refine r_iload_n C 2 (dk oX2_bearing 28 rfl) rfl ?_
        refine r_iald C _ (dk oX2_bearing 29 rfl) rfl (kn hn rfl) rfl (by omega) (by decide) ?_
        rw [hw0]
        refine r_iconst C (dk oX2_bearing 30 rfl) (v := nI 4) (by decide) ?_
        refine r_icmp_ne (tgt := 57) C (dk oX2_bearing 31 rfl) (by decide) (fun hb50 => ?_) (fun hb50 => ?_)
        · refine r_iconst C (dk oX2_bearing 34 rfl) (v := nI 0) (by decide) ?_
          refine hret (dk oX2_bearing 35 rfl) rfl ?_
          refine ⟨?_, rfl, rfl⟩
          unfold berF
          first
            | exact (if_pos (Or.inl hb16)).symm
            | exact (if_pos (Or.inr hb26)).symm
            | (rw [if_neg (fun q => q.elim hb16 hb26)]
               first
                 | exact (if_pos hb38).symm
                 | (rw [if_neg hb38]
                    first
                      | exact (if_pos hb50).symm
                      | exact (if_neg hb50).symm))
        · refine r_iconst C (dk oX2_bearing 32 rfl) (v := -1) (by decide) ?_
          refine r_goto (tgt := 58) C (dk oX2_bearing 33 rfl) (by decide) ?_
          refine hret (dk oX2_bearing 35 rfl) rfl ?_
          refine ⟨?_, rfl, rfl⟩
          unfold berF
          first
            | exact (if_pos (Or.inl hb16)).symm
            | exact (if_pos (Or.inr hb26)).symm
            | (rw [if_neg (fun q => q.elim hb16 hb26)]
               first
                 | exact (if_pos hb38).symm
                 | (rw [if_neg hb38]
                    first
                      | exact (if_pos hb50).symm
                      | exact (if_neg hb50).symm))
      · refine r_iconst C (dk oX2_bearing 24 rfl) (v := nI 1) (by decide) ?_
        refine hret (dk oX2_bearing 25 rfl) rfl ?_
        refine ⟨?_, rfl, rfl⟩
        unfold berF
        first
          | exact (if_pos (Or.inl hb16)).symm
          | exact (if_pos (Or.inr hb26)).symm
          | (rw [if_neg (fun q => q.elim hb16 hb26)]
             first
               | exact (if_pos hb38).symm
               | (rw [if_neg hb38]
                  first
                    | exact (if_pos hb50).symm
                    | exact (if_neg hb50).symm))
    · refine r_iconst C (dk oX2_bearing 16 rfl) (v := -1) (by decide) ?_
      refine hret (dk oX2_bearing 17 rfl) rfl ?_
      refine ⟨?_, rfl, rfl⟩
      unfold berF
      first
        | exact (if_pos (Or.inl hb16)).symm
        | exact (if_pos (Or.inr hb26)).symm
        | (rw [if_neg (fun q => q.elim hb16 hb26)]
           first
             | exact (if_pos hb38).symm
             | (rw [if_neg hb38]
                first
                  | exact (if_pos hb50).symm
                  | exact (if_neg hb50).symm))

set_option maxHeartbeats 1000000 in
set_option maxRecDepth 100000 in
theorem c45_X2_free (hn : 117 ≤ n) (I : MI) (J : MJ) (f : Nat) (hf : f < 12) : Cv l n ad cA D z 0 yX2_free cX2_free 2 I J [.ref (ad 45), .int (nI f)] (fun I' J' => fcU I I' 45 f frS ∧ J' = J) := by
  refine Cv.of (by decide) (Nat.le_of_ble_eq_true rfl) ?_
  intro p e s m args below meth c A C hin Z Q hret
  refine r_aload_n C 0 (dk oX2_free 0 rfl) rfl ?_
  refine r_getR C (dk oX2_free 1 rfl) fl_X2_9 rfl (kn hn rfl) ?_
  refine r_iload_n C 1 (dk oX2_free 2 rfl) rfl ?_
  refine r_iconst C (dk oX2_free 3 rfl) (v := nI 0) (by decide) ?_
  refine r_iast C _ (dk oX2_free 4 rfl) rfl (kn hn rfl) rfl (by omega) (by decide) ?_
  refine r_aload_n C 0 (dk oX2_free 5 rfl) rfl ?_
  refine r_getR C (dk oX2_free 6 rfl) fl_X2_15 rfl (kn hn rfl) ?_
  refine r_iload_n C 1 (dk oX2_free 7 rfl) rfl ?_
  refine r_iconst C (dk oX2_free 8 rfl) (v := -1) (by decide) ?_
  refine r_iast C _ (dk oX2_free 9 rfl) rfl (kn hn rfl) rfl (by omega) (by decide) ?_
  refine r_aload_n C 0 (dk oX2_free 10 rfl) rfl ?_
  refine r_getR C (dk oX2_free 11 rfl) fl_X2_18 rfl (kn hn rfl) ?_
  refine r_iload_n C 1 (dk oX2_free 12 rfl) rfl ?_
  refine r_iconst C (dk oX2_free 13 rfl) (v := -1) (by decide) ?_
  refine r_iast C _ (dk oX2_free 14 rfl) rfl (kn hn rfl) rfl (by omega) (by decide) ?_
  refine r_aload_n C 0 (dk oX2_free 15 rfl) rfl ?_
  refine r_getR C (dk oX2_free 16 rfl) fl_X2_21 rfl (kn hn rfl) ?_
  refine r_iload_n C 1 (dk oX2_free 17 rfl) rfl ?_
  refine r_iconst C (dk oX2_free 18 rfl) (v := -1) (by decide) ?_
  refine r_iast C _ (dk oX2_free 19 rfl) rfl (kn hn rfl) rfl (by omega) (by decide) ?_
  refine r_aload_n C 0 (dk oX2_free 20 rfl) rfl ?_
  refine r_getR C (dk oX2_free 21 rfl) fl_X2_24 rfl (kn hn rfl) ?_
  refine r_iload_n C 1 (dk oX2_free 22 rfl) rfl ?_
  refine r_iconst C (dk oX2_free 23 rfl) (v := -1) (by decide) ?_
  refine r_iast C _ (dk oX2_free 24 rfl) rfl (kn hn rfl) rfl (by omega) (by decide) ?_
  refine hret (dk oX2_free 25 rfl) ?_
  refine ⟨⟨fun k hk => by rw [up2_ne (by omega), up2_ne (by omega), up2_ne (by omega), up2_ne (by omega), up2_ne (by omega)], five ?_ ?_ ?_ ?_ ?_⟩, rfl⟩
  all_goals (intro g; by_cases e : g = f <;> simp [up2_ap, frS, e])

set_option maxHeartbeats 1000000 in
set_option maxRecDepth 100000 in
theorem c45_X2_answer (hn : 117 ≤ n) (I : MI) (J : MJ) (f s_ p_ : Nat) (hf : f < 12) : Cv l n ad cA D z 0 yX2_answer cX2_answer 4 I J [.ref (ad 45), .int (nI f), .int (nI s_), .int (nI p_)] (fun I' J' => fcU I I' 45 f (ans s_ p_ (fun i => I (45 + 1 + i) f)) ∧ J' = J) := by
  refine Cv.of (by decide) (Nat.le_of_ble_eq_true rfl) ?_
  intro p e s m args below meth c A C hin Z Q hret
  refine r_aload_n C 0 (dk oX2_answer 0 rfl) rfl ?_
  refine r_getR C (dk oX2_answer 1 rfl) fl_X2_9 rfl (kn hn rfl) ?_
  refine r_iload_n C 1 (dk oX2_answer 2 rfl) rfl ?_
  refine r_iload_n C 2 (dk oX2_answer 3 rfl) rfl ?_
  refine r_iast C _ (dk oX2_answer 4 rfl) rfl (kn hn rfl) rfl (by omega) (by decide) ?_
  refine r_aload_n C 0 (dk oX2_answer 5 rfl) rfl ?_
  refine r_getR C (dk oX2_answer 6 rfl) fl_X2_24 rfl (kn hn rfl) ?_
  refine r_iload_n C 1 (dk oX2_answer 7 rfl) rfl ?_
  refine r_iload_n C 3 (dk oX2_answer 8 rfl) rfl ?_
  refine r_iast C _ (dk oX2_answer 9 rfl) rfl (kn hn rfl) rfl (by omega) (by decide) ?_
  refine hret (dk oX2_answer 10 rfl) ?_
  refine ⟨⟨fun k hk => by rw [up2_ne (by omega), up2_ne (by omega)], five ?_ ?_ ?_ ?_ ?_⟩, rfl⟩
  all_goals (intro g; by_cases e : g = f <;> simp [up2_ap, ans, e])

set_option maxHeartbeats 1000000 in
set_option maxRecDepth 100000 in
theorem c45_X2_awaitsAnswerOf (hn : 117 ≤ n) (I : MI) (J : MJ) (f sd : Nat) (hf : f < 12) (hs : sd < 2) : Ci l n ad cA D z 0 yX2_awaitsAnswerOf cX2_awaitsAnswerOf 3 .boolean I J [.ref (ad 45), .int (nI f), .int (nI sd)] (fun r I' J' => r = b32 (decide (I 46 f = nI 1 ∧ I 48 f = nI (1 - sd))) ∧ I' = I ∧ J' = J) := by
  refine Ci.of (by decide) (Nat.le_of_ble_eq_true rfl) ?_
  intro p e s m args below meth c A C hin Z Q hret
  refine r_aload_n C 0 (dk oX2_awaitsAnswerOf 0 rfl) rfl ?_
  refine r_getR C (dk oX2_awaitsAnswerOf 1 rfl) fl_X2_9 rfl (kn hn rfl) ?_
  refine r_iload_n C 1 (dk oX2_awaitsAnswerOf 2 rfl) rfl ?_
  refine r_iald C _ (dk oX2_awaitsAnswerOf 3 rfl) rfl (kn hn rfl) rfl (by omega) (by decide) ?_
  refine r_iconst C (dk oX2_awaitsAnswerOf 4 rfl) (v := nI 1) (by decide) ?_
  refine r_icmp_ne (tgt := 26) C (dk oX2_awaitsAnswerOf 5 rfl) (by decide) (fun hb7 => ?_) (fun hb7 => ?_)
  · refine r_iconst C (dk oX2_awaitsAnswerOf 16 rfl) (v := nI 0) (by decide) ?_
    refine hret (dk oX2_awaitsAnswerOf 17 rfl) rfl ?_
    refine ⟨?_, rfl, rfl⟩
    first
      | exact b32_dt ⟨hb7, hb19⟩
      | exact b32_df (fun q => hb7 q.1)
      | exact b32_df (fun q => hb19 q.2)
  · refine r_aload_n C 0 (dk oX2_awaitsAnswerOf 6 rfl) rfl ?_
    refine r_getR C (dk oX2_awaitsAnswerOf 7 rfl) fl_X2_18 rfl (kn hn rfl) ?_
    refine r_iload_n C 1 (dk oX2_awaitsAnswerOf 8 rfl) rfl ?_
    refine r_iald C _ (dk oX2_awaitsAnswerOf 9 rfl) rfl (kn hn rfl) rfl (by omega) (by decide) ?_
    refine r_iconst C (dk oX2_awaitsAnswerOf 10 rfl) (v := nI 1) (by decide) ?_
    refine r_iload_n C 2 (dk oX2_awaitsAnswerOf 11 rfl) rfl ?_
    refine r_isub C (dk oX2_awaitsAnswerOf 12 rfl) ?_
    rw [pk_sub (by omega)]
    refine r_icmp_ne (tgt := 26) C (dk oX2_awaitsAnswerOf 13 rfl) (by decide) (fun hb19 => ?_) (fun hb19 => ?_)
    · refine r_iconst C (dk oX2_awaitsAnswerOf 16 rfl) (v := nI 0) (by decide) ?_
      refine hret (dk oX2_awaitsAnswerOf 17 rfl) rfl ?_
      refine ⟨?_, rfl, rfl⟩
      first
        | exact b32_dt ⟨hb7, hb19⟩
        | exact b32_df (fun q => hb7 q.1)
        | exact b32_df (fun q => hb19 q.2)
    · refine r_iconst C (dk oX2_awaitsAnswerOf 14 rfl) (v := nI 1) (by decide) ?_
      refine r_goto (tgt := 27) C (dk oX2_awaitsAnswerOf 15 rfl) (by decide) ?_
      refine hret (dk oX2_awaitsAnswerOf 17 rfl) rfl ?_
      refine ⟨?_, rfl, rfl⟩
      first
        | exact b32_dt ⟨hb7, hb19⟩
        | exact b32_df (fun q => hb7 q.1)
        | exact b32_df (fun q => hb19 q.2)

set_option maxHeartbeats 1000000 in
set_option maxRecDepth 100000 in
theorem c45_X2_allow (hn : 117 ≤ n) (I : MI) (J : MJ) (f a p_ : Nat) (hf : f < 12) (ha : 0 < a ∧ a ≤ 6) : Ci l n ad cA D z 1 yX2_allow cX2_allow 4 .boolean I J [.ref (ad 45), .int (nI f), .int (nI a), .int (nI (p_ % 2))] (fun r I' J' => r = b32 (alw a p_ (fun i => I (45 + 1 + i) f)) ∧ I' = I ∧ J' = J) := by
  refine Ci.of (by decide) (Nat.le_of_ble_eq_true rfl) ?_
  intro p e s m args below meth c A C hin Z Q hret
  refine r_iload_n C 2 (dk oX2_allow 0 rfl) rfl ?_
  rcases (by omega : a = 1 ∨ a = 2 ∨ a = 3 ∨ a = 4 ∨ a = 5 ∨ a = 6) with rfl | rfl | rfl | rfl | rfl | rfl
  · refine r_lookup (off := 35) (tgt := 36) C (dk oX2_allow 1 rfl) (by decide) (by decide) (by decide) ?_
    refine r_aload_n C 0 (dk oX2_allow 2 rfl) rfl ?_
    refine r_getR C (dk oX2_allow 3 rfl) fl_X2_9 rfl (kn hn rfl) ?_
    refine r_iload_n C 1 (dk oX2_allow 4 rfl) rfl ?_
    refine r_iald C _ (dk oX2_allow 5 rfl) rfl (kn hn rfl) rfl (by omega) (by decide) ?_
    refine r_if_ne (tgt := 49) C (dk oX2_allow 6 rfl) (by decide) (fun hb42 => ?_) (fun hb42 => ?_)
    · refine r_iconst C (dk oX2_allow 9 rfl) (v := nI 0) (by decide) ?_
      refine hret (dk oX2_allow 10 rfl) rfl ?_
      refine ⟨?_, rfl, rfl⟩
      unfold alw
      rw [if_pos (by omega)]
      first | exact b32_dt hb42 | exact b32_df hb42
    · refine r_iconst C (dk oX2_allow 7 rfl) (v := nI 1) (by decide) ?_
      refine r_goto (tgt := 50) C (dk oX2_allow 8 rfl) (by decide) ?_
      refine hret (dk oX2_allow 10 rfl) rfl ?_
      refine ⟨?_, rfl, rfl⟩
      unfold alw
      rw [if_pos (by omega)]
      first | exact b32_dt hb42 | exact b32_df hb42
  · refine r_lookup (off := 35) (tgt := 36) C (dk oX2_allow 1 rfl) (by decide) (by decide) (by decide) ?_
    refine r_aload_n C 0 (dk oX2_allow 2 rfl) rfl ?_
    refine r_getR C (dk oX2_allow 3 rfl) fl_X2_9 rfl (kn hn rfl) ?_
    refine r_iload_n C 1 (dk oX2_allow 4 rfl) rfl ?_
    refine r_iald C _ (dk oX2_allow 5 rfl) rfl (kn hn rfl) rfl (by omega) (by decide) ?_
    refine r_if_ne (tgt := 49) C (dk oX2_allow 6 rfl) (by decide) (fun hb42 => ?_) (fun hb42 => ?_)
    · refine r_iconst C (dk oX2_allow 9 rfl) (v := nI 0) (by decide) ?_
      refine hret (dk oX2_allow 10 rfl) rfl ?_
      refine ⟨?_, rfl, rfl⟩
      unfold alw
      rw [if_pos (by omega)]
      first | exact b32_dt hb42 | exact b32_df hb42
    · refine r_iconst C (dk oX2_allow 7 rfl) (v := nI 1) (by decide) ?_
      refine r_goto (tgt := 50) C (dk oX2_allow 8 rfl) (by decide) ?_
      refine hret (dk oX2_allow 10 rfl) rfl ?_
      refine ⟨?_, rfl, rfl⟩
      unfold alw
      rw [if_pos (by omega)]
      first | exact b32_dt hb42 | exact b32_df hb42
  · refine r_lookup (off := 85) (tgt := 86) C (dk oX2_allow 1 rfl) (by decide) (by decide) (by decide) ?_
    refine r_aload_n C 0 (dk oX2_allow 32 rfl) rfl ?_
    refine r_iload_n C 1 (dk oX2_allow 33 rfl) rfl ?_
    refine r_iload_n C 3 (dk oX2_allow 34 rfl) rfl ?_
    refine r_ivi C Z (dk oX2_allow 35 rfl) cl_X2_70 ci_X2_awaitsAnswerOf rfl (kn hn rfl) (c45_X2_awaitsAnswerOf hn I J f (p_ % 2) hf (by omega)) rfl rfl (Nat.le_of_ble_eq_true rfl) ⟨Nat.le_of_ble_eq_true rfl, Nat.le_of_ble_eq_true rfl⟩ ⟨Nat.zero_le _, Nat.zero_le _⟩ (fun r89 I89 J89 h89 => ?_)
    obtain ⟨h89, e1_, e2_⟩ := h89
    have e1_ := e1_.symm
    have e2_ := e2_.symm
    subst e1_
    subst e2_
    subst h89
    refine hret (dk oX2_allow 36 rfl) b32_nar ?_
    refine ⟨?_, rfl, rfl⟩
    unfold alw
    rw [if_neg (by omega), if_neg (by omega)]
  · refine r_lookup (off := 85) (tgt := 86) C (dk oX2_allow 1 rfl) (by decide) (by decide) (by decide) ?_
    refine r_aload_n C 0 (dk oX2_allow 32 rfl) rfl ?_
    refine r_iload_n C 1 (dk oX2_allow 33 rfl) rfl ?_
    refine r_iload_n C 3 (dk oX2_allow 34 rfl) rfl ?_
    refine r_ivi C Z (dk oX2_allow 35 rfl) cl_X2_70 ci_X2_awaitsAnswerOf rfl (kn hn rfl) (c45_X2_awaitsAnswerOf hn I J f (p_ % 2) hf (by omega)) rfl rfl (Nat.le_of_ble_eq_true rfl) ⟨Nat.le_of_ble_eq_true rfl, Nat.le_of_ble_eq_true rfl⟩ ⟨Nat.zero_le _, Nat.zero_le _⟩ (fun r89 I89 J89 h89 => ?_)
    obtain ⟨h89, e1_, e2_⟩ := h89
    have e1_ := e1_.symm
    have e2_ := e2_.symm
    subst e1_
    subst e2_
    subst h89
    refine hret (dk oX2_allow 36 rfl) b32_nar ?_
    refine ⟨?_, rfl, rfl⟩
    unfold alw
    rw [if_neg (by omega), if_neg (by omega)]
  · refine r_lookup (off := 85) (tgt := 86) C (dk oX2_allow 1 rfl) (by decide) (by decide) (by decide) ?_
    refine r_aload_n C 0 (dk oX2_allow 32 rfl) rfl ?_
    refine r_iload_n C 1 (dk oX2_allow 33 rfl) rfl ?_
    refine r_iload_n C 3 (dk oX2_allow 34 rfl) rfl ?_
    refine r_ivi C Z (dk oX2_allow 35 rfl) cl_X2_70 ci_X2_awaitsAnswerOf rfl (kn hn rfl) (c45_X2_awaitsAnswerOf hn I J f (p_ % 2) hf (by omega)) rfl rfl (Nat.le_of_ble_eq_true rfl) ⟨Nat.le_of_ble_eq_true rfl, Nat.le_of_ble_eq_true rfl⟩ ⟨Nat.zero_le _, Nat.zero_le _⟩ (fun r89 I89 J89 h89 => ?_)
    obtain ⟨h89, e1_, e2_⟩ := h89
    have e1_ := e1_.symm
    have e2_ := e2_.symm
    subst e1_
    subst e2_
    subst h89
    refine hret (dk oX2_allow 36 rfl) b32_nar ?_
    refine ⟨?_, rfl, rfl⟩
    unfold alw
    rw [if_neg (by omega), if_neg (by omega)]
  · refine r_lookup (off := 50) (tgt := 51) C (dk oX2_allow 1 rfl) (by decide) (by decide) (by decide) ?_
    refine r_aload_n C 0 (dk oX2_allow 11 rfl) rfl ?_
    refine r_getR C (dk oX2_allow 12 rfl) fl_X2_9 rfl (kn hn rfl) ?_
    refine r_iload_n C 1 (dk oX2_allow 13 rfl) rfl ?_
    refine r_iald C _ (dk oX2_allow 14 rfl) rfl (kn hn rfl) rfl (by omega) (by decide) ?_
    refine r_if_eq (tgt := 84) C (dk oX2_allow 15 rfl) (by decide) (fun hb57 => ?_) (fun hb57 => ?_)
    · refine r_iconst C (dk oX2_allow 30 rfl) (v := nI 0) (by decide) ?_
      refine hret (dk oX2_allow 31 rfl) rfl ?_
      refine ⟨?_, rfl, rfl⟩
      unfold alw
      rw [if_neg (by omega), if_pos (by omega)]
      first
        | exact b32_dt ⟨hb57, hb67, hb77⟩
        | exact b32_df (fun q => q.1 hb57)
        | exact b32_df (fun q => q.2.1 hb67)
        | exact b32_df (fun q => hb77 q.2.2)
    · refine r_aload_n C 0 (dk oX2_allow 16 rfl) rfl ?_
      refine r_getR C (dk oX2_allow 17 rfl) fl_X2_9 rfl (kn hn rfl) ?_
      refine r_iload_n C 1 (dk oX2_allow 18 rfl) rfl ?_
      refine r_iald C _ (dk oX2_allow 19 rfl) rfl (kn hn rfl) rfl (by omega) (by decide) ?_
      refine r_iconst C (dk oX2_allow 20 rfl) (v := nI 2) (by decide) ?_
      refine r_icmp_eq (tgt := 84) C (dk oX2_allow 21 rfl) (by decide) (fun hb67 => ?_) (fun hb67 => ?_)
      · refine r_iconst C (dk oX2_allow 30 rfl) (v := nI 0) (by decide) ?_
        refine hret (dk oX2_allow 31 rfl) rfl ?_
        refine ⟨?_, rfl, rfl⟩
        unfold alw
        rw [if_neg (by omega), if_pos (by omega)]
        first
          | exact b32_dt ⟨hb57, hb67, hb77⟩
          | exact b32_df (fun q => q.1 hb57)
          | exact b32_df (fun q => q.2.1 hb67)
          | exact b32_df (fun q => hb77 q.2.2)
      · refine r_aload_n C 0 (dk oX2_allow 22 rfl) rfl ?_
        refine r_getR C (dk oX2_allow 23 rfl) fl_X2_18 rfl (kn hn rfl) ?_
        refine r_iload_n C 1 (dk oX2_allow 24 rfl) rfl ?_
        refine r_iald C _ (dk oX2_allow 25 rfl) rfl (kn hn rfl) rfl (by omega) (by decide) ?_
        refine r_iload_n C 3 (dk oX2_allow 26 rfl) rfl ?_
        refine r_icmp_ne (tgt := 84) C (dk oX2_allow 27 rfl) (by decide) (fun hb77 => ?_) (fun hb77 => ?_)
        · refine r_iconst C (dk oX2_allow 30 rfl) (v := nI 0) (by decide) ?_
          refine hret (dk oX2_allow 31 rfl) rfl ?_
          refine ⟨?_, rfl, rfl⟩
          unfold alw
          rw [if_neg (by omega), if_pos (by omega)]
          first
            | exact b32_dt ⟨hb57, hb67, hb77⟩
            | exact b32_df (fun q => q.1 hb57)
            | exact b32_df (fun q => q.2.1 hb67)
            | exact b32_df (fun q => hb77 q.2.2)
        · refine r_iconst C (dk oX2_allow 28 rfl) (v := nI 1) (by decide) ?_
          refine r_goto (tgt := 85) C (dk oX2_allow 29 rfl) (by decide) ?_
          refine hret (dk oX2_allow 31 rfl) rfl ?_
          refine ⟨?_, rfl, rfl⟩
          unfold alw
          rw [if_neg (by omega), if_pos (by omega)]
          first
            | exact b32_dt ⟨hb57, hb67, hb77⟩
            | exact b32_df (fun q => q.1 hb57)
            | exact b32_df (fun q => q.2.1 hb67)
            | exact b32_df (fun q => hb77 q.2.2)

set_option maxHeartbeats 1000000 in
set_option maxRecDepth 100000 in
theorem c45_X2_apply (hn : 117 ≤ n) (I : MI) (J : MJ) (f a p_ : Nat) (hf : f < 12) (hp : p_ < 10) (ha : 0 < a ∧ a ≤ 6) : Cv l n ad cA D z 1 yX2_apply cX2_apply 4 I J [.ref (ad 45), .int (nI f), .int (nI a), .int (nI p_)] (fun I' J' => fcU I I' 45 f (app a p_ (fun i => I (45 + 1 + i) f)) ∧ J' = J) := by
  refine Cv.of (by decide) (Nat.le_of_ble_eq_true rfl) ?_
  intro p e s m args below meth c A C hin Z Q hret
  refine r_iload_n C 2 (dk oX2_apply 0 rfl) rfl ?_
  rcases (by omega : a = 1 ∨ a = 2 ∨ a = 3 ∨ a = 4 ∨ a = 5 ∨ a = 6) with rfl | rfl | rfl | rfl | rfl | rfl
  · refine r_tabIn (off := 39) (tgt := 40) C (dk oX2_apply 1 rfl) (by decide) (by decide) (by decide) (by decide) ?_
    refine r_aload_n C 0 (dk oX2_apply 2 rfl) rfl ?_
    refine r_getR C (dk oX2_apply 3 rfl) fl_X2_9 rfl (kn hn rfl) ?_
    refine r_iload_n C 1 (dk oX2_apply 4 rfl) rfl ?_
    refine r_iconst C (dk oX2_apply 5 rfl) (v := nI 1) (by decide) ?_
    refine r_iast C _ (dk oX2_apply 6 rfl) rfl (kn hn rfl) rfl (by omega) (by decide) ?_
    refine r_aload_n C 0 (dk oX2_apply 7 rfl) rfl ?_
    refine r_getR C (dk oX2_apply 8 rfl) fl_X2_15 rfl (kn hn rfl) ?_
    refine r_iload_n C 1 (dk oX2_apply 9 rfl) rfl ?_
    refine r_iload_n C 2 (dk oX2_apply 10 rfl) rfl ?_
    refine r_iconst C (dk oX2_apply 11 rfl) (v := nI 1) (by decide) ?_
    refine r_icmp_ne (tgt := 61) C (dk oX2_apply 12 rfl) (by decide) (fun hb54 => ?_) (fun hb54 => ?_)
    · first
        | exact absurd rfl hb54
        | refine r_iconst C (dk oX2_apply 15 rfl) (v := nI 0) (by decide) ?_
          refine r_iast C _ (dk oX2_apply 16 rfl) rfl (kn hn rfl) rfl (by omega) (by decide) ?_
          refine r_aload_n C 0 (dk oX2_apply 17 rfl) rfl ?_
          refine r_getR C (dk oX2_apply 18 rfl) fl_X2_18 rfl (kn hn rfl) ?_
          refine r_iload_n C 1 (dk oX2_apply 19 rfl) rfl ?_
          refine r_iload_n C 3 (dk oX2_apply 20 rfl) rfl ?_
          refine r_iconst C (dk oX2_apply 21 rfl) (v := nI 2) (by decide) ?_
          refine r_irem C (dk oX2_apply 22 rfl) (by decide) ?_
          rw [mod2 (by omega)]
          refine r_iast C _ (dk oX2_apply 23 rfl) rfl (kn hn rfl) rfl (by omega) (by decide) ?_
          refine r_aload_n C 0 (dk oX2_apply 24 rfl) rfl ?_
          refine r_getR C (dk oX2_apply 25 rfl) fl_X2_21 rfl (kn hn rfl) ?_
          refine r_iload_n C 1 (dk oX2_apply 26 rfl) rfl ?_
          refine r_iload_n C 3 (dk oX2_apply 27 rfl) rfl ?_
          refine r_iast C _ (dk oX2_apply 28 rfl) rfl (kn hn rfl) rfl (by omega) (by decide) ?_
          refine r_goto (tgt := 117) C (dk oX2_apply 29 rfl) (by decide) ?_
          refine hret (dk oX2_apply 51 rfl) ?_
          first
            | exact h84
            | exact h94
            | exact h104
            | exact h114
            | (refine ⟨⟨fun k hk => by rw [up2_ne (by omega), up2_ne (by omega), up2_ne (by omega), up2_ne (by omega)], five ?_ ?_ ?_ ?_ ?_⟩, rfl⟩
               all_goals (intro g; by_cases e : g = f <;> simp [up2_ap, app, e]))
    · first
        | exact absurd hb54 (by decide)
        | refine r_iconst C (dk oX2_apply 13 rfl) (v := nI 1) (by decide) ?_
          refine r_goto (tgt := 62) C (dk oX2_apply 14 rfl) (by decide) ?_
          refine r_iast C _ (dk oX2_apply 16 rfl) rfl (kn hn rfl) rfl (by omega) (by decide) ?_
          refine r_aload_n C 0 (dk oX2_apply 17 rfl) rfl ?_
          refine r_getR C (dk oX2_apply 18 rfl) fl_X2_18 rfl (kn hn rfl) ?_
          refine r_iload_n C 1 (dk oX2_apply 19 rfl) rfl ?_
          refine r_iload_n C 3 (dk oX2_apply 20 rfl) rfl ?_
          refine r_iconst C (dk oX2_apply 21 rfl) (v := nI 2) (by decide) ?_
          refine r_irem C (dk oX2_apply 22 rfl) (by decide) ?_
          rw [mod2 (by omega)]
          refine r_iast C _ (dk oX2_apply 23 rfl) rfl (kn hn rfl) rfl (by omega) (by decide) ?_
          refine r_aload_n C 0 (dk oX2_apply 24 rfl) rfl ?_
          refine r_getR C (dk oX2_apply 25 rfl) fl_X2_21 rfl (kn hn rfl) ?_
          refine r_iload_n C 1 (dk oX2_apply 26 rfl) rfl ?_
          refine r_iload_n C 3 (dk oX2_apply 27 rfl) rfl ?_
          refine r_iast C _ (dk oX2_apply 28 rfl) rfl (kn hn rfl) rfl (by omega) (by decide) ?_
          refine r_goto (tgt := 117) C (dk oX2_apply 29 rfl) (by decide) ?_
          refine hret (dk oX2_apply 51 rfl) ?_
          first
            | exact h84
            | exact h94
            | exact h104
            | exact h114
            | (refine ⟨⟨fun k hk => by rw [up2_ne (by omega), up2_ne (by omega), up2_ne (by omega), up2_ne (by omega)], five ?_ ?_ ?_ ?_ ?_⟩, rfl⟩
               all_goals (intro g; by_cases e : g = f <;> simp [up2_ap, app, e]))
  · refine r_tabIn (off := 39) (tgt := 40) C (dk oX2_apply 1 rfl) (by decide) (by decide) (by decide) (by decide) ?_
    refine r_aload_n C 0 (dk oX2_apply 2 rfl) rfl ?_
    refine r_getR C (dk oX2_apply 3 rfl) fl_X2_9 rfl (kn hn rfl) ?_
    refine r_iload_n C 1 (dk oX2_apply 4 rfl) rfl ?_
    refine r_iconst C (dk oX2_apply 5 rfl) (v := nI 1) (by decide) ?_
    refine r_iast C _ (dk oX2_apply 6 rfl) rfl (kn hn rfl) rfl (by omega) (by decide) ?_
    refine r_aload_n C 0 (dk oX2_apply 7 rfl) rfl ?_
    refine r_getR C (dk oX2_apply 8 rfl) fl_X2_15 rfl (kn hn rfl) ?_
    refine r_iload_n C 1 (dk oX2_apply 9 rfl) rfl ?_
    refine r_iload_n C 2 (dk oX2_apply 10 rfl) rfl ?_
    refine r_iconst C (dk oX2_apply 11 rfl) (v := nI 1) (by decide) ?_
    refine r_icmp_ne (tgt := 61) C (dk oX2_apply 12 rfl) (by decide) (fun hb54 => ?_) (fun hb54 => ?_)
    · first
        | exact absurd rfl hb54
        | refine r_iconst C (dk oX2_apply 15 rfl) (v := nI 0) (by decide) ?_
          refine r_iast C _ (dk oX2_apply 16 rfl) rfl (kn hn rfl) rfl (by omega) (by decide) ?_
          refine r_aload_n C 0 (dk oX2_apply 17 rfl) rfl ?_
          refine r_getR C (dk oX2_apply 18 rfl) fl_X2_18 rfl (kn hn rfl) ?_
          refine r_iload_n C 1 (dk oX2_apply 19 rfl) rfl ?_
          refine r_iload_n C 3 (dk oX2_apply 20 rfl) rfl ?_
          refine r_iconst C (dk oX2_apply 21 rfl) (v := nI 2) (by decide) ?_
          refine r_irem C (dk oX2_apply 22 rfl) (by decide) ?_
          rw [mod2 (by omega)]
          refine r_iast C _ (dk oX2_apply 23 rfl) rfl (kn hn rfl) rfl (by omega) (by decide) ?_
          refine r_aload_n C 0 (dk oX2_apply 24 rfl) rfl ?_
          refine r_getR C (dk oX2_apply 25 rfl) fl_X2_21 rfl (kn hn rfl) ?_
          refine r_iload_n C 1 (dk oX2_apply 26 rfl) rfl ?_
          refine r_iload_n C 3 (dk oX2_apply 27 rfl) rfl ?_
          refine r_iast C _ (dk oX2_apply 28 rfl) rfl (kn hn rfl) rfl (by omega) (by decide) ?_
          refine r_goto (tgt := 117) C (dk oX2_apply 29 rfl) (by decide) ?_
          refine hret (dk oX2_apply 51 rfl) ?_
          first
            | exact h84
            | exact h94
            | exact h104
            | exact h114
            | (refine ⟨⟨fun k hk => by rw [up2_ne (by omega), up2_ne (by omega), up2_ne (by omega), up2_ne (by omega)], five ?_ ?_ ?_ ?_ ?_⟩, rfl⟩
               all_goals (intro g; by_cases e : g = f <;> simp [up2_ap, app, e]))
    · first
        | exact absurd hb54 (by decide)
        | refine r_iconst C (dk oX2_apply 13 rfl) (v := nI 1) (by decide) ?_
          refine r_goto (tgt := 62) C (dk oX2_apply 14 rfl) (by decide) ?_
          refine r_iast C _ (dk oX2_apply 16 rfl) rfl (kn hn rfl) rfl (by omega) (by decide) ?_
          refine r_aload_n C 0 (dk oX2_apply 17 rfl) rfl ?_
          refine r_getR C (dk oX2_apply 18 rfl) fl_X2_18 rfl (kn hn rfl) ?_
          refine r_iload_n C 1 (dk oX2_apply 19 rfl) rfl ?_
          refine r_iload_n C 3 (dk oX2_apply 20 rfl) rfl ?_
          refine r_iconst C (dk oX2_apply 21 rfl) (v := nI 2) (by decide) ?_
          refine r_irem C (dk oX2_apply 22 rfl) (by decide) ?_
          rw [mod2 (by omega)]
          refine r_iast C _ (dk oX2_apply 23 rfl) rfl (kn hn rfl) rfl (by omega) (by decide) ?_
          refine r_aload_n C 0 (dk oX2_apply 24 rfl) rfl ?_
          refine r_getR C (dk oX2_apply 25 rfl) fl_X2_21 rfl (kn hn rfl) ?_
          refine r_iload_n C 1 (dk oX2_apply 26 rfl) rfl ?_
          refine r_iload_n C 3 (dk oX2_apply 27 rfl) rfl ?_
          refine r_iast C _ (dk oX2_apply 28 rfl) rfl (kn hn rfl) rfl (by omega) (by decide) ?_
          refine r_goto (tgt := 117) C (dk oX2_apply 29 rfl) (by decide) ?_
          refine hret (dk oX2_apply 51 rfl) ?_
          first
            | exact h84
            | exact h94
            | exact h104
            | exact h114
            | (refine ⟨⟨fun k hk => by rw [up2_ne (by omega), up2_ne (by omega), up2_ne (by omega), up2_ne (by omega)], five ?_ ?_ ?_ ?_ ?_⟩, rfl⟩
               all_goals (intro g; by_cases e : g = f <;> simp [up2_ap, app, e]))
  · refine r_tabIn (off := 89) (tgt := 90) C (dk oX2_apply 1 rfl) (by decide) (by decide) (by decide) (by decide) ?_
    refine r_aload_n C 0 (dk oX2_apply 34 rfl) rfl ?_
    refine r_iload_n C 1 (dk oX2_apply 35 rfl) rfl ?_
    refine r_iconst C (dk oX2_apply 36 rfl) (v := nI 2) (by decide) ?_
    refine r_iload_n C 3 (dk oX2_apply 37 rfl) rfl ?_
    refine r_ivv C Z (dk oX2_apply 38 rfl) cl_X2_73 ci_X2_answer rfl (kn hn rfl) (c45_X2_answer hn I J f 2 p_ hf) rfl rfl (Nat.le_of_ble_eq_true rfl) ⟨Nat.le_of_ble_eq_true rfl, Nat.le_of_ble_eq_true rfl⟩ ⟨Nat.zero_le _, Nat.zero_le _⟩ (fun I94 J94 h94 => ?_)
    refine r_goto (tgt := 117) C (dk oX2_apply 39 rfl) (by decide) ?_
    refine hret (dk oX2_apply 51 rfl) ?_
    first
      | exact h84
      | exact h94
      | exact h104
      | exact h114
      | (refine ⟨⟨fun k hk => by rw [up2_ne (by omega), up2_ne (by omega), up2_ne (by omega), up2_ne (by omega)], five ?_ ?_ ?_ ?_ ?_⟩, rfl⟩
         all_goals (intro g; by_cases e : g = f <;> simp [up2_ap, app, e]))
  · refine r_tabIn (off := 99) (tgt := 100) C (dk oX2_apply 1 rfl) (by decide) (by decide) (by decide) (by decide) ?_
    refine r_aload_n C 0 (dk oX2_apply 40 rfl) rfl ?_
    refine r_iload_n C 1 (dk oX2_apply 41 rfl) rfl ?_
    refine r_iconst C (dk oX2_apply 42 rfl) (v := nI 3) (by decide) ?_
    refine r_iload_n C 3 (dk oX2_apply 43 rfl) rfl ?_
    refine r_ivv C Z (dk oX2_apply 44 rfl) cl_X2_73 ci_X2_answer rfl (kn hn rfl) (c45_X2_answer hn I J f 3 p_ hf) rfl rfl (Nat.le_of_ble_eq_true rfl) ⟨Nat.le_of_ble_eq_true rfl, Nat.le_of_ble_eq_true rfl⟩ ⟨Nat.zero_le _, Nat.zero_le _⟩ (fun I104 J104 h104 => ?_)
    refine r_goto (tgt := 117) C (dk oX2_apply 45 rfl) (by decide) ?_
    refine hret (dk oX2_apply 51 rfl) ?_
    first
      | exact h84
      | exact h94
      | exact h104
      | exact h114
      | (refine ⟨⟨fun k hk => by rw [up2_ne (by omega), up2_ne (by omega), up2_ne (by omega), up2_ne (by omega)], five ?_ ?_ ?_ ?_ ?_⟩, rfl⟩
         all_goals (intro g; by_cases e : g = f <;> simp [up2_ap, app, e]))
  · refine r_tabIn (off := 109) (tgt := 110) C (dk oX2_apply 1 rfl) (by decide) (by decide) (by decide) (by decide) ?_
    refine r_aload_n C 0 (dk oX2_apply 46 rfl) rfl ?_
    refine r_iload_n C 1 (dk oX2_apply 47 rfl) rfl ?_
    refine r_iconst C (dk oX2_apply 48 rfl) (v := nI 4) (by decide) ?_
    refine r_iload_n C 3 (dk oX2_apply 49 rfl) rfl ?_
    refine r_ivv C Z (dk oX2_apply 50 rfl) cl_X2_73 ci_X2_answer rfl (kn hn rfl) (c45_X2_answer hn I J f 4 p_ hf) rfl rfl (Nat.le_of_ble_eq_true rfl) ⟨Nat.le_of_ble_eq_true rfl, Nat.le_of_ble_eq_true rfl⟩ ⟨Nat.zero_le _, Nat.zero_le _⟩ (fun I114 J114 h114 => ?_)
    refine hret (dk oX2_apply 51 rfl) ?_
    first
      | exact h84
      | exact h94
      | exact h104
      | exact h114
      | (refine ⟨⟨fun k hk => by rw [up2_ne (by omega), up2_ne (by omega), up2_ne (by omega), up2_ne (by omega)], five ?_ ?_ ?_ ?_ ?_⟩, rfl⟩
         all_goals (intro g; by_cases e : g = f <;> simp [up2_ap, app, e]))
  · refine r_tabIn (off := 81) (tgt := 82) C (dk oX2_apply 1 rfl) (by decide) (by decide) (by decide) (by decide) ?_
    refine r_aload_n C 0 (dk oX2_apply 30 rfl) rfl ?_
    refine r_iload_n C 1 (dk oX2_apply 31 rfl) rfl ?_
    refine r_ivv C Z (dk oX2_apply 32 rfl) cl_X2_30 ci_X2_free rfl (kn hn rfl) (c45_X2_free hn I J f hf) rfl rfl (Nat.le_of_ble_eq_true rfl) ⟨Nat.le_of_ble_eq_true rfl, Nat.le_of_ble_eq_true rfl⟩ ⟨Nat.zero_le _, Nat.zero_le _⟩ (fun I84 J84 h84 => ?_)
    refine r_goto (tgt := 117) C (dk oX2_apply 33 rfl) (by decide) ?_
    refine hret (dk oX2_apply 51 rfl) ?_
    first
      | exact h84
      | exact h94
      | exact h104
      | exact h114
      | (refine ⟨⟨fun k hk => by rw [up2_ne (by omega), up2_ne (by omega), up2_ne (by omega), up2_ne (by omega)], five ?_ ?_ ?_ ?_ ?_⟩, rfl⟩
         all_goals (intro g; by_cases e : g = f <;> simp [up2_ap, app, e]))

set_option maxHeartbeats 1000000 in
set_option maxRecDepth 100000 in
theorem c45_X2_hear (hn : 117 ≤ n) (I : MI) (J : MJ) (p_ : Nat) (hp : p_ < 10) (a_ : Nat → Nat) (ha : ∀ f, f < 12 → I (23 + p_) f = nI (a_ f) ∧ a_ f ≤ 6) : Cv l n ad cA D z 2 yX2_hear cX2_hear 4 I J [.ref (ad 45), .ref (ad (23 + p_)), .int (nI p_)] (fun I' J' => fcO I I' 45 ∧ (∀ g, g < 12 → ∀ i, i < 5 → I' (45 + 1 + i) g = hrF false (a_ g) p_ (fun i => I (45 + 1 + i) g) i) ∧ J' = J) := by
  refine Cv.of (by decide) (Nat.le_of_ble_eq_true rfl) ?_
  intro p e s m args below meth c A C hin Z Q hret
  refine r_iconst C (dk oX2_hear 0 rfl) (v := nI 0) (by decide) ?_
  refine r_istore_n (lo' := [(3, _), (0, _), (1, _), (2, _)]) C (dk oX2_hear 1 rfl) rfl (by decide) rfl ?_
  have L2 : ∀ (d_ : Nat) (f : Nat) (I1 : MI), 12 - f < d_ → f ≤ 12 → (∀ g, g < 12 → ∀ i, i < 5 → I1 (45 + 1 + i) g = if g < f then hrF false (a_ g) p_ (fun i => I (45 + 1 + i) g) i else I (45 + 1 + i) g) → fcO I I1 45 → V p l e (rmL 2) s m args below meth c Q D A 4 0 0 n ad (mE cA ad I1 J) 2 [(0, .ref (ad 45)), (1, .ref (ad (23 + p_))), (2, .int (nI p_)), (3, .int (nI f))] [] := by
    intro d_
    induction d_ with
    | zero => intros; exact absurd (by assumption) (Nat.not_lt_zero _)
    | succ d_ ih => 
      intro f I1 hd_ hf hM hO
      refine r_iload_n C 3 (dk oX2_hear 2 rfl) rfl ?_
      refine r_bipush C (dk oX2_hear 3 rfl) (v := nI 12) (by decide) ?_
      refine r_icmp_ge (tgt := 49) C (dk oX2_hear 4 rfl) (by decide) (fun hb5 => ?_) (fun hb5 => ?_)
      · simp (disch := omega) only [nI_leI, nI_ltI, nI_eq, nI_eq0] at hb5
        refine hret (dk oX2_hear 32 rfl) ?_
        first | exact ⟨hO, fun g hg i hi => by rw [hM g hg i hi, if_pos (by omega)], rfl⟩ | (exfalso; omega)
      · simp (disch := omega) only [nI_leI, nI_ltI, nI_eq, nI_eq0] at hb5
        refine r_iload_n C 3 (dk oX2_hear 5 rfl) rfl ?_
        refine r_aload_n C 1 (dk oX2_hear 6 rfl) rfl ?_
        refine r_alen C (dk oX2_hear 7 rfl) (shA_act p_ hp).2 (by decide) (by omega) ?_
        refine r_icmp_ge (tgt := 49) C (dk oX2_hear 8 rfl) (by decide) (fun hb11 => ?_) (fun hb11 => ?_)
        · simp (disch := omega) only [nI_leI, nI_ltI, nI_eq, nI_eq0] at hb11
          refine hret (dk oX2_hear 32 rfl) ?_
          first | exact ⟨hO, fun g hg i hi => by rw [hM g hg i hi, if_pos (by omega)], rfl⟩ | (exfalso; omega)
        · simp (disch := omega) only [nI_leI, nI_ltI, nI_eq, nI_eq0] at hb11
          refine r_aload_n C 1 (dk oX2_hear 9 rfl) rfl ?_
          refine r_iload_n C 3 (dk oX2_hear 10 rfl) rfl ?_
          refine r_iald C _ (dk oX2_hear 11 rfl) (shA_act p_ hp).1 (by omega) rfl (by omega) (by decide) ?_
          have hrow : I1 (23 + p_) = I (23 + p_) := hO _ (Or.inl (by omega))
          have haf := ha f (by omega)
          have ha6 := haf.2
          rw [hrow, haf.1]
          refine r_if_eq (tgt := 43) C (dk oX2_hear 12 rfl) (by decide) (fun hb17 => ?_) (fun hb17 => ?_)
          · simp (disch := omega) only [nI_leI, nI_ltI, nI_eq, nI_eq0] at hb17
            refine r_iinc (lo' := [(3, _), (0, _), (1, _), (2, _)]) C 3 (dk oX2_hear 30 rfl) rfl (by first | exact nI_inc _ | rfl) (by decide) rfl ?_
            refine r_goto (tgt := 2) C (dk oX2_hear 31 rfl) (by decide) ?_
            refine V.sub [1, 2, 3, 0] rfl ?_
            have hsame : (fun i => I1 (45 + 1 + i) f) = fun i => I1 (45 + 1 + i) f := rfl
            have hcur : ∀ i, i < 5 → I1 (45 + 1 + i) f = I (45 + 1 + i) f := fun i hi => by rw [hM f (by omega) i hi, if_neg (by omega)]
            have c0 := hcur 0 (by decide)
            have c2 := hcur 2 (by decide)
            first
              | (refine ih (f + 1) _ (by omega) (by omega) (fun g hg i hi => ?_) hO
                 rw [hM g hg i hi]
                 by_cases e : g = f
                 · subst e
                   rw [if_neg (by omega), if_pos (by omega), show hrF false (a_ g) p_ (fun i => I (45 + 1 + i) g) = _ from if_neg (fun q => q.2.1 hb17)]
                 · by_cases e2 : g < f
                   · rw [if_pos e2, if_pos (by omega)]
                   · rw [if_neg e2, if_neg (by omega)])
              | (refine ih (f + 1) _ (by omega) (by omega) (fun g hg i hi => ?_) hO
                 rw [hM g hg i hi]
                 by_cases e : g = f
                 · subst e
                   have hal : alw (a_ g) p_ (fun i => I (45 + 1 + i) g) = false := (alw_cong c0.symm c2.symm).trans hb31
                   rw [if_neg (by omega), if_pos (by omega), show hrF false (a_ g) p_ (fun i => I (45 + 1 + i) g) = _ from if_neg (fun q => by rw [hal] at q; exact absurd q.2.2 (by decide))]
                 · by_cases e2 : g < f
                   · rw [if_pos e2, if_pos (by omega)]
                   · rw [if_neg e2, if_neg (by omega)])
              | (refine ih (f + 1) _ (by omega) (by omega) (fun g hg i hi => ?_) (hO.trans h40.1)
                 rw [h40.2 i hi g]
                 by_cases e : g = f
                 · subst e
                   have hal : alw (a_ g) p_ (fun i => I (45 + 1 + i) g) = true := (alw_cong c0.symm c2.symm).trans hb31
                   rw [if_pos rfl, if_pos (by omega), show hrF false (a_ g) p_ (fun i => I (45 + 1 + i) g) = _ from if_pos ⟨rfl, hb17, hal⟩]
                   exact app_cong (fun j hj => hcur j hj) i hi
                 · rw [if_neg e, hM g hg i hi]
                   by_cases e2 : g < f
                   · rw [if_pos e2, if_pos (by omega)]
                   · rw [if_neg e2, if_neg (by omega)])
          · simp (disch := omega) only [nI_leI, nI_ltI, nI_eq, nI_eq0] at hb17
            refine r_aload_n C 0 (dk oX2_hear 13 rfl) rfl ?_
            refine r_iload_n C 3 (dk oX2_hear 14 rfl) rfl ?_
            refine r_aload_n C 1 (dk oX2_hear 15 rfl) rfl ?_
            refine r_iload_n C 3 (dk oX2_hear 16 rfl) rfl ?_
            refine r_iald C _ (dk oX2_hear 17 rfl) (shA_act p_ hp).1 (by omega) rfl (by omega) (by decide) ?_
            rw [hrow, haf.1]
            refine r_iload_n C 2 (dk oX2_hear 18 rfl) rfl ?_
            refine r_iconst C (dk oX2_hear 19 rfl) (v := nI 2) (by decide) ?_
            refine r_irem C (dk oX2_hear 20 rfl) (by decide) ?_
            rw [mod2 (by omega)]
            refine r_ivi C Z (dk oX2_hear 21 rfl) cl_X2_62 ci_X2_allow rfl (kn hn rfl) (c45_X2_allow hn I1 J f (a_ f) p_ (by omega) (by omega)) rfl rfl (Nat.le_of_ble_eq_true rfl) ⟨Nat.le_of_ble_eq_true rfl, Nat.le_of_ble_eq_true rfl⟩ ⟨Nat.zero_le _, Nat.zero_le _⟩ (fun r28 I28 J28 h28 => ?_)
            obtain ⟨h28, e1_, e2_⟩ := h28
            have e1_ := e1_.symm
            have e2_ := e2_.symm
            subst e1_
            subst e2_
            subst h28
            refine r_if_eq (tgt := 43) C (dk oX2_hear 22 rfl) (by decide) (fun hb31 => ?_) (fun hb31 => ?_)
            · rw [b32_0] at hb31
              refine r_iinc (lo' := [(3, _), (0, _), (1, _), (2, _)]) C 3 (dk oX2_hear 30 rfl) rfl (by first | exact nI_inc _ | rfl) (by decide) rfl ?_
              refine r_goto (tgt := 2) C (dk oX2_hear 31 rfl) (by decide) ?_
              refine V.sub [1, 2, 3, 0] rfl ?_
              have hsame : (fun i => I1 (45 + 1 + i) f) = fun i => I1 (45 + 1 + i) f := rfl
              have hcur : ∀ i, i < 5 → I1 (45 + 1 + i) f = I (45 + 1 + i) f := fun i hi => by rw [hM f (by omega) i hi, if_neg (by omega)]
              have c0 := hcur 0 (by decide)
              have c2 := hcur 2 (by decide)
              first
                | (refine ih (f + 1) _ (by omega) (by omega) (fun g hg i hi => ?_) hO
                   rw [hM g hg i hi]
                   by_cases e : g = f
                   · subst e
                     rw [if_neg (by omega), if_pos (by omega), show hrF false (a_ g) p_ (fun i => I (45 + 1 + i) g) = _ from if_neg (fun q => q.2.1 hb17)]
                   · by_cases e2 : g < f
                     · rw [if_pos e2, if_pos (by omega)]
                     · rw [if_neg e2, if_neg (by omega)])
                | (refine ih (f + 1) _ (by omega) (by omega) (fun g hg i hi => ?_) hO
                   rw [hM g hg i hi]
                   by_cases e : g = f
                   · subst e
                     have hal : alw (a_ g) p_ (fun i => I (45 + 1 + i) g) = false := (alw_cong c0.symm c2.symm).trans hb31
                     rw [if_neg (by omega), if_pos (by omega), show hrF false (a_ g) p_ (fun i => I (45 + 1 + i) g) = _ from if_neg (fun q => by rw [hal] at q; exact absurd q.2.2 (by decide))]
                   · by_cases e2 : g < f
                     · rw [if_pos e2, if_pos (by omega)]
                     · rw [if_neg e2, if_neg (by omega)])
                | (refine ih (f + 1) _ (by omega) (by omega) (fun g hg i hi => ?_) (hO.trans h40.1)
                   rw [h40.2 i hi g]
                   by_cases e : g = f
                   · subst e
                     have hal : alw (a_ g) p_ (fun i => I (45 + 1 + i) g) = true := (alw_cong c0.symm c2.symm).trans hb31
                     rw [if_pos rfl, if_pos (by omega), show hrF false (a_ g) p_ (fun i => I (45 + 1 + i) g) = _ from if_pos ⟨rfl, hb17, hal⟩]
                     exact app_cong (fun j hj => hcur j hj) i hi
                   · rw [if_neg e, hM g hg i hi]
                     by_cases e2 : g < f
                     · rw [if_pos e2, if_pos (by omega)]
                     · rw [if_neg e2, if_neg (by omega)])
            · rw [b32_n] at hb31
              refine r_aload_n C 0 (dk oX2_hear 23 rfl) rfl ?_
              refine r_iload_n C 3 (dk oX2_hear 24 rfl) rfl ?_
              refine r_aload_n C 1 (dk oX2_hear 25 rfl) rfl ?_
              refine r_iload_n C 3 (dk oX2_hear 26 rfl) rfl ?_
              refine r_iald C _ (dk oX2_hear 27 rfl) (shA_act p_ hp).1 (by omega) rfl (by omega) (by decide) ?_
              rw [hrow, haf.1]
              refine r_iload_n C 2 (dk oX2_hear 28 rfl) rfl ?_
              refine r_ivv C Z (dk oX2_hear 29 rfl) cl_X2_66 ci_X2_apply rfl (kn hn rfl) (c45_X2_apply hn I1 J f (a_ f) p_ (by omega) hp (by omega)) rfl rfl (Nat.le_of_ble_eq_true rfl) ⟨Nat.le_of_ble_eq_true rfl, Nat.le_of_ble_eq_true rfl⟩ ⟨Nat.zero_le _, Nat.zero_le _⟩ (fun I40 J40 h40 => ?_)
              obtain ⟨h40, e2_⟩ := h40
              have e2_ := e2_.symm
              subst e2_
              refine r_iinc (lo' := [(3, _), (0, _), (1, _), (2, _)]) C 3 (dk oX2_hear 30 rfl) rfl (by first | exact nI_inc _ | rfl) (by decide) rfl ?_
              refine r_goto (tgt := 2) C (dk oX2_hear 31 rfl) (by decide) ?_
              refine V.sub [1, 2, 3, 0] rfl ?_
              have hsame : (fun i => I1 (45 + 1 + i) f) = fun i => I1 (45 + 1 + i) f := rfl
              have hcur : ∀ i, i < 5 → I1 (45 + 1 + i) f = I (45 + 1 + i) f := fun i hi => by rw [hM f (by omega) i hi, if_neg (by omega)]
              have c0 := hcur 0 (by decide)
              have c2 := hcur 2 (by decide)
              first
                | (refine ih (f + 1) _ (by omega) (by omega) (fun g hg i hi => ?_) hO
                   rw [hM g hg i hi]
                   by_cases e : g = f
                   · subst e
                     rw [if_neg (by omega), if_pos (by omega), show hrF false (a_ g) p_ (fun i => I (45 + 1 + i) g) = _ from if_neg (fun q => q.2.1 hb17)]
                   · by_cases e2 : g < f
                     · rw [if_pos e2, if_pos (by omega)]
                     · rw [if_neg e2, if_neg (by omega)])
                | (refine ih (f + 1) _ (by omega) (by omega) (fun g hg i hi => ?_) hO
                   rw [hM g hg i hi]
                   by_cases e : g = f
                   · subst e
                     have hal : alw (a_ g) p_ (fun i => I (45 + 1 + i) g) = false := (alw_cong c0.symm c2.symm).trans hb31
                     rw [if_neg (by omega), if_pos (by omega), show hrF false (a_ g) p_ (fun i => I (45 + 1 + i) g) = _ from if_neg (fun q => by rw [hal] at q; exact absurd q.2.2 (by decide))]
                   · by_cases e2 : g < f
                     · rw [if_pos e2, if_pos (by omega)]
                     · rw [if_neg e2, if_neg (by omega)])
                | (refine ih (f + 1) _ (by omega) (by omega) (fun g hg i hi => ?_) (hO.trans h40.1)
                   rw [h40.2 i hi g]
                   by_cases e : g = f
                   · subst e
                     have hal : alw (a_ g) p_ (fun i => I (45 + 1 + i) g) = true := (alw_cong c0.symm c2.symm).trans hb31
                     rw [if_pos rfl, if_pos (by omega), show hrF false (a_ g) p_ (fun i => I (45 + 1 + i) g) = _ from if_pos ⟨rfl, hb17, hal⟩]
                     exact app_cong (fun j hj => hcur j hj) i hi
                   · rw [if_neg e, hM g hg i hi]
                     by_cases e2 : g < f
                     · rw [if_pos e2, if_pos (by omega)]
                     · rw [if_neg e2, if_neg (by omega)])
  refine V.sub [1, 2, 3, 0] rfl ?_
  exact L2 13 0 I (by omega) (by omega) (fun g hg i hi => by rw [if_neg (by omega)]) (fcO.rf _ _)

set_option maxHeartbeats 1000000 in
set_option maxRecDepth 100000 in
theorem c45_X2_admitSilently (hn : 117 ≤ n) (I : MI) (J : MJ) (p_ : Nat) (hp : p_ < 10) : Ci l n ad cA D z 1 yX2_admitSilently cX2_admitSilently 4 .int I J [.ref (ad 45), .int (nI p_)] (fun r I' J' => r = nI (bS (fun f => adB p_ (fun i => I (45 + 1 + i) f)) 12) ∧ fcO I I' 45 ∧ (∀ g, g < 12 → ∀ i, i < 5 → I' (45 + 1 + i) g = admF p_ (fun i => I (45 + 1 + i) g) i) ∧ J' = J) := by
  refine Ci.of (by decide) (Nat.le_of_ble_eq_true rfl) ?_
  intro p e s m args below meth c A C hin Z Q hret
  refine r_iconst C (dk oX2_admitSilently 0 rfl) (v := nI 0) (by decide) ?_
  refine r_istore_n (lo' := [(2, _), (0, _), (1, _)]) C (dk oX2_admitSilently 1 rfl) rfl (by decide) rfl ?_
  refine r_iconst C (dk oX2_admitSilently 2 rfl) (v := nI 0) (by decide) ?_
  refine r_istore_n (lo' := [(3, _), (2, _), (0, _), (1, _)]) C (dk oX2_admitSilently 3 rfl) rfl (by decide) rfl ?_
  have L4 : ∀ (d_ : Nat) (f : Nat) (I1 : MI), 12 - f < d_ → f ≤ 12 → (∀ g, g < 12 → ∀ i, i < 5 → I1 (45 + 1 + i) g = if g < f then admF p_ (fun i => I (45 + 1 + i) g) i else I (45 + 1 + i) g) → fcO I I1 45 → V p l e (rmL 1) s m args below meth c Q D A 4 0 0 n ad (mE cA ad I1 J) 4 [(0, .ref (ad 45)), (1, .int (nI p_)), (2, .int (nI (bS (fun f => adB p_ (fun i => I (45 + 1 + i) f)) f))), (3, .int (nI f))] [] := by
    intro d_
    induction d_ with
    | zero => intros; exact absurd (by assumption) (Nat.not_lt_zero _)
    | succ d_ ih => 
      intro f I1 hd_ hf hM hO
      refine r_iload_n C 3 (dk oX2_admitSilently 4 rfl) rfl ?_
      refine r_bipush C (dk oX2_admitSilently 5 rfl) (v := nI 12) (by decide) ?_
      refine r_icmp_ge (tgt := 40) C (dk oX2_admitSilently 6 rfl) (by decide) (fun hb7 => ?_) (fun hb7 => ?_)
      · simp (disch := omega) only [nI_leI, nI_ltI, nI_eq, nI_eq0] at hb7
        refine r_iload_n C 2 (dk oX2_admitSilently 27 rfl) rfl ?_
        refine hret (dk oX2_admitSilently 28 rfl) rfl ?_
        exact ⟨by rw [show f = 12 by omega], hO, fun g hg i hi => by rw [hM g hg i hi, if_pos (by omega)], rfl⟩
      · simp (disch := omega) only [nI_leI, nI_ltI, nI_eq, nI_eq0] at hb7
        refine r_aload_n C 0 (dk oX2_admitSilently 7 rfl) rfl ?_
        refine r_iload_n C 3 (dk oX2_admitSilently 8 rfl) rfl ?_
        refine r_iload_n C 1 (dk oX2_admitSilently 9 rfl) rfl ?_
        refine r_iconst C (dk oX2_admitSilently 10 rfl) (v := nI 2) (by decide) ?_
        refine r_irem C (dk oX2_admitSilently 11 rfl) (by decide) ?_
        rw [mod2 (by omega)]
        refine r_ivi C Z (dk oX2_admitSilently 12 rfl) cl_X2_70 ci_X2_awaitsAnswerOf rfl (kn hn rfl) (c45_X2_awaitsAnswerOf hn I1 J f (p_ % 2) (by omega) (by omega)) rfl rfl (Nat.le_of_ble_eq_true rfl) ⟨Nat.le_of_ble_eq_true rfl, Nat.le_of_ble_eq_true rfl⟩ ⟨Nat.zero_le _, Nat.zero_le _⟩ (fun r15 I15 J15 h15 => ?_)
        obtain ⟨h15, e1_, e2_⟩ := h15
        have e1_ := e1_.symm
        have e2_ := e2_.symm
        subst e1_
        subst e2_
        subst h15
        refine r_if_eq (tgt := 34) C (dk oX2_admitSilently 13 rfl) (by decide) (fun hb18 => ?_) (fun hb18 => ?_)
        · rw [b32_0] at hb18
          refine r_iinc (lo' := [(3, _), (0, _), (1, _), (2, _)]) C 3 (dk oX2_admitSilently 25 rfl) rfl (by first | exact nI_inc _ | rfl) (by decide) rfl ?_
          refine r_goto (tgt := 4) C (dk oX2_admitSilently 26 rfl) (by decide) ?_
          refine V.sub [1, 2, 3, 0] rfl ?_
          have hcur : ∀ i, i < 5 → I1 (45 + 1 + i) f = I (45 + 1 + i) f := fun i hi => by rw [hM f (by omega) i hi, if_neg (by omega)]
          have c0 := hcur 0 (by decide)
          have c2 := hcur 2 (by decide)
          have had : adB p_ (fun i => I (45 + 1 + i) f) = decide (I1 46 f = nI 1 ∧ I1 48 f = nI (1 - p_ % 2)) := adB_cong (ψ := fun i => I1 (45 + 1 + i) f) c0.symm c2.symm
          rw [← had] at hb18
          have eB : bS (fun f => adB p_ (fun i => I (45 + 1 + i) f)) (f + 1) = if adB p_ (fun i => I (45 + 1 + i) f) = true then bS (fun f => adB p_ (fun i => I (45 + 1 + i) f)) f ||| 2 ^ f else bS (fun f => adB p_ (fun i => I (45 + 1 + i) f)) f := rfl
          first
            | (have hR := ih (f + 1) I1 (by omega) (by omega) (fun g hg i hi => by
                 rw [hM g hg i hi]
                 by_cases e : g = f
                 · subst e
                   rw [if_neg (by omega), if_pos (by omega), show admF p_ (fun i => I (45 + 1 + i) g) = _ from if_neg (by rw [hb18]; decide)]
                 · by_cases e2 : g < f
                   · rw [if_pos e2, if_pos (by omega)]
                   · rw [if_neg e2, if_neg (by omega)]) hO
               rw [eB, if_neg (by rw [hb18]; decide)] at hR
               exact hR)
            | (have hR := ih (f + 1) I25 (by omega) (by omega) (fun g hg i hi => by
                 rw [h25.2 i hi g]
                 by_cases e : g = f
                 · subst e
                   rw [if_pos rfl, if_pos (by omega), show admF p_ (fun i => I (45 + 1 + i) g) = _ from if_pos hb18]
                   exact ans_cong (fun j hj => hcur j hj) i hi
                 · rw [if_neg e, hM g hg i hi]
                   by_cases e2 : g < f
                   · rw [if_pos e2, if_pos (by omega)]
                   · rw [if_neg e2, if_neg (by omega)]) (hO.trans h25.1)
               rw [eB, if_pos hb18] at hR
               exact hR)
        · rw [b32_n] at hb18
          refine r_aload_n C 0 (dk oX2_admitSilently 14 rfl) rfl ?_
          refine r_iload_n C 3 (dk oX2_admitSilently 15 rfl) rfl ?_
          refine r_iconst C (dk oX2_admitSilently 16 rfl) (v := nI 2) (by decide) ?_
          refine r_iload_n C 1 (dk oX2_admitSilently 17 rfl) rfl ?_
          refine r_ivv C Z (dk oX2_admitSilently 18 rfl) cl_X2_73 ci_X2_answer rfl (kn hn rfl) (c45_X2_answer hn I1 J f 2 p_ (by omega)) rfl rfl (Nat.le_of_ble_eq_true rfl) ⟨Nat.le_of_ble_eq_true rfl, Nat.le_of_ble_eq_true rfl⟩ ⟨Nat.zero_le _, Nat.zero_le _⟩ (fun I25 J25 h25 => ?_)
          obtain ⟨h25, e2_⟩ := h25
          have e2_ := e2_.symm
          subst e2_
          refine r_iload_n C 2 (dk oX2_admitSilently 19 rfl) rfl ?_
          refine r_iconst C (dk oX2_admitSilently 20 rfl) (v := nI 1) (by decide) ?_
          refine r_iload_n C 3 (dk oX2_admitSilently 21 rfl) rfl ?_
          refine r_ishl C (dk oX2_admitSilently 22 rfl) ?_
          refine r_ior C (dk oX2_admitSilently 23 rfl) ?_
          rw [or_bit (by omega)]
          refine r_istore_n (lo' := [(2, _), (0, _), (1, _), (3, _)]) C (dk oX2_admitSilently 24 rfl) rfl (by decide) rfl ?_
          refine r_iinc (lo' := [(3, _), (2, _), (0, _), (1, _)]) C 3 (dk oX2_admitSilently 25 rfl) rfl (by first | exact nI_inc _ | rfl) (by decide) rfl ?_
          refine r_goto (tgt := 4) C (dk oX2_admitSilently 26 rfl) (by decide) ?_
          refine V.sub [2, 3, 1, 0] rfl ?_
          have hcur : ∀ i, i < 5 → I1 (45 + 1 + i) f = I (45 + 1 + i) f := fun i hi => by rw [hM f (by omega) i hi, if_neg (by omega)]
          have c0 := hcur 0 (by decide)
          have c2 := hcur 2 (by decide)
          have had : adB p_ (fun i => I (45 + 1 + i) f) = decide (I1 46 f = nI 1 ∧ I1 48 f = nI (1 - p_ % 2)) := adB_cong (ψ := fun i => I1 (45 + 1 + i) f) c0.symm c2.symm
          rw [← had] at hb18
          have eB : bS (fun f => adB p_ (fun i => I (45 + 1 + i) f)) (f + 1) = if adB p_ (fun i => I (45 + 1 + i) f) = true then bS (fun f => adB p_ (fun i => I (45 + 1 + i) f)) f ||| 2 ^ f else bS (fun f => adB p_ (fun i => I (45 + 1 + i) f)) f := rfl
          first
            | (have hR := ih (f + 1) I1 (by omega) (by omega) (fun g hg i hi => by
                 rw [hM g hg i hi]
                 by_cases e : g = f
                 · subst e
                   rw [if_neg (by omega), if_pos (by omega), show admF p_ (fun i => I (45 + 1 + i) g) = _ from if_neg (by rw [hb18]; decide)]
                 · by_cases e2 : g < f
                   · rw [if_pos e2, if_pos (by omega)]
                   · rw [if_neg e2, if_neg (by omega)]) hO
               rw [eB, if_neg (by rw [hb18]; decide)] at hR
               exact hR)
            | (have hR := ih (f + 1) I25 (by omega) (by omega) (fun g hg i hi => by
                 rw [h25.2 i hi g]
                 by_cases e : g = f
                 · subst e
                   rw [if_pos rfl, if_pos (by omega), show admF p_ (fun i => I (45 + 1 + i) g) = _ from if_pos hb18]
                   exact ans_cong (fun j hj => hcur j hj) i hi
                 · rw [if_neg e, hM g hg i hi]
                   by_cases e2 : g < f
                   · rw [if_pos e2, if_pos (by omega)]
                   · rw [if_neg e2, if_neg (by omega)]) (hO.trans h25.1)
               rw [eB, if_pos hb18] at hR
               exact hR)
  refine V.sub [2, 3, 1, 0] rfl ?_
  exact L4 13 0 I (by omega) (by omega) (fun g hg i hi => by rw [if_neg (by omega)]) (fcO.rf _ _)

set_option maxHeartbeats 1000000 in
set_option maxRecDepth 100000 in
theorem c45_X2_sumUp (hn : 117 ≤ n) (I : MI) (J : MJ) (Φ : Nat → FS) (hM : FcM I 45 Φ) : Cv l n ad cA D z 0 yX2_sumUp cX2_sumUp 2 I J [.ref (ad 45)] (fun I' J' => Fc I' 45 Φ ∧ (∀ k, k ≠ 45 → I' k = I k) ∧ J' = J) := by
  refine Cv.of (by decide) (Nat.le_of_ble_eq_true rfl) ?_
  intro p e s m args below meth c A C hin Z Q hret
  refine r_aload_n C 0 (dk oX2_sumUp 0 rfl) rfl ?_
  refine r_iconst C (dk oX2_sumUp 1 rfl) (v := nI 0) (by decide) ?_
  refine r_putI C (dk oX2_sumUp 2 rfl) fl_X2_76 ft_2_6 rfl (kn hn rfl) ?_
  refine r_aload_n C 0 (dk oX2_sumUp 3 rfl) rfl ?_
  refine r_iconst C (dk oX2_sumUp 4 rfl) (v := nI 0) (by decide) ?_
  refine r_putI C (dk oX2_sumUp 5 rfl) fl_X2_79 ft_2_7 rfl (kn hn rfl) ?_
  refine r_aload_n C 0 (dk oX2_sumUp 6 rfl) rfl ?_
  refine r_iconst C (dk oX2_sumUp 7 rfl) (v := nI 0) (by decide) ?_
  refine r_putI C (dk oX2_sumUp 8 rfl) fl_X2_82 ft_2_8 rfl (kn hn rfl) ?_
  generalize hI0 : up2 (up2 (up2 I 45 6 (nI 0)) 45 7 (nI 0)) 45 8 (nI 0) = I0
  refine r_iconst C (dk oX2_sumUp 9 rfl) (v := nI 0) (by decide) ?_
  refine r_istore_n (lo' := [(1, _), (0, _)]) C (dk oX2_sumUp 10 rfl) rfl (by decide) rfl ?_
  have L17 : ∀ (d_ : Nat) (f : Nat) (I1 : MI), 12 - f < d_ → f ≤ 12 → I1 45 6 = nI (bS (fun f => opB (Φ f)) f) → I1 45 7 = nI (bS (fun f => onB (Φ f)) f) → I1 45 8 = nI (bS (fun f => asB (Φ f)) f) → (∀ k, k ≠ 45 → I1 k = I k) → V p l e (rmL 0) s m args below meth c Q D A 2 0 0 n ad (mE cA ad I1 J) 17 [(0, .ref (ad 45)), (1, .int (nI f))] [] := by
    intro d_
    induction d_ with
    | zero => intros; exact absurd (by assumption) (Nat.not_lt_zero _)
    | succ d_ ih => 
      intro f I1 hd_ hf h6 h7 h8 hO
      refine r_iload_n C 1 (dk oX2_sumUp 11 rfl) rfl ?_
      refine r_bipush C (dk oX2_sumUp 12 rfl) (v := nI 12) (by decide) ?_
      refine r_icmp_ge (tgt := 114) C (dk oX2_sumUp 13 rfl) (by decide) (fun hb20 => ?_) (fun hb20 => ?_)
      · simp (disch := omega) only [nI_leI, nI_ltI, nI_eq, nI_eq0] at hb20
        refine hret (dk oX2_sumUp 67 rfl) ?_
        have hf12 : f = 12 := by omega
        subst hf12
        exact ⟨⟨fun f hf i hi => (congrFun (hO (45 + 1 + i) (by omega)) f).trans (hM f hf i hi), h6, h7, h8⟩, hO, rfl⟩
      · simp (disch := omega) only [nI_leI, nI_ltI, nI_eq, nI_eq0] at hb20
        have hw0 : I1 46 f = Φ f 0 := (congrFun (hO 46 (by decide)) f).trans (hM f (by omega) 0 (by decide))
        have hw1 : I1 47 f = Φ f 1 := (congrFun (hO 47 (by decide)) f).trans (hM f (by omega) 1 (by decide))
        refine r_aload_n C 0 (dk oX2_sumUp 14 rfl) rfl ?_
        refine r_getR C (dk oX2_sumUp 15 rfl) fl_X2_9 rfl (kn hn rfl) ?_
        refine r_iload_n C 1 (dk oX2_sumUp 16 rfl) rfl ?_
        refine r_iald C _ (dk oX2_sumUp 17 rfl) rfl (kn hn rfl) rfl (by omega) (by decide) ?_
        rw [hw0]
        refine r_iconst C (dk oX2_sumUp 18 rfl) (v := nI 2) (by decide) ?_
        refine r_icmp_ne (tgt := 62) C (dk oX2_sumUp 19 rfl) (by decide) (fun hb30 => ?_) (fun hb30 => ?_)
        · refine r_aload_n C 0 (dk oX2_sumUp 37 rfl) rfl ?_
          refine r_getR C (dk oX2_sumUp 38 rfl) fl_X2_9 rfl (kn hn rfl) ?_
          refine r_iload_n C 1 (dk oX2_sumUp 39 rfl) rfl ?_
          refine r_iald C _ (dk oX2_sumUp 40 rfl) rfl (kn hn rfl) rfl (by omega) (by decide) ?_
          rw [hw0]
          refine r_if_eq (tgt := 108) C (dk oX2_sumUp 41 rfl) (by decide) (fun hb68 => ?_) (fun hb68 => ?_)
          · refine r_iinc (lo' := [(1, _), (0, _)]) C 1 (dk oX2_sumUp 65 rfl) rfl (by first | exact nI_inc _ | rfl) (by decide) rfl ?_
            refine r_goto (tgt := 17) C (dk oX2_sumUp 66 rfl) (by decide) ?_
            refine V.sub [1, 0] rfl ?_
            have q6 : bS (fun f => opB (Φ f)) (f + 1) = if opB (Φ f) = true then bS (fun f => opB (Φ f)) f ||| 2 ^ f else bS (fun f => opB (Φ f)) f := rfl
            have q7 : bS (fun f => onB (Φ f)) (f + 1) = if onB (Φ f) = true then bS (fun f => onB (Φ f)) f ||| 2 ^ f else bS (fun f => onB (Φ f)) f := rfl
            have q8 : bS (fun f => asB (Φ f)) (f + 1) = if asB (Φ f) = true then bS (fun f => asB (Φ f)) f ||| 2 ^ f else bS (fun f => asB (Φ f)) f := rfl
            have n20 : ¬ (nI 2 = nI 0) := by decide
            first
              | (have z6 : opB (Φ f) = false := decide_eq_false (fun q => q.2 hb30)
                 have z7 : onB (Φ f) = false := decide_eq_false (fun q => q.2.1 hb30)
                 have z8 : asB (Φ f) = true := decide_eq_true ⟨hb30, hb45⟩
                 exact ih (f + 1) _ (by omega) (by omega) (by rw [up2_off (by decide), h6, q6, z6]; rfl) (by rw [up2_off (by decide), h7, q7, z7]; rfl) (by rw [up2_at, q8, z8]; rfl) (fun k hk => by rw [up2_ne hk]; exact hO k hk))
              | (have z6 : opB (Φ f) = false := decide_eq_false (fun q => q.2 hb30)
                 have z7 : onB (Φ f) = false := decide_eq_false (fun q => q.2.1 hb30)
                 have z8 : asB (Φ f) = false := decide_eq_false (fun q => hb45 q.2)
                 exact ih (f + 1) _ (by omega) (by omega) (by rw [up2_off (by decide), h6, q6, z6]; rfl) (by rw [up2_off (by decide), h7, q7, z7]; rfl) (by rw [up2_at, q8, z8, Nat.or_zero]; rfl) (fun k hk => by rw [up2_ne hk]; exact hO k hk))
              | (have z6 : opB (Φ f) = false := decide_eq_false (fun q => q.1 hb68)
                 have z7 : onB (Φ f) = false := decide_eq_false (fun q => q.1 hb68)
                 have z8 : asB (Φ f) = false := decide_eq_false (fun q => hb30 q.1)
                 exact ih (f + 1) _ (by omega) (by omega) (by rw [h6, q6, z6]; rfl) (by rw [h7, q7, z7]; rfl) (by rw [h8, q8, z8]; rfl) hO)
              | (have z6 : opB (Φ f) = true := decide_eq_true ⟨hb68, hb30⟩
                 have z7 : onB (Φ f) = true := decide_eq_true ⟨hb68, hb30, hb94⟩
                 have z8 : asB (Φ f) = false := decide_eq_false (fun q => hb30 q.1)
                 exact ih (f + 1) _ (by omega) (by omega) (by rw [up2_off (by decide), up2_at, q6, z6]; rfl) (by rw [up2_at, q7, z7]; rfl) (by rw [up2_off (by decide), up2_off (by decide), h8, q8, z8]; rfl) (fun k hk => by rw [up2_ne hk, up2_ne hk]; exact hO k hk))
              | (have z6 : opB (Φ f) = true := decide_eq_true ⟨hb68, hb30⟩
                 have z7 : onB (Φ f) = false := decide_eq_false (fun q => hb94 q.2.2)
                 have z8 : asB (Φ f) = false := decide_eq_false (fun q => hb30 q.1)
                 exact ih (f + 1) _ (by omega) (by omega) (by rw [up2_off (by decide), up2_at, q6, z6]; rfl) (by rw [up2_at, q7, z7, Nat.or_zero]; rfl) (by rw [up2_off (by decide), up2_off (by decide), h8, q8, z8]; rfl) (fun k hk => by rw [up2_ne hk, up2_ne hk]; exact hO k hk))
          · refine r_aload_n C 0 (dk oX2_sumUp 42 rfl) rfl ?_
            refine r_dup C (dk oX2_sumUp 43 rfl) rfl ?_
            refine r_getI C (dk oX2_sumUp 44 rfl) fl_X2_76 rfl (kn hn rfl) ?_
            rw [h6]
            refine r_iconst C (dk oX2_sumUp 45 rfl) (v := nI 1) (by decide) ?_
            refine r_iload_n C 1 (dk oX2_sumUp 46 rfl) rfl ?_
            refine r_ishl C (dk oX2_sumUp 47 rfl) ?_
            refine r_ior C (dk oX2_sumUp 48 rfl) ?_
            rw [or_bit (by omega)]
            refine r_putI C (dk oX2_sumUp 49 rfl) fl_X2_76 ft_2_6 rfl (kn hn rfl) ?_
            refine r_aload_n C 0 (dk oX2_sumUp 50 rfl) rfl ?_
            refine r_dup C (dk oX2_sumUp 51 rfl) rfl ?_
            refine r_getI C (dk oX2_sumUp 52 rfl) fl_X2_79 rfl (kn hn rfl) ?_
            rw [up2_off (by decide), h7]
            refine r_aload_n C 0 (dk oX2_sumUp 53 rfl) rfl ?_
            refine r_getR C (dk oX2_sumUp 54 rfl) fl_X2_15 rfl (kn hn rfl) ?_
            refine r_iload_n C 1 (dk oX2_sumUp 55 rfl) rfl ?_
            refine r_iald C _ (dk oX2_sumUp 56 rfl) rfl (kn hn rfl) rfl (by omega) (by decide) ?_
            rw [up2_ne (by decide), hw1]
            refine r_if_ne (tgt := 103) C (dk oX2_sumUp 57 rfl) (by decide) (fun hb94 => ?_) (fun hb94 => ?_)
            · refine r_iconst C (dk oX2_sumUp 62 rfl) (v := nI 0) (by decide) ?_
              refine r_ior C (dk oX2_sumUp 63 rfl) ?_
              rw [fa_or]
              refine r_putI C (dk oX2_sumUp 64 rfl) fl_X2_79 ft_2_7 rfl (kn hn rfl) ?_
              refine r_iinc (lo' := [(1, _), (0, _)]) C 1 (dk oX2_sumUp 65 rfl) rfl (by first | exact nI_inc _ | rfl) (by decide) rfl ?_
              refine r_goto (tgt := 17) C (dk oX2_sumUp 66 rfl) (by decide) ?_
              refine V.sub [1, 0] rfl ?_
              have q6 : bS (fun f => opB (Φ f)) (f + 1) = if opB (Φ f) = true then bS (fun f => opB (Φ f)) f ||| 2 ^ f else bS (fun f => opB (Φ f)) f := rfl
              have q7 : bS (fun f => onB (Φ f)) (f + 1) = if onB (Φ f) = true then bS (fun f => onB (Φ f)) f ||| 2 ^ f else bS (fun f => onB (Φ f)) f := rfl
              have q8 : bS (fun f => asB (Φ f)) (f + 1) = if asB (Φ f) = true then bS (fun f => asB (Φ f)) f ||| 2 ^ f else bS (fun f => asB (Φ f)) f := rfl
              have n20 : ¬ (nI 2 = nI 0) := by decide
              first
                | (have z6 : opB (Φ f) = false := decide_eq_false (fun q => q.2 hb30)
                   have z7 : onB (Φ f) = false := decide_eq_false (fun q => q.2.1 hb30)
                   have z8 : asB (Φ f) = true := decide_eq_true ⟨hb30, hb45⟩
                   exact ih (f + 1) _ (by omega) (by omega) (by rw [up2_off (by decide), h6, q6, z6]; rfl) (by rw [up2_off (by decide), h7, q7, z7]; rfl) (by rw [up2_at, q8, z8]; rfl) (fun k hk => by rw [up2_ne hk]; exact hO k hk))
                | (have z6 : opB (Φ f) = false := decide_eq_false (fun q => q.2 hb30)
                   have z7 : onB (Φ f) = false := decide_eq_false (fun q => q.2.1 hb30)
                   have z8 : asB (Φ f) = false := decide_eq_false (fun q => hb45 q.2)
                   exact ih (f + 1) _ (by omega) (by omega) (by rw [up2_off (by decide), h6, q6, z6]; rfl) (by rw [up2_off (by decide), h7, q7, z7]; rfl) (by rw [up2_at, q8, z8, Nat.or_zero]; rfl) (fun k hk => by rw [up2_ne hk]; exact hO k hk))
                | (have z6 : opB (Φ f) = false := decide_eq_false (fun q => q.1 hb68)
                   have z7 : onB (Φ f) = false := decide_eq_false (fun q => q.1 hb68)
                   have z8 : asB (Φ f) = false := decide_eq_false (fun q => hb30 q.1)
                   exact ih (f + 1) _ (by omega) (by omega) (by rw [h6, q6, z6]; rfl) (by rw [h7, q7, z7]; rfl) (by rw [h8, q8, z8]; rfl) hO)
                | (have z6 : opB (Φ f) = true := decide_eq_true ⟨hb68, hb30⟩
                   have z7 : onB (Φ f) = true := decide_eq_true ⟨hb68, hb30, hb94⟩
                   have z8 : asB (Φ f) = false := decide_eq_false (fun q => hb30 q.1)
                   exact ih (f + 1) _ (by omega) (by omega) (by rw [up2_off (by decide), up2_at, q6, z6]; rfl) (by rw [up2_at, q7, z7]; rfl) (by rw [up2_off (by decide), up2_off (by decide), h8, q8, z8]; rfl) (fun k hk => by rw [up2_ne hk, up2_ne hk]; exact hO k hk))
                | (have z6 : opB (Φ f) = true := decide_eq_true ⟨hb68, hb30⟩
                   have z7 : onB (Φ f) = false := decide_eq_false (fun q => hb94 q.2.2)
                   have z8 : asB (Φ f) = false := decide_eq_false (fun q => hb30 q.1)
                   exact ih (f + 1) _ (by omega) (by omega) (by rw [up2_off (by decide), up2_at, q6, z6]; rfl) (by rw [up2_at, q7, z7, Nat.or_zero]; rfl) (by rw [up2_off (by decide), up2_off (by decide), h8, q8, z8]; rfl) (fun k hk => by rw [up2_ne hk, up2_ne hk]; exact hO k hk))
            · refine r_iconst C (dk oX2_sumUp 58 rfl) (v := nI 1) (by decide) ?_
              refine r_iload_n C 1 (dk oX2_sumUp 59 rfl) rfl ?_
              refine r_ishl C (dk oX2_sumUp 60 rfl) ?_
              rw [shl1 (by omega)]
              refine r_goto (tgt := 104) C (dk oX2_sumUp 61 rfl) (by decide) ?_
              refine r_ior C (dk oX2_sumUp 63 rfl) ?_
              rw [fa_or]
              refine r_putI C (dk oX2_sumUp 64 rfl) fl_X2_79 ft_2_7 rfl (kn hn rfl) ?_
              refine r_iinc (lo' := [(1, _), (0, _)]) C 1 (dk oX2_sumUp 65 rfl) rfl (by first | exact nI_inc _ | rfl) (by decide) rfl ?_
              refine r_goto (tgt := 17) C (dk oX2_sumUp 66 rfl) (by decide) ?_
              refine V.sub [1, 0] rfl ?_
              have q6 : bS (fun f => opB (Φ f)) (f + 1) = if opB (Φ f) = true then bS (fun f => opB (Φ f)) f ||| 2 ^ f else bS (fun f => opB (Φ f)) f := rfl
              have q7 : bS (fun f => onB (Φ f)) (f + 1) = if onB (Φ f) = true then bS (fun f => onB (Φ f)) f ||| 2 ^ f else bS (fun f => onB (Φ f)) f := rfl
              have q8 : bS (fun f => asB (Φ f)) (f + 1) = if asB (Φ f) = true then bS (fun f => asB (Φ f)) f ||| 2 ^ f else bS (fun f => asB (Φ f)) f := rfl
              have n20 : ¬ (nI 2 = nI 0) := by decide
              first
                | (have z6 : opB (Φ f) = false := decide_eq_false (fun q => q.2 hb30)
                   have z7 : onB (Φ f) = false := decide_eq_false (fun q => q.2.1 hb30)
                   have z8 : asB (Φ f) = true := decide_eq_true ⟨hb30, hb45⟩
                   exact ih (f + 1) _ (by omega) (by omega) (by rw [up2_off (by decide), h6, q6, z6]; rfl) (by rw [up2_off (by decide), h7, q7, z7]; rfl) (by rw [up2_at, q8, z8]; rfl) (fun k hk => by rw [up2_ne hk]; exact hO k hk))
                | (have z6 : opB (Φ f) = false := decide_eq_false (fun q => q.2 hb30)
                   have z7 : onB (Φ f) = false := decide_eq_false (fun q => q.2.1 hb30)
                   have z8 : asB (Φ f) = false := decide_eq_false (fun q => hb45 q.2)
                   exact ih (f + 1) _ (by omega) (by omega) (by rw [up2_off (by decide), h6, q6, z6]; rfl) (by rw [up2_off (by decide), h7, q7, z7]; rfl) (by rw [up2_at, q8, z8, Nat.or_zero]; rfl) (fun k hk => by rw [up2_ne hk]; exact hO k hk))
                | (have z6 : opB (Φ f) = false := decide_eq_false (fun q => q.1 hb68)
                   have z7 : onB (Φ f) = false := decide_eq_false (fun q => q.1 hb68)
                   have z8 : asB (Φ f) = false := decide_eq_false (fun q => hb30 q.1)
                   exact ih (f + 1) _ (by omega) (by omega) (by rw [h6, q6, z6]; rfl) (by rw [h7, q7, z7]; rfl) (by rw [h8, q8, z8]; rfl) hO)
                | (have z6 : opB (Φ f) = true := decide_eq_true ⟨hb68, hb30⟩
                   have z7 : onB (Φ f) = true := decide_eq_true ⟨hb68, hb30, hb94⟩
                   have z8 : asB (Φ f) = false := decide_eq_false (fun q => hb30 q.1)
                   exact ih (f + 1) _ (by omega) (by omega) (by rw [up2_off (by decide), up2_at, q6, z6]; rfl) (by rw [up2_at, q7, z7]; rfl) (by rw [up2_off (by decide), up2_off (by decide), h8, q8, z8]; rfl) (fun k hk => by rw [up2_ne hk, up2_ne hk]; exact hO k hk))
                | (have z6 : opB (Φ f) = true := decide_eq_true ⟨hb68, hb30⟩
                   have z7 : onB (Φ f) = false := decide_eq_false (fun q => hb94 q.2.2)
                   have z8 : asB (Φ f) = false := decide_eq_false (fun q => hb30 q.1)
                   exact ih (f + 1) _ (by omega) (by omega) (by rw [up2_off (by decide), up2_at, q6, z6]; rfl) (by rw [up2_at, q7, z7, Nat.or_zero]; rfl) (by rw [up2_off (by decide), up2_off (by decide), h8, q8, z8]; rfl) (fun k hk => by rw [up2_ne hk, up2_ne hk]; exact hO k hk))
        · refine r_aload_n C 0 (dk oX2_sumUp 20 rfl) rfl ?_
          refine r_dup C (dk oX2_sumUp 21 rfl) rfl ?_
          refine r_getI C (dk oX2_sumUp 22 rfl) fl_X2_82 rfl (kn hn rfl) ?_
          rw [h8]
          refine r_aload_n C 0 (dk oX2_sumUp 23 rfl) rfl ?_
          refine r_getR C (dk oX2_sumUp 24 rfl) fl_X2_15 rfl (kn hn rfl) ?_
          refine r_iload_n C 1 (dk oX2_sumUp 25 rfl) rfl ?_
          refine r_iald C _ (dk oX2_sumUp 26 rfl) rfl (kn hn rfl) rfl (by omega) (by decide) ?_
          rw [hw1]
          refine r_iconst C (dk oX2_sumUp 27 rfl) (v := nI 1) (by decide) ?_
          refine r_icmp_ne (tgt := 54) C (dk oX2_sumUp 28 rfl) (by decide) (fun hb45 => ?_) (fun hb45 => ?_)
          · refine r_iconst C (dk oX2_sumUp 33 rfl) (v := nI 0) (by decide) ?_
            refine r_ior C (dk oX2_sumUp 34 rfl) ?_
            rw [fa_or]
            refine r_putI C (dk oX2_sumUp 35 rfl) fl_X2_82 ft_2_8 rfl (kn hn rfl) ?_
            refine r_goto (tgt := 108) C (dk oX2_sumUp 36 rfl) (by decide) ?_
            refine r_iinc (lo' := [(1, _), (0, _)]) C 1 (dk oX2_sumUp 65 rfl) rfl (by first | exact nI_inc _ | rfl) (by decide) rfl ?_
            refine r_goto (tgt := 17) C (dk oX2_sumUp 66 rfl) (by decide) ?_
            refine V.sub [1, 0] rfl ?_
            have q6 : bS (fun f => opB (Φ f)) (f + 1) = if opB (Φ f) = true then bS (fun f => opB (Φ f)) f ||| 2 ^ f else bS (fun f => opB (Φ f)) f := rfl
            have q7 : bS (fun f => onB (Φ f)) (f + 1) = if onB (Φ f) = true then bS (fun f => onB (Φ f)) f ||| 2 ^ f else bS (fun f => onB (Φ f)) f := rfl
            have q8 : bS (fun f => asB (Φ f)) (f + 1) = if asB (Φ f) = true then bS (fun f => asB (Φ f)) f ||| 2 ^ f else bS (fun f => asB (Φ f)) f := rfl
            have n20 : ¬ (nI 2 = nI 0) := by decide
            first
              | (have z6 : opB (Φ f) = false := decide_eq_false (fun q => q.2 hb30)
                 have z7 : onB (Φ f) = false := decide_eq_false (fun q => q.2.1 hb30)
                 have z8 : asB (Φ f) = true := decide_eq_true ⟨hb30, hb45⟩
                 exact ih (f + 1) _ (by omega) (by omega) (by rw [up2_off (by decide), h6, q6, z6]; rfl) (by rw [up2_off (by decide), h7, q7, z7]; rfl) (by rw [up2_at, q8, z8]; rfl) (fun k hk => by rw [up2_ne hk]; exact hO k hk))
              | (have z6 : opB (Φ f) = false := decide_eq_false (fun q => q.2 hb30)
                 have z7 : onB (Φ f) = false := decide_eq_false (fun q => q.2.1 hb30)
                 have z8 : asB (Φ f) = false := decide_eq_false (fun q => hb45 q.2)
                 exact ih (f + 1) _ (by omega) (by omega) (by rw [up2_off (by decide), h6, q6, z6]; rfl) (by rw [up2_off (by decide), h7, q7, z7]; rfl) (by rw [up2_at, q8, z8, Nat.or_zero]; rfl) (fun k hk => by rw [up2_ne hk]; exact hO k hk))
              | (have z6 : opB (Φ f) = false := decide_eq_false (fun q => q.1 hb68)
                 have z7 : onB (Φ f) = false := decide_eq_false (fun q => q.1 hb68)
                 have z8 : asB (Φ f) = false := decide_eq_false (fun q => hb30 q.1)
                 exact ih (f + 1) _ (by omega) (by omega) (by rw [h6, q6, z6]; rfl) (by rw [h7, q7, z7]; rfl) (by rw [h8, q8, z8]; rfl) hO)
              | (have z6 : opB (Φ f) = true := decide_eq_true ⟨hb68, hb30⟩
                 have z7 : onB (Φ f) = true := decide_eq_true ⟨hb68, hb30, hb94⟩
                 have z8 : asB (Φ f) = false := decide_eq_false (fun q => hb30 q.1)
                 exact ih (f + 1) _ (by omega) (by omega) (by rw [up2_off (by decide), up2_at, q6, z6]; rfl) (by rw [up2_at, q7, z7]; rfl) (by rw [up2_off (by decide), up2_off (by decide), h8, q8, z8]; rfl) (fun k hk => by rw [up2_ne hk, up2_ne hk]; exact hO k hk))
              | (have z6 : opB (Φ f) = true := decide_eq_true ⟨hb68, hb30⟩
                 have z7 : onB (Φ f) = false := decide_eq_false (fun q => hb94 q.2.2)
                 have z8 : asB (Φ f) = false := decide_eq_false (fun q => hb30 q.1)
                 exact ih (f + 1) _ (by omega) (by omega) (by rw [up2_off (by decide), up2_at, q6, z6]; rfl) (by rw [up2_at, q7, z7, Nat.or_zero]; rfl) (by rw [up2_off (by decide), up2_off (by decide), h8, q8, z8]; rfl) (fun k hk => by rw [up2_ne hk, up2_ne hk]; exact hO k hk))
          · refine r_iconst C (dk oX2_sumUp 29 rfl) (v := nI 1) (by decide) ?_
            refine r_iload_n C 1 (dk oX2_sumUp 30 rfl) rfl ?_
            refine r_ishl C (dk oX2_sumUp 31 rfl) ?_
            rw [shl1 (by omega)]
            refine r_goto (tgt := 55) C (dk oX2_sumUp 32 rfl) (by decide) ?_
            refine r_ior C (dk oX2_sumUp 34 rfl) ?_
            rw [fa_or]
            refine r_putI C (dk oX2_sumUp 35 rfl) fl_X2_82 ft_2_8 rfl (kn hn rfl) ?_
            refine r_goto (tgt := 108) C (dk oX2_sumUp 36 rfl) (by decide) ?_
            refine r_iinc (lo' := [(1, _), (0, _)]) C 1 (dk oX2_sumUp 65 rfl) rfl (by first | exact nI_inc _ | rfl) (by decide) rfl ?_
            refine r_goto (tgt := 17) C (dk oX2_sumUp 66 rfl) (by decide) ?_
            refine V.sub [1, 0] rfl ?_
            have q6 : bS (fun f => opB (Φ f)) (f + 1) = if opB (Φ f) = true then bS (fun f => opB (Φ f)) f ||| 2 ^ f else bS (fun f => opB (Φ f)) f := rfl
            have q7 : bS (fun f => onB (Φ f)) (f + 1) = if onB (Φ f) = true then bS (fun f => onB (Φ f)) f ||| 2 ^ f else bS (fun f => onB (Φ f)) f := rfl
            have q8 : bS (fun f => asB (Φ f)) (f + 1) = if asB (Φ f) = true then bS (fun f => asB (Φ f)) f ||| 2 ^ f else bS (fun f => asB (Φ f)) f := rfl
            have n20 : ¬ (nI 2 = nI 0) := by decide
            first
              | (have z6 : opB (Φ f) = false := decide_eq_false (fun q => q.2 hb30)
                 have z7 : onB (Φ f) = false := decide_eq_false (fun q => q.2.1 hb30)
                 have z8 : asB (Φ f) = true := decide_eq_true ⟨hb30, hb45⟩
                 exact ih (f + 1) _ (by omega) (by omega) (by rw [up2_off (by decide), h6, q6, z6]; rfl) (by rw [up2_off (by decide), h7, q7, z7]; rfl) (by rw [up2_at, q8, z8]; rfl) (fun k hk => by rw [up2_ne hk]; exact hO k hk))
              | (have z6 : opB (Φ f) = false := decide_eq_false (fun q => q.2 hb30)
                 have z7 : onB (Φ f) = false := decide_eq_false (fun q => q.2.1 hb30)
                 have z8 : asB (Φ f) = false := decide_eq_false (fun q => hb45 q.2)
                 exact ih (f + 1) _ (by omega) (by omega) (by rw [up2_off (by decide), h6, q6, z6]; rfl) (by rw [up2_off (by decide), h7, q7, z7]; rfl) (by rw [up2_at, q8, z8, Nat.or_zero]; rfl) (fun k hk => by rw [up2_ne hk]; exact hO k hk))
              | (have z6 : opB (Φ f) = false := decide_eq_false (fun q => q.1 hb68)
                 have z7 : onB (Φ f) = false := decide_eq_false (fun q => q.1 hb68)
                 have z8 : asB (Φ f) = false := decide_eq_false (fun q => hb30 q.1)
                 exact ih (f + 1) _ (by omega) (by omega) (by rw [h6, q6, z6]; rfl) (by rw [h7, q7, z7]; rfl) (by rw [h8, q8, z8]; rfl) hO)
              | (have z6 : opB (Φ f) = true := decide_eq_true ⟨hb68, hb30⟩
                 have z7 : onB (Φ f) = true := decide_eq_true ⟨hb68, hb30, hb94⟩
                 have z8 : asB (Φ f) = false := decide_eq_false (fun q => hb30 q.1)
                 exact ih (f + 1) _ (by omega) (by omega) (by rw [up2_off (by decide), up2_at, q6, z6]; rfl) (by rw [up2_at, q7, z7]; rfl) (by rw [up2_off (by decide), up2_off (by decide), h8, q8, z8]; rfl) (fun k hk => by rw [up2_ne hk, up2_ne hk]; exact hO k hk))
              | (have z6 : opB (Φ f) = true := decide_eq_true ⟨hb68, hb30⟩
                 have z7 : onB (Φ f) = false := decide_eq_false (fun q => hb94 q.2.2)
                 have z8 : asB (Φ f) = false := decide_eq_false (fun q => hb30 q.1)
                 exact ih (f + 1) _ (by omega) (by omega) (by rw [up2_off (by decide), up2_at, q6, z6]; rfl) (by rw [up2_at, q7, z7, Nat.or_zero]; rfl) (by rw [up2_off (by decide), up2_off (by decide), h8, q8, z8]; rfl) (fun k hk => by rw [up2_ne hk, up2_ne hk]; exact hO k hk))
  refine V.sub [1, 0] rfl ?_
  exact L17 13 0 I0 (by omega) (by omega) (by rw [← hI0, up2_off (by decide), up2_off (by decide), up2_at]; rfl) (by rw [← hI0, up2_off (by decide), up2_at]; rfl) (by rw [← hI0, up2_at]; rfl) (fun k hk => by rw [← hI0, up2_ne hk, up2_ne hk, up2_ne hk])

set_option maxHeartbeats 1000000 in
set_option maxRecDepth 100000 in
theorem c45_X2_replay (hn : 117 ≤ n) (I : MI) (J : MJ) (np : Nat) (dy : Nat → Nat) (lt : Nat → Bool) (ac : Nat → Nat → Nat) (hP : CPap I 8 np dy lt ac) (x : Int32) : Cv l n ad cA D z 3 yX2_replay cX2_replay 4 I J [.ref (ad 45), .ref (ad 19), .int x] (fun I' J' => Fc I' 45 (fun f => stF ac (ltX lt x) f np) ∧ (∀ p, p < np → I' 51 p = nI (silF ac (ltX lt x) p)) ∧ faO I I' 45 ∧ J' = J) := by
  refine Cv.of (by decide) (Nat.le_of_ble_eq_true rfl) ?_
  intro p e s m args below meth c A C hin Z Q hret
  obtain ⟨p1, p2, p3⟩ := hP
  refine r_iconst C (dk oX2_replay 0 rfl) (v := nI 0) (by decide) ?_
  refine r_istore_n (lo' := [(3, _), (0, _), (1, _), (2, _)]) C (dk oX2_replay 1 rfl) rfl (by decide) rfl ?_
  have L2 : ∀ (d_ : Nat) (f : Nat) (I1 : MI), 12 - f < d_ → f ≤ 12 → (∀ g, g < f → ∀ i, i < 5 → I1 (45 + 1 + i) g = frS i) → faO I I1 45 → V p l e (rmL 3) s m args below meth c Q D A 4 0 0 n ad (mE cA ad I1 J) 2 [(0, .ref (ad 45)), (1, .ref (ad 19)), (2, .int x), (3, .int (nI f))] [] := by
    intro d_
    induction d_ with
    | zero => intros; exact absurd (by assumption) (Nat.not_lt_zero _)
    | succ d_ ih => 
      intro f I1 hd_ hf hM0 hO0
      refine r_iload_n C 3 (dk oX2_replay 2 rfl) rfl ?_
      refine r_bipush C (dk oX2_replay 3 rfl) (v := nI 12) (by decide) ?_
      refine r_icmp_ge (tgt := 19) C (dk oX2_replay 4 rfl) (by decide) (fun hb5 => ?_) (fun hb5 => ?_)
      · simp (disch := omega) only [nI_leI, nI_ltI, nI_eq, nI_eq0] at hb5
        have hf12 : f = 12 := by omega
        subst hf12
        refine r_iconst C (dk oX2_replay 10 rfl) (v := nI 0) (by decide) ?_
        refine r_istore_n (lo' := [(3, _), (0, _), (1, _), (2, _)]) C (dk oX2_replay 11 rfl) rfl (by decide) rfl ?_
        have L21 : ∀ (d_ : Nat) (p_ : Nat) (I2 : MI), np - p_ < d_ → p_ ≤ np → FcM I2 45 (fun f => stF ac (ltX lt x) f p_) → (∀ q, q < p_ → I2 51 q = nI (silF ac (ltX lt x) q)) → faO I I2 45 → V p l e (rmL 3) s m args below meth c Q D A 4 0 0 n ad (mE cA ad I2 J) 21 [(0, .ref (ad 45)), (1, .ref (ad 19)), (2, .int x), (3, .int (nI p_))] [] := by
          intro d_
          induction d_ with
          | zero => intros; exact absurd (by assumption) (Nat.not_lt_zero _)
          | succ d_ ih => 
            intro p_ I2 hd2 hp hM hS hO
            refine r_iload_n C 3 (dk oX2_replay 12 rfl) rfl ?_
            refine r_aload_n C 1 (dk oX2_replay 13 rfl) rfl ?_
            refine r_getI C (dk oX2_replay 14 rfl) fl_X2_34 rfl (kn hn rfl) ?_
            rw [hO 19 (Or.inl (by decide)), p2]
            refine r_icmp_ge (tgt := 79) C (dk oX2_replay 15 rfl) (by decide) (fun hb26 => ?_) (fun hb26 => ?_)
            · simp (disch := omega) only [nI_leI, nI_ltI, nI_eq, nI_eq0] at hb26
              have hpn : p_ = np := by omega
              refine r_aload_n C 0 (dk oX2_replay 43 rfl) rfl ?_
              refine r_ivv C Z (dk oX2_replay 44 rfl) cl_X2_59 ci_X2_sumUp rfl (kn hn rfl) (c45_X2_sumUp hn I2 J (fun f => stF ac (ltX lt x) f np) (by rw [hpn] at hM; exact hM)) rfl rfl (Nat.le_of_ble_eq_true rfl) ⟨Nat.le_of_ble_eq_true rfl, Nat.le_of_ble_eq_true rfl⟩ ⟨Nat.zero_le _, Nat.zero_le _⟩ (fun I80 J80 h80 => ?_)
              refine hret (dk oX2_replay 45 rfl) ?_
              obtain ⟨q1, q2, q3⟩ := h80
              exact ⟨q1, fun p hp => by rw [q2 51 (by decide)]; exact hS p (by omega), fun k hk => by rw [q2 k (by omega)]; exact hO k hk, q3⟩
            · simp (disch := omega) only [nI_leI, nI_ltI, nI_eq, nI_eq0] at hb26
              have hpp := p3 p_ (by omega)
              refine r_iload_n C 3 (dk oX2_replay 16 rfl) rfl ?_
              refine r_bipush C (dk oX2_replay 17 rfl) (v := nI 10) (by decide) ?_
              refine r_icmp_ge (tgt := 79) C (dk oX2_replay 18 rfl) (by decide) (fun hb32 => absurd hb32 (by rw [nI_leI (by omega) (by omega)]; omega)) (fun hb32 => ?_)
              refine r_aload_n C 1 (dk oX2_replay 19 rfl) rfl ?_
              refine r_getI C (dk oX2_replay 20 rfl) fl_X2_40 rfl (kn hn rfl) ?_
              obtain ⟨X_, hX1, hX2, hX3⟩ := hpp.2.2.1
              rw [hO 19 (Or.inl (by decide)), show I 19 1 = nI X_ from hX2]
              refine r_iload_n C 3 (dk oX2_replay 21 rfl) rfl ?_
              refine r_isi C Z (dk oX2_replay 22 rfl) cl_X2_43 st_X9_has (c_X9_has I2 J X_ p_ (by omega) (by omega)) rfl rfl (Nat.le_of_ble_eq_true rfl) ⟨Nat.le_of_ble_eq_true rfl, Nat.le_of_ble_eq_true rfl⟩ ⟨Nat.zero_le _, Nat.zero_le _⟩ (fun r40 I40 J40 h40 => ?_)
              obtain ⟨h40, e1_, e2_⟩ := h40
              have e1_ := e1_.symm
              have e2_ := e2_.symm
              subst e1_
              subst e2_
              subst h40
              rw [hX3]
              refine r_if_ne (tgt := 62) C (dk oX2_replay 23 rfl) (by decide) (fun hb43 => ?_) (fun hb43 => ?_)
              · have hl : ltX lt x p_ = true := by unfold ltX; rw [b32_n] at hb43; rw [hb43]; rfl
                have hX : FcM I2 45 (fun f => hrF (ltX lt x p_) (ac p_ f) p_ (stF ac (ltX lt x) f p_)) := hM.cong (fun f hf i hi => by rw [hl]; exact (congrFun (if_neg (fun q => absurd q.1 (by decide))) i).symm)
                obtain ⟨I3, hI3, hO3⟩ : ∃ X, X = I2 ∧ faO I X 45 := ⟨I2, rfl, hO⟩
                have hS3 : ∀ q, q < p_ → I3 51 q = nI (silF ac (ltX lt x) q) := by rw [hI3]; exact hS
                rw [← hI3] at hX ⊢
                refine r_aload_n C 0 (dk oX2_replay 34 rfl) rfl ?_
                refine r_getR C (dk oX2_replay 35 rfl) fl_X2_27 rfl (kn hn rfl) ?_
                refine r_iload_n C 3 (dk oX2_replay 36 rfl) rfl ?_
                refine r_aload_n C 0 (dk oX2_replay 37 rfl) rfl ?_
                refine r_iload_n C 3 (dk oX2_replay 38 rfl) rfl ?_
                refine r_ivi C Z (dk oX2_replay 39 rfl) cl_X2_55 ci_X2_admitSilently rfl (kn hn rfl) (c45_X2_admitSilently hn I3 J p_ (by omega)) rfl rfl (Nat.le_of_ble_eq_true rfl) ⟨Nat.le_of_ble_eq_true rfl, Nat.le_of_ble_eq_true rfl⟩ ⟨Nat.zero_le _, Nat.zero_le _⟩ (fun r69 I69 J69 h69 => ?_)
                obtain ⟨h69, h69a, h69b, e2_⟩ := h69
                have e2_ := e2_.symm
                subst e2_
                subst h69
                refine r_iast C _ (dk oX2_replay 40 rfl) rfl (kn hn rfl) rfl (by omega) (by decide) ?_
                refine r_iinc (lo' := [(3, _), (0, _), (1, _), (2, _)]) C 3 (dk oX2_replay 41 rfl) rfl (by first | exact nI_inc _ | rfl) (by decide) rfl ?_
                refine r_goto (tgt := 21) C (dk oX2_replay 42 rfl) (by decide) ?_
                refine V.sub [1, 2, 3, 0] rfl ?_
                refine ih (p_ + 1) _ (by omega) (by omega) (fun f hf i hi => ?_) (fun q hq => ?_) (fun k hk => ?_)
                · rw [up2_ne (by omega), h69b f hf i hi]
                  exact admF_cong (fun j hj => hX f hf j hj) i hi
                · by_cases e : q = p_
                  · subst e
                    rw [up2_at]
                    unfold silF
                    rw [bS_cong 12 (fun f hf => adB_cong (hX f hf 0 (by decide)) (hX f hf 2 (by decide)))]
                  · rw [up2_off e, h69a 51 (by omega)]
                    exact hS3 q (by omega)
                · rw [up2_ne (by omega), h69a k (by omega)]
                  exact hO3 k hk
              · rw [b32_0] at hb43
                refine r_iload_n C 3 (dk oX2_replay 24 rfl) rfl ?_
                refine r_iload_n C 2 (dk oX2_replay 25 rfl) rfl ?_
                refine r_icmp_eq (tgt := 62) C (dk oX2_replay 26 rfl) (by decide) (fun hb48 => ?_) (fun hb48 => ?_)
                · have hl : ltX lt x p_ = true := by unfold ltX; rw [decide_eq_true hb48, Bool.or_true]
                  have hX : FcM I2 45 (fun f => hrF (ltX lt x p_) (ac p_ f) p_ (stF ac (ltX lt x) f p_)) := hM.cong (fun f hf i hi => by rw [hl]; exact (congrFun (if_neg (fun q => absurd q.1 (by decide))) i).symm)
                  obtain ⟨I3, hI3, hO3⟩ : ∃ X, X = I2 ∧ faO I X 45 := ⟨I2, rfl, hO⟩
                  have hS3 : ∀ q, q < p_ → I3 51 q = nI (silF ac (ltX lt x) q) := by rw [hI3]; exact hS
                  rw [← hI3] at hX ⊢
                  refine r_aload_n C 0 (dk oX2_replay 34 rfl) rfl ?_
                  refine r_getR C (dk oX2_replay 35 rfl) fl_X2_27 rfl (kn hn rfl) ?_
                  refine r_iload_n C 3 (dk oX2_replay 36 rfl) rfl ?_
                  refine r_aload_n C 0 (dk oX2_replay 37 rfl) rfl ?_
                  refine r_iload_n C 3 (dk oX2_replay 38 rfl) rfl ?_
                  refine r_ivi C Z (dk oX2_replay 39 rfl) cl_X2_55 ci_X2_admitSilently rfl (kn hn rfl) (c45_X2_admitSilently hn I3 J p_ (by omega)) rfl rfl (Nat.le_of_ble_eq_true rfl) ⟨Nat.le_of_ble_eq_true rfl, Nat.le_of_ble_eq_true rfl⟩ ⟨Nat.zero_le _, Nat.zero_le _⟩ (fun r69 I69 J69 h69 => ?_)
                  obtain ⟨h69, h69a, h69b, e2_⟩ := h69
                  have e2_ := e2_.symm
                  subst e2_
                  subst h69
                  refine r_iast C _ (dk oX2_replay 40 rfl) rfl (kn hn rfl) rfl (by omega) (by decide) ?_
                  refine r_iinc (lo' := [(3, _), (0, _), (1, _), (2, _)]) C 3 (dk oX2_replay 41 rfl) rfl (by first | exact nI_inc _ | rfl) (by decide) rfl ?_
                  refine r_goto (tgt := 21) C (dk oX2_replay 42 rfl) (by decide) ?_
                  refine V.sub [1, 2, 3, 0] rfl ?_
                  refine ih (p_ + 1) _ (by omega) (by omega) (fun f hf i hi => ?_) (fun q hq => ?_) (fun k hk => ?_)
                  · rw [up2_ne (by omega), h69b f hf i hi]
                    exact admF_cong (fun j hj => hX f hf j hj) i hi
                  · by_cases e : q = p_
                    · subst e
                      rw [up2_at]
                      unfold silF
                      rw [bS_cong 12 (fun f hf => adB_cong (hX f hf 0 (by decide)) (hX f hf 2 (by decide)))]
                    · rw [up2_off e, h69a 51 (by omega)]
                      exact hS3 q (by omega)
                  · rw [up2_ne (by omega), h69a k (by omega)]
                    exact hO3 k hk
                · refine r_aload_n C 0 (dk oX2_replay 27 rfl) rfl ?_
                  refine r_aload_n C 1 (dk oX2_replay 28 rfl) rfl ?_
                  refine r_getR C (dk oX2_replay 29 rfl) fl_X2_47 rfl (kn hn rfl) ?_
                  refine r_iload_n C 3 (dk oX2_replay 30 rfl) rfl ?_
                  refine r_aald C _ (dk oX2_replay 31 rfl) rfl (by decide) (kn hn rfl) rfl (by omega) (by decide) ?_
                  rw [Nat.one_mul]
                  refine r_iload_n C 3 (dk oX2_replay 32 rfl) rfl ?_
                  refine r_ivv C Z (dk oX2_replay 33 rfl) cl_X2_51 ci_X2_hear rfl (kn hn rfl) (c45_X2_hear hn I2 J p_ (by omega) (ac p_) (fun f hf => by rw [hO (23 + p_) (Or.inl (by omega))]; exact hpp.2.2.2 f hf)) rfl rfl (Nat.le_of_ble_eq_true rfl) ⟨Nat.le_of_ble_eq_true rfl, Nat.le_of_ble_eq_true rfl⟩ ⟨Nat.zero_le _, Nat.zero_le _⟩ (fun I59 J59 h59 => ?_)
                  have hl : ltX lt x p_ = false := by unfold ltX; rw [hb43, decide_eq_false hb48]; rfl
                  obtain ⟨h59a, h59b, e2_⟩ := h59
                  have e2_ := e2_.symm
                  subst e2_
                  have hX : FcM I59 45 (fun f => hrF (ltX lt x p_) (ac p_ f) p_ (stF ac (ltX lt x) f p_)) := fun f hf i hi => by
                    rw [h59b f hf i hi, hl]
                    exact hrF_cong (fun j hj => hM f hf j hj) i hi
                  obtain ⟨I3, hI3, hO3⟩ : ∃ X, X = I59 ∧ faO I X 45 := ⟨I59, rfl, fun k hk => by rw [h59a k (by omega)]; exact hO k hk⟩
                  have hS3 : ∀ q, q < p_ → I3 51 q = nI (silF ac (ltX lt x) q) := by rw [hI3, h59a 51 (by omega)]; exact hS
                  rw [← hI3] at hX ⊢
                  refine r_aload_n C 0 (dk oX2_replay 34 rfl) rfl ?_
                  refine r_getR C (dk oX2_replay 35 rfl) fl_X2_27 rfl (kn hn rfl) ?_
                  refine r_iload_n C 3 (dk oX2_replay 36 rfl) rfl ?_
                  refine r_aload_n C 0 (dk oX2_replay 37 rfl) rfl ?_
                  refine r_iload_n C 3 (dk oX2_replay 38 rfl) rfl ?_
                  refine r_ivi C Z (dk oX2_replay 39 rfl) cl_X2_55 ci_X2_admitSilently rfl (kn hn rfl) (c45_X2_admitSilently hn I3 J p_ (by omega)) rfl rfl (Nat.le_of_ble_eq_true rfl) ⟨Nat.le_of_ble_eq_true rfl, Nat.le_of_ble_eq_true rfl⟩ ⟨Nat.zero_le _, Nat.zero_le _⟩ (fun r69 I69 J69 h69 => ?_)
                  obtain ⟨h69, h69a, h69b, e2_⟩ := h69
                  have e2_ := e2_.symm
                  subst e2_
                  subst h69
                  refine r_iast C _ (dk oX2_replay 40 rfl) rfl (kn hn rfl) rfl (by omega) (by decide) ?_
                  refine r_iinc (lo' := [(3, _), (0, _), (1, _), (2, _)]) C 3 (dk oX2_replay 41 rfl) rfl (by first | exact nI_inc _ | rfl) (by decide) rfl ?_
                  refine r_goto (tgt := 21) C (dk oX2_replay 42 rfl) (by decide) ?_
                  refine V.sub [1, 2, 3, 0] rfl ?_
                  refine ih (p_ + 1) _ (by omega) (by omega) (fun f hf i hi => ?_) (fun q hq => ?_) (fun k hk => ?_)
                  · rw [up2_ne (by omega), h69b f hf i hi]
                    exact admF_cong (fun j hj => hX f hf j hj) i hi
                  · by_cases e : q = p_
                    · subst e
                      rw [up2_at]
                      unfold silF
                      rw [bS_cong 12 (fun f hf => adB_cong (hX f hf 0 (by decide)) (hX f hf 2 (by decide)))]
                    · rw [up2_off e, h69a 51 (by omega)]
                      exact hS3 q (by omega)
                  · rw [up2_ne (by omega), h69a k (by omega)]
                    exact hO3 k hk
        refine V.sub [1, 2, 3, 0] rfl ?_
        exact L21 (np + 1) 0 I1 (by omega) (by omega) (fun g hg i hi => hM0 g hg i hi) (fun q hq => absurd hq (Nat.not_lt_zero _)) hO0
      · simp (disch := omega) only [nI_leI, nI_ltI, nI_eq, nI_eq0] at hb5
        refine r_aload_n C 0 (dk oX2_replay 5 rfl) rfl ?_
        refine r_iload_n C 3 (dk oX2_replay 6 rfl) rfl ?_
        refine r_ivv C Z (dk oX2_replay 7 rfl) cl_X2_30 ci_X2_free rfl (kn hn rfl) (c45_X2_free hn I1 J f (by omega)) rfl rfl (Nat.le_of_ble_eq_true rfl) ⟨Nat.le_of_ble_eq_true rfl, Nat.le_of_ble_eq_true rfl⟩ ⟨Nat.zero_le _, Nat.zero_le _⟩ (fun I10 J10 h10 => ?_)
        obtain ⟨h10, e2_⟩ := h10
        have e2_ := e2_.symm
        subst e2_
        refine r_iinc (lo' := [(3, _), (0, _), (1, _), (2, _)]) C 3 (dk oX2_replay 8 rfl) rfl (by first | exact nI_inc _ | rfl) (by decide) rfl ?_
        refine r_goto (tgt := 2) C (dk oX2_replay 9 rfl) (by decide) ?_
        refine V.sub [1, 2, 3, 0] rfl ?_
        exact ih (f + 1) _ (by omega) (by omega) (fun g hg i hi => by
          rw [h10.2 i hi g]
          by_cases e : g = f
          · rw [if_pos e]
          · rw [if_neg e]; exact hM0 g (by omega) i hi) (fun k hk => by rw [h10.1 k (by omega)]; exact hO0 k hk)
  refine V.sub [1, 2, 3, 0] rfl ?_
  exact L2 13 0 I (by omega) (by omega) (fun g hg => absurd hg (Nat.not_lt_zero _)) (fun _ _ => rfl)

set_option maxHeartbeats 1000000 in
set_option maxRecDepth 100000 in
theorem c45_X2_soBy (hn : 117 ≤ n) (I : MI) (J : MJ) (sh A_ N_ : Nat) (hA : I 45 8 = nI A_) (hN : I 45 7 = nI N_) : Ci l n ad cA D z 0 yX2_soBy cX2_soBy 2 .int I J [.ref (ad 45), .int (nI sh)] (fun r I' J' => r = nI (A_ ||| (sh ^^^ N_)) ∧ I' = I ∧ J' = J) := by
  refine Ci.of (by decide) (Nat.le_of_ble_eq_true rfl) ?_
  intro p e s m args below meth c A C hin Z Q hret
  refine r_aload_n C 0 (dk oX2_soBy 0 rfl) rfl ?_
  refine r_getI C (dk oX2_soBy 1 rfl) fl_X2_82 rfl (kn hn rfl) ?_
  rw [hA]
  refine r_iload_n C 1 (dk oX2_soBy 2 rfl) rfl ?_
  refine r_aload_n C 0 (dk oX2_soBy 3 rfl) rfl ?_
  refine r_getI C (dk oX2_soBy 4 rfl) fl_X2_79 rfl (kn hn rfl) ?_
  rw [hN]
  refine r_ixor C (dk oX2_soBy 5 rfl) ?_
  rw [nx_xor]
  refine r_ior C (dk oX2_soBy 6 rfl) ?_
  rw [fa_or]
  refine hret (dk oX2_soBy 7 rfl) rfl ?_
  exact ⟨rfl, rfl, rfl⟩

set_option maxHeartbeats 1000000 in
set_option maxRecDepth 100000 in
theorem c45_X2_howMany (hn : 117 ≤ n) (I : MI) (J : MJ) (Φ : Nat → FS) (hM : FcM I 45 Φ) (x : Int32) : Ci l n ad cA D z 0 yX2_howMany cX2_howMany 4 .int I J [.ref (ad 45), .int x] (fun r I' J' => r = nI (fb_ct (fun f => decide (Φ f 0 = x)) 12) ∧ I' = I ∧ J' = J) := by
  refine Ci.of (by decide) (Nat.le_of_ble_eq_true rfl) ?_
  intro p e s m args below meth c A C hin Z Q hret
  refine r_iconst C (dk oX2_howMany 0 rfl) (v := nI 0) (by decide) ?_
  refine r_istore_n (lo' := [(2, _), (0, _), (1, _)]) C (dk oX2_howMany 1 rfl) rfl (by decide) rfl ?_
  refine r_iconst C (dk oX2_howMany 2 rfl) (v := nI 0) (by decide) ?_
  refine r_istore_n (lo' := [(3, _), (2, _), (0, _), (1, _)]) C (dk oX2_howMany 3 rfl) rfl (by decide) rfl ?_
  have L4 : ∀ (d_ : Nat) (f : Nat), 12 - f < d_ → f ≤ 12 → V p l e (rmL 0) s m args below meth c Q D A 4 0 0 n ad (mE cA ad I J) 4 [(0, .ref (ad 45)), (1, .int x), (2, .int (nI (fb_ct (fun f => decide (Φ f 0 = x)) f))), (3, .int (nI f))] [] := by
    intro d_
    induction d_ with
    | zero => intros; exact absurd (by assumption) (Nat.not_lt_zero _)
    | succ d_ ih => 
      intro f hd_ hf
      refine r_iload_n C 3 (dk oX2_howMany 4 rfl) rfl ?_
      refine r_bipush C (dk oX2_howMany 5 rfl) (v := nI 12) (by decide) ?_
      refine r_icmp_ge (tgt := 29) C (dk oX2_howMany 6 rfl) (by decide) (fun hb7 => ?_) (fun hb7 => ?_)
      · simp (disch := omega) only [nI_leI, nI_ltI, nI_eq, nI_eq0] at hb7
        refine r_iload_n C 2 (dk oX2_howMany 16 rfl) rfl ?_
        refine hret (dk oX2_howMany 17 rfl) rfl ?_
        exact ⟨by rw [show f = 12 by omega], rfl, rfl⟩
      · simp (disch := omega) only [nI_leI, nI_ltI, nI_eq, nI_eq0] at hb7
        have hw0 : I 46 f = Φ f 0 := hM f (by omega) 0 (by decide)
        refine r_aload_n C 0 (dk oX2_howMany 7 rfl) rfl ?_
        refine r_getR C (dk oX2_howMany 8 rfl) fl_X2_9 rfl (kn hn rfl) ?_
        refine r_iload_n C 3 (dk oX2_howMany 9 rfl) rfl ?_
        refine r_iald C _ (dk oX2_howMany 10 rfl) rfl (kn hn rfl) rfl (by omega) (by decide) ?_
        rw [hw0]
        refine r_iload_n C 1 (dk oX2_howMany 11 rfl) rfl ?_
        refine r_icmp_ne (tgt := 23) C (dk oX2_howMany 12 rfl) (by decide) (fun hb17 => ?_) (fun hb17 => ?_)
        · refine r_iinc (lo' := [(3, _), (0, _), (1, _), (2, _)]) C 3 (dk oX2_howMany 14 rfl) rfl (by first | exact nI_inc _ | rfl) (by decide) rfl ?_
          refine r_goto (tgt := 4) C (dk oX2_howMany 15 rfl) (by decide) ?_
          refine V.sub [1, 2, 3, 0] rfl ?_
          have hR := ih (f + 1) (by omega) (by omega)
          rw [fb_ct_succ] at hR
          first
            | (rw [if_neg (by rw [decide_eq_false hb17]; decide), Nat.add_zero] at hR; exact hR)
            | (rw [if_pos (decide_eq_true hb17)] at hR; exact hR)
        · refine r_iinc (lo' := [(2, _), (0, _), (1, _), (3, _)]) C 2 (dk oX2_howMany 13 rfl) rfl (by first | exact nI_inc _ | rfl) (by decide) rfl ?_
          refine r_iinc (lo' := [(3, _), (2, _), (0, _), (1, _)]) C 3 (dk oX2_howMany 14 rfl) rfl (by first | exact nI_inc _ | rfl) (by decide) rfl ?_
          refine r_goto (tgt := 4) C (dk oX2_howMany 15 rfl) (by decide) ?_
          refine V.sub [2, 3, 1, 0] rfl ?_
          have hR := ih (f + 1) (by omega) (by omega)
          rw [fb_ct_succ] at hR
          first
            | (rw [if_neg (by rw [decide_eq_false hb17]; decide), Nat.add_zero] at hR; exact hR)
            | (rw [if_pos (decide_eq_true hb17)] at hR; exact hR)
  refine V.sub [2, 3, 1, 0] rfl ?_
  exact L4 13 0 (by omega) (by omega)

set_option maxHeartbeats 1000000 in
set_option maxRecDepth 100000 in
theorem c45_X2_admittedBy (hn : 117 ≤ n) (I : MI) (J : MJ) (Φ : Nat → FS) (hM : FcM I 45 Φ) (sd : Nat) (hs : sd < 2) : Ci l n ad cA D z 0 yX2_admittedBy cX2_admittedBy 4 .int I J [.ref (ad 45), .int (nI sd)] (fun r I' J' => r = nI (bS (fun f => decide (Φ f 0 = nI 2 ∧ Φ f 2 = nI (1 - sd))) 12) ∧ I' = I ∧ J' = J) := by
  refine Ci.of (by decide) (Nat.le_of_ble_eq_true rfl) ?_
  intro p e s m args below meth c A C hin Z Q hret
  refine r_iconst C (dk oX2_admittedBy 0 rfl) (v := nI 0) (by decide) ?_
  refine r_istore_n (lo' := [(2, _), (0, _), (1, _)]) C (dk oX2_admittedBy 1 rfl) rfl (by decide) rfl ?_
  refine r_iconst C (dk oX2_admittedBy 2 rfl) (v := nI 0) (by decide) ?_
  refine r_istore_n (lo' := [(3, _), (2, _), (0, _), (1, _)]) C (dk oX2_admittedBy 3 rfl) rfl (by decide) rfl ?_
  have L4 : ∀ (d_ : Nat) (f : Nat), 12 - f < d_ → f ≤ 12 → V p l e (rmL 0) s m args below meth c Q D A 4 0 0 n ad (mE cA ad I J) 4 [(0, .ref (ad 45)), (1, .int (nI sd)), (2, .int (nI (bS (fun f => decide (Φ f 0 = nI 2 ∧ Φ f 2 = nI (1 - sd))) f))), (3, .int (nI f))] [] := by
    intro d_
    induction d_ with
    | zero => intros; exact absurd (by assumption) (Nat.not_lt_zero _)
    | succ d_ ih => 
      intro f hd_ hf
      refine r_iload_n C 3 (dk oX2_admittedBy 4 rfl) rfl ?_
      refine r_bipush C (dk oX2_admittedBy 5 rfl) (v := nI 12) (by decide) ?_
      refine r_icmp_ge (tgt := 44) C (dk oX2_admittedBy 6 rfl) (by decide) (fun hb7 => ?_) (fun hb7 => ?_)
      · simp (disch := omega) only [nI_leI, nI_ltI, nI_eq, nI_eq0] at hb7
        refine r_iload_n C 2 (dk oX2_admittedBy 29 rfl) rfl ?_
        refine hret (dk oX2_admittedBy 30 rfl) rfl ?_
        exact ⟨by rw [show f = 12 by omega], rfl, rfl⟩
      · simp (disch := omega) only [nI_leI, nI_ltI, nI_eq, nI_eq0] at hb7
        have hw0 : I 46 f = Φ f 0 := hM f (by omega) 0 (by decide)
        have hw2 : I 48 f = Φ f 2 := hM f (by omega) 2 (by decide)
        refine r_aload_n C 0 (dk oX2_admittedBy 7 rfl) rfl ?_
        refine r_getR C (dk oX2_admittedBy 8 rfl) fl_X2_9 rfl (kn hn rfl) ?_
        refine r_iload_n C 3 (dk oX2_admittedBy 9 rfl) rfl ?_
        refine r_iald C _ (dk oX2_admittedBy 10 rfl) rfl (kn hn rfl) rfl (by omega) (by decide) ?_
        rw [hw0]
        refine r_iconst C (dk oX2_admittedBy 11 rfl) (v := nI 2) (by decide) ?_
        refine r_icmp_ne (tgt := 38) C (dk oX2_admittedBy 12 rfl) (by decide) (fun hb17 => ?_) (fun hb17 => ?_)
        · refine r_iinc (lo' := [(3, _), (0, _), (1, _), (2, _)]) C 3 (dk oX2_admittedBy 27 rfl) rfl (by first | exact nI_inc _ | rfl) (by decide) rfl ?_
          refine r_goto (tgt := 4) C (dk oX2_admittedBy 28 rfl) (by decide) ?_
          refine V.sub [1, 2, 3, 0] rfl ?_
          have hR := ih (f + 1) (by omega) (by omega)
          unfold bS at hR
          first
            | (rw [if_pos (decide_eq_true ⟨hb17, hb29⟩)] at hR; exact hR)
            | (rw [if_neg (by rw [decide_eq_false (fun q => hb17 q.1)]; decide)] at hR; exact hR)
            | (rw [if_neg (by rw [decide_eq_false (fun q => hb29 q.2)]; decide)] at hR; exact hR)
        · refine r_aload_n C 0 (dk oX2_admittedBy 13 rfl) rfl ?_
          refine r_getR C (dk oX2_admittedBy 14 rfl) fl_X2_18 rfl (kn hn rfl) ?_
          refine r_iload_n C 3 (dk oX2_admittedBy 15 rfl) rfl ?_
          refine r_iald C _ (dk oX2_admittedBy 16 rfl) rfl (kn hn rfl) rfl (by omega) (by decide) ?_
          rw [hw2]
          refine r_iconst C (dk oX2_admittedBy 17 rfl) (v := nI 1) (by decide) ?_
          refine r_iload_n C 1 (dk oX2_admittedBy 18 rfl) rfl ?_
          refine r_isub C (dk oX2_admittedBy 19 rfl) ?_
          rw [pk_sub (by omega)]
          refine r_icmp_ne (tgt := 38) C (dk oX2_admittedBy 20 rfl) (by decide) (fun hb29 => ?_) (fun hb29 => ?_)
          · refine r_iinc (lo' := [(3, _), (0, _), (1, _), (2, _)]) C 3 (dk oX2_admittedBy 27 rfl) rfl (by first | exact nI_inc _ | rfl) (by decide) rfl ?_
            refine r_goto (tgt := 4) C (dk oX2_admittedBy 28 rfl) (by decide) ?_
            refine V.sub [1, 2, 3, 0] rfl ?_
            have hR := ih (f + 1) (by omega) (by omega)
            unfold bS at hR
            first
              | (rw [if_pos (decide_eq_true ⟨hb17, hb29⟩)] at hR; exact hR)
              | (rw [if_neg (by rw [decide_eq_false (fun q => hb17 q.1)]; decide)] at hR; exact hR)
              | (rw [if_neg (by rw [decide_eq_false (fun q => hb29 q.2)]; decide)] at hR; exact hR)
          · refine r_iload_n C 2 (dk oX2_admittedBy 21 rfl) rfl ?_
            refine r_iconst C (dk oX2_admittedBy 22 rfl) (v := nI 1) (by decide) ?_
            refine r_iload_n C 3 (dk oX2_admittedBy 23 rfl) rfl ?_
            refine r_ishl C (dk oX2_admittedBy 24 rfl) ?_
            refine r_ior C (dk oX2_admittedBy 25 rfl) ?_
            rw [or_bit (by omega)]
            refine r_istore_n (lo' := [(2, _), (0, _), (1, _), (3, _)]) C (dk oX2_admittedBy 26 rfl) rfl (by decide) rfl ?_
            refine r_iinc (lo' := [(3, _), (2, _), (0, _), (1, _)]) C 3 (dk oX2_admittedBy 27 rfl) rfl (by first | exact nI_inc _ | rfl) (by decide) rfl ?_
            refine r_goto (tgt := 4) C (dk oX2_admittedBy 28 rfl) (by decide) ?_
            refine V.sub [2, 3, 1, 0] rfl ?_
            have hR := ih (f + 1) (by omega) (by omega)
            unfold bS at hR
            first
              | (rw [if_pos (decide_eq_true ⟨hb17, hb29⟩)] at hR; exact hR)
              | (rw [if_neg (by rw [decide_eq_false (fun q => hb17 q.1)]; decide)] at hR; exact hR)
              | (rw [if_neg (by rw [decide_eq_false (fun q => hb29 q.2)]; decide)] at hR; exact hR)
  refine V.sub [2, 3, 1, 0] rfl ?_
  exact L4 13 0 (by omega) (by omega)

set_option maxHeartbeats 1000000 in
set_option maxRecDepth 100000 in
theorem c45_X2_bearing (hn : 117 ≤ n) (I : MI) (J : MJ) (Φ : Nat → FS) (hM : FcM I 45 Φ) (sd f : Nat) (hs : sd < 2) (hf : f < 12) : Ci l n ad cA D z 0 yX2_bearing cX2_bearing 3 .int I J [.ref (ad 45), .int (nI sd), .int (nI f)] (fun r I' J' => r = berF sd (Φ f) ∧ I' = I ∧ J' = J) := by
  refine Ci.of (by decide) (Nat.le_of_ble_eq_true rfl) ?_
  intro p e s m args below meth c A C hin Z Q hret
  have hw0 : I 46 f = Φ f 0 := hM f hf 0 (by decide)
  have hw2 : I 48 f = Φ f 2 := hM f hf 2 (by decide)
  refine r_iload_n C 2 (dk oX2_bearing 0 rfl) rfl ?_
  refine r_if_lt (tgt := 29) C (dk oX2_bearing 1 rfl) (by decide) (fun hb1 => absurd hb1 (nI_lt0 (by omega))) (fun hb1 => ?_)
  refine r_iload_n C 2 (dk oX2_bearing 2 rfl) rfl ?_
  refine r_bipush C (dk oX2_bearing 3 rfl) (v := nI 12) (by decide) ?_
  refine r_icmp_ge (tgt := 29) C (dk oX2_bearing 4 rfl) (by decide) (fun hb7 => absurd hb7 (by rw [nI_leI (by omega) (by omega)]; omega)) (fun hb7 => ?_)
  refine r_aload_n C 0 (dk oX2_bearing 5 rfl) rfl ?_
  refine r_getR C (dk oX2_bearing 6 rfl) fl_X2_9 rfl (kn hn rfl) ?_
  refine r_iload_n C 2 (dk oX2_bearing 7 rfl) rfl ?_
  refine r_iald C _ (dk oX2_bearing 8 rfl) rfl (kn hn rfl) rfl (by omega) (by decide) ?_
  rw [hw0]
  refine r_if_eq (tgt := 29) C (dk oX2_bearing 9 rfl) (by decide) (fun hb16 => ?_) (fun hb16 => ?_)
  · refine r_iconst C (dk oX2_bearing 16 rfl) (v := -1) (by decide) ?_
    refine hret (dk oX2_bearing 17 rfl) rfl ?_
    refine ⟨?_, rfl, rfl⟩
    unfold berF
    first
      | exact (if_pos (Or.inl hb16)).symm
      | exact (if_pos (Or.inr hb26)).symm
      | (rw [if_neg (fun q => q.elim hb16 hb26)]
         first
           | exact (if_pos hb38).symm
           | (rw [if_neg hb38]
              first
                | exact (if_pos hb50).symm
                | exact (if_neg hb50).symm))
  · refine r_aload_n C 0 (dk oX2_bearing 10 rfl) rfl ?_
    refine r_getR C (dk oX2_bearing 11 rfl) fl_X2_9 rfl (kn hn rfl) ?_
    refine r_iload_n C 2 (dk oX2_bearing 12 rfl) rfl ?_
    refine r_iald C _ (dk oX2_bearing 13 rfl) rfl (kn hn rfl) rfl (by omega) (by decide) ?_
    rw [hw0]
    refine r_iconst C (dk oX2_bearing 14 rfl) (v := nI 2) (by decide) ?_
    refine r_icmp_ne (tgt := 31) C (dk oX2_bearing 15 rfl) (by decide) (fun hb26 => ?_) (fun hb26 => ?_)
    · refine r_aload_n C 0 (dk oX2_bearing 18 rfl) rfl ?_
      refine r_getR C (dk oX2_bearing 19 rfl) fl_X2_18 rfl (kn hn rfl) ?_
      refine r_iload_n C 2 (dk oX2_bearing 20 rfl) rfl ?_
      refine r_iald C _ (dk oX2_bearing 21 rfl) rfl (kn hn rfl) rfl (by omega) (by decide) ?_
      rw [hw2]
      refine r_iload_n C 1 (dk oX2_bearing 22 rfl) rfl ?_
      refine r_icmp_ne (tgt := 43) C (dk oX2_bearing 23 rfl) (by decide) (fun hb38 => ?_) (fun hb38 => ?_)
      · refine r_aload_n C 0 (dk oX2_bearing 26 rfl) rfl ?_
        refine r_getR C (dk oX2_bearing 27 rfl) fl_X2_9 rfl (kn hn rfl) ?_
        refine r_iload_n C 2 (dk oX2_bearing 28 rfl) rfl ?_
        refine r_iald C _ (dk oX2_bearing 29 rfl) rfl (kn hn rfl) rfl (by omega) (by decide) ?_
        rw [hw0]
        refine r_iconst C (dk oX2_bearing 30 rfl) (v := nI 4) (by decide) ?_
        refine r_icmp_ne (tgt := 57) C (dk oX2_bearing 31 rfl) (by decide) (fun hb50 => ?_) (fun hb50 => ?_)
        · refine r_iconst C (dk oX2_bearing 34 rfl) (v := nI 0) (by decide) ?_
          refine hret (dk oX2_bearing 35 rfl) rfl ?_
          refine ⟨?_, rfl, rfl⟩
          unfold berF
          first
            | exact (if_pos (Or.inl hb16)).symm
            | exact (if_pos (Or.inr hb26)).symm
            | (rw [if_neg (fun q => q.elim hb16 hb26)]
               first
                 | exact (if_pos hb38).symm
                 | (rw [if_neg hb38]
                    first
                      | exact (if_pos hb50).symm
                      | exact (if_neg hb50).symm))
        · refine r_iconst C (dk oX2_bearing 32 rfl) (v := -1) (by decide) ?_
          refine r_goto (tgt := 58) C (dk oX2_bearing 33 rfl) (by decide) ?_
          refine hret (dk oX2_bearing 35 rfl) rfl ?_
          refine ⟨?_, rfl, rfl⟩
          unfold berF
          first
            | exact (if_pos (Or.inl hb16)).symm
            | exact (if_pos (Or.inr hb26)).symm
            | (rw [if_neg (fun q => q.elim hb16 hb26)]
               first
                 | exact (if_pos hb38).symm
                 | (rw [if_neg hb38]
                    first
                      | exact (if_pos hb50).symm
                      | exact (if_neg hb50).symm))
      · refine r_iconst C (dk oX2_bearing 24 rfl) (v := nI 1) (by decide) ?_
        refine hret (dk oX2_bearing 25 rfl) rfl ?_
        refine ⟨?_, rfl, rfl⟩
        unfold berF
        first
          | exact (if_pos (Or.inl hb16)).symm
          | exact (if_pos (Or.inr hb26)).symm
          | (rw [if_neg (fun q => q.elim hb16 hb26)]
             first
               | exact (if_pos hb38).symm
               | (rw [if_neg hb38]
                  first
                    | exact (if_pos hb50).symm
                    | exact (if_neg hb50).symm))
    · refine r_iconst C (dk oX2_bearing 16 rfl) (v := -1) (by decide) ?_
      refine hret (dk oX2_bearing 17 rfl) rfl ?_
      refine ⟨?_, rfl, rfl⟩
      unfold berF
      first
        | exact (if_pos (Or.inl hb16)).symm
        | exact (if_pos (Or.inr hb26)).symm
        | (rw [if_neg (fun q => q.elim hb16 hb26)]
           first
             | exact (if_pos hb38).symm
             | (rw [if_neg hb38]
                first
                  | exact (if_pos hb50).symm
                  | exact (if_neg hb50).symm))

end FACTS
