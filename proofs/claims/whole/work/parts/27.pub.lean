section PUB
variable {l : Launch} {n : Nat} {ad : Nat → Nat} {cA : Nat → ClassId} {D : va_G} {z : Zw}
theorem q_in {q : Int32} {P : Prop} [Decidable P] {a b : Int32} (h : P) : (if P then a else b) = a := if_pos h
theorem fwN_s (P : Nat → Bool) (w i : Nat) : fwN P w (i + 1) = if ((fwN P w i).all (fun f => decide (pc (pd i w) < pc f)) && P (pd i w)) = true then some (pd i w) else fwN P w i := rfl
theorem fwN_le {P : Nat → Bool} {w : Nat} : ∀ i s, fwN P w i = some s → s ≤ w
  | 0, s, h => by cases h
  | i + 1, s, h => by
    rw [fwN_s] at h
    split at h
    · cases h; exact pd_le
    · exact fwN_le i s h
theorem ofO_ok {P : Nat → Bool} {w i : Nat} (hw : w < 4096) : ofO (fwN P w i) = -1 ∨ (ofO (fwN P w i) = nI ((fwN P w i).getD 0) ∧ (fwN P w i).getD 0 < 65536) := by
  cases h : fwN P w i with
  | none => exact Or.inl rfl
  | some s => exact Or.inr ⟨rfl, by have := fwN_le i s h; show s < 65536; omega⟩
theorem fw_fewer {P : Nat → Bool} {w i a : Nat} (hw : w < 4096) : decide (ofO (fwN P w i) = -1 ∨ pc a < pc ((fwN P w i).getD 0)) = (fwN P w i).all (fun f => decide (pc a < pc f)) := by
  cases h : fwN P w i with
  | none => rfl
  | some s =>
    have := fwN_le i s h
    have e : (ofO (some s) = -1 ∨ pc a < pc ((some s).getD 0)) ↔ pc a < pc s := Iff.intro (fun q => q.elim (fun z => absurd z (nI_m1 (by omega))) id) Or.inr
    rw [Bool.eq_iff_iff, decide_eq_true_eq, e, Option.all_some, decide_eq_true_eq]
theorem fw_t {P : Nat → Bool} {w i : Nat} (h1 : (fwN P w i).all (fun f => decide (pc (pd i w) < pc f)) = true) (h2 : P (pd i w) = true) : fwN P w (i + 1) = some (pd i w) := by rw [fwN_s, if_pos (by rw [h1, h2]; rfl)]
theorem fw_f1 {P : Nat → Bool} {w i : Nat} (h1 : (fwN P w i).all (fun f => decide (pc (pd i w) < pc f)) = false) : fwN P w (i + 1) = fwN P w i := by rw [fwN_s, if_neg (by rw [h1, Bool.false_and]; decide)]
theorem fw_f2 {P : Nat → Bool} {w i : Nat} (h2 : P (pd i w) = false) : fwN P w (i + 1) = fwN P w i := by rw [fwN_s, if_neg (by rw [h2, Bool.and_false]; decide)]
theorem dec_lt {j : Nat} (h : j < 2 ^ 31) : nI j + Int32.ofInt (-1) < 0 ↔ j = 0 := by
  by_cases e : j = 0
  · subst e; decide
  · rw [nI_dec (by omega)]
    constructor
    · intro h2; exact absurd h2 (nI_lt0 (by omega))
    · intro h2; exact absurd h2 e
theorem lt0_vd {x : Int32} {n : Nat} (h : x < 0) : ¬ vdN x n := fun q => absurd h (Int32.not_lt.mpr q.1)
theorem vd_hi {x : Int32} {n : Nat} (hn : n + 1 < 2 ^ 31) (h : ¬ x < 0) (h2 : x ≤ nI n) : vdN x (n + 1) := by
  refine ⟨Int32.not_lt.mp h, ?_⟩
  rw [fa_le, nI_toI (by omega)] at h2
  rw [fa_lt, nI_toI (by omega)]
  omega
theorem hi_vd {x : Int32} {n : Nat} (hn : n + 1 < 2 ^ 31) (h2 : ¬ x ≤ nI n) : ¬ vdN x (n + 1) := by
  intro q
  have q2 := q.2
  rw [fa_le, nI_toI (by omega)] at h2
  rw [fa_lt, nI_toI (by omega)] at q2
  omega
set_option maxHeartbeats 1000000 in
set_option maxRecDepth 100000 in
theorem c_X9_fault (hn : 117 ≤ n) (I : MI) (J : MJ) (τ : St) (hCS : CS I J τ) : Ci l n ad cA D z 0 yX9_fault cX9_fault 1 .int I J [.ref (ad 0)] (fun r I' J' => r = sF τ ∧ CS I' J' τ ∧ Fr I I' J J') := by
  refine Ci.of (by decide) (Nat.le_of_ble_eq_true rfl) ?_
  intro p e s m args below meth c A C hin Z Q hret
  have hCS0 := hCS
  obtain ⟨hS, hKp, hM, hSil, hT, h16⟩ := hCS0
  obtain ⟨⟨hC, hco⟩, ⟨hP, hZ⟩, hK, hdu, hdu2, hse, hse2⟩ := hS
  have hnc : (sCl τ).1 ≤ 6 := hC.1
  have hnp : (sPp τ).1 ≤ 10 := hP.1
  have hnk : (sPk τ).1 ≤ 16 := hK.1
  have hL := hT.1
  have hop := @opN_lt (sPhi τ)
  have h386 : I 38 6 = nI (opN (sPhi τ)) := hM.2.1
  refine r_aload_n C 0 (dk oX9_fault 0 rfl) rfl ?_
  refine r_getR C (dk oX9_fault 1 rfl) fl_X9_10 rfl (kn hn rfl) ?_
  refine r_getI C (dk oX9_fault 2 rfl) fl_X9_125 rfl (kn hn rfl) ?_
  rw [h16]
  refine hret (dk oX9_fault 3 rfl) rfl ?_
  exact ⟨rfl, hCS, Fr.rf I J⟩

set_option maxHeartbeats 1000000 in
set_option maxRecDepth 100000 in
theorem c_X9_open (hn : 117 ≤ n) (I : MI) (J : MJ) (τ : St) (hCS : CS I J τ) : Ci l n ad cA D z 0 yX9_open cX9_open 1 .int I J [.ref (ad 0)] (fun r I' J' => r = nI (opN (sPhi τ)) ∧ CS I' J' τ ∧ Fr I I' J J') := by
  refine Ci.of (by decide) (Nat.le_of_ble_eq_true rfl) ?_
  intro p e s m args below meth c A C hin Z Q hret
  have hCS0 := hCS
  obtain ⟨hS, hKp, hM, hSil, hT, h16⟩ := hCS0
  obtain ⟨⟨hC, hco⟩, ⟨hP, hZ⟩, hK, hdu, hdu2, hse, hse2⟩ := hS
  have hnc : (sCl τ).1 ≤ 6 := hC.1
  have hnp : (sPp τ).1 ≤ 10 := hP.1
  have hnk : (sPk τ).1 ≤ 16 := hK.1
  have hL := hT.1
  have hop := @opN_lt (sPhi τ)
  have h386 : I 38 6 = nI (opN (sPhi τ)) := hM.2.1
  refine r_aload_n C 0 (dk oX9_open 0 rfl) rfl ?_
  refine r_getR C (dk oX9_open 1 rfl) fl_X9_40 rfl (kn hn rfl) ?_
  refine r_getI C (dk oX9_open 2 rfl) fl_X9_190 rfl (kn hn rfl) ?_
  rw [h386]
  refine hret (dk oX9_open 3 rfl) rfl ?_
  exact ⟨rfl, hCS, Fr.rf I J⟩

set_option maxHeartbeats 1000000 in
set_option maxRecDepth 100000 in
theorem c_X9_count (hn : 117 ≤ n) (I : MI) (J : MJ) (τ : St) (hCS : CS I J τ) (y : Int32) : Ci l n ad cA D z 1 yX9_count cX9_count 2 .int I J [.ref (ad 0), .int y] (fun r I' J' => r = q_count τ y ∧ CS I' J' τ ∧ Fr I I' J J') := by
  refine Ci.of (by decide) (Nat.le_of_ble_eq_true rfl) ?_
  intro p e s m args below meth c A C hin Z Q hret
  have hCS0 := hCS
  obtain ⟨hS, hKp, hM, hSil, hT, h16⟩ := hCS0
  obtain ⟨⟨hC, hco⟩, ⟨hP, hZ⟩, hK, hdu, hdu2, hse, hse2⟩ := hS
  have hnc : (sCl τ).1 ≤ 6 := hC.1
  have hnp : (sPp τ).1 ≤ 10 := hP.1
  have hnk : (sPk τ).1 ≤ 16 := hK.1
  have hL := hT.1
  have hop := @opN_lt (sPhi τ)
  have h386 : I 38 6 = nI (opN (sPhi τ)) := hM.2.1
  refine r_iload_n C 1 (dk oX9_count 0 rfl) rfl ?_
  rcases sw8 y with rfl | rfl | rfl | rfl | rfl | rfl | rfl | rfl | rfl | hy
  · refine r_tabIn (off := 51) (tgt := 52) C (dk oX9_count 1 rfl) (by decide) (by decide) (by decide) (by decide) ?_
    refine r_aload_n C 0 (dk oX9_count 2 rfl) rfl ?_
    refine r_getR C (dk oX9_count 3 rfl) fl_X9_33 rfl (kn hn rfl) ?_
    refine r_getR C (dk oX9_count 4 rfl) fl_X9_81 rfl (kn hn rfl) ?_
    refine r_getI C (dk oX9_count 5 rfl) fl_X9_85 rfl (kn hn rfl) ?_
    rw [show I 9 0 = nI (sCl τ).1 from hC.2.1]
    refine hret (dk oX9_count 6 rfl) rfl ?_
    refine ⟨?_, hCS, Fr.rf I J⟩
    unfold q_count
    rw [if_pos rfl]
  · refine r_tabIn (off := 62) (tgt := 63) C (dk oX9_count 1 rfl) (by decide) (by decide) (by decide) (by decide) ?_
    refine r_aload_n C 0 (dk oX9_count 7 rfl) rfl ?_
    refine r_getR C (dk oX9_count 8 rfl) fl_X9_33 rfl (kn hn rfl) ?_
    refine r_getR C (dk oX9_count 9 rfl) fl_X9_62 rfl (kn hn rfl) ?_
    refine r_getI C (dk oX9_count 10 rfl) fl_X9_111 rfl (kn hn rfl) ?_
    rw [show I 19 0 = nI (sPp τ).1 from hP.2.1]
    refine hret (dk oX9_count 11 rfl) rfl ?_
    refine ⟨?_, hCS, Fr.rf I J⟩
    unfold q_count
    rw [if_neg (by decide), if_pos rfl]
  · refine r_tabIn (off := 73) (tgt := 74) C (dk oX9_count 1 rfl) (by decide) (by decide) (by decide) (by decide) ?_
    refine r_aload_n C 0 (dk oX9_count 12 rfl) rfl ?_
    refine r_getR C (dk oX9_count 13 rfl) fl_X9_33 rfl (kn hn rfl) ?_
    refine r_getR C (dk oX9_count 14 rfl) fl_X9_128 rfl (kn hn rfl) ?_
    refine r_getI C (dk oX9_count 15 rfl) fl_X9_132 rfl (kn hn rfl) ?_
    rw [show I 33 0 = nI (sPk τ).1 from hK.2.1]
    refine hret (dk oX9_count 16 rfl) rfl ?_
    refine ⟨?_, hCS, Fr.rf I J⟩
    unfold q_count
    rw [if_neg (by decide), if_neg (by decide), if_pos rfl]
  · refine r_tabIn (off := 84) (tgt := 85) C (dk oX9_count 1 rfl) (by decide) (by decide) (by decide) (by decide) ?_
    refine r_aload_n C 0 (dk oX9_count 17 rfl) rfl ?_
    refine r_getR C (dk oX9_count 18 rfl) fl_X9_10 rfl (kn hn rfl) ?_
    refine r_getI C (dk oX9_count 19 rfl) fl_X9_71 rfl (kn hn rfl) ?_
    rw [hT.2.1]
    refine hret (dk oX9_count 20 rfl) rfl ?_
    refine ⟨?_, hCS, Fr.rf I J⟩
    unfold q_count
    rw [if_neg (by decide), if_neg (by decide), if_neg (by decide), if_pos rfl]
  · refine r_tabIn (off := 92) (tgt := 93) C (dk oX9_count 1 rfl) (by decide) (by decide) (by decide) (by decide) ?_
    refine r_aload_n C 0 (dk oX9_count 21 rfl) rfl ?_
    refine r_getR C (dk oX9_count 22 rfl) fl_X9_40 rfl (kn hn rfl) ?_
    refine r_iconst C (dk oX9_count 23 rfl) (v := nI 0) (by decide) ?_
    refine r_ivi C Z (dk oX9_count 24 rfl) cl_X9_135 ci_X2_howMany rfl (kn hn rfl) (c38_X2_howMany hn I J (sPhi τ) hM.1 (nI 0)) rfl rfl (Nat.le_of_ble_eq_true rfl) ⟨Nat.le_of_ble_eq_true rfl, Nat.le_of_ble_eq_true rfl⟩ ⟨Nat.zero_le _, Nat.zero_le _⟩ (fun r98 I98 J98 h98 => ?_)
    obtain ⟨h98, e1_, e2_⟩ := h98
    have e1_ := e1_.symm
    have e2_ := e2_.symm
    subst e1_
    subst e2_
    subst h98
    refine hret (dk oX9_count 25 rfl) rfl ?_
    refine ⟨?_, hCS, Fr.rf I J⟩
    unfold q_count
    rw [if_neg (by decide), if_neg (by decide), if_neg (by decide), if_neg (by decide), if_pos rfl]
  · refine r_tabIn (off := 101) (tgt := 102) C (dk oX9_count 1 rfl) (by decide) (by decide) (by decide) (by decide) ?_
    refine r_aload_n C 0 (dk oX9_count 26 rfl) rfl ?_
    refine r_getR C (dk oX9_count 27 rfl) fl_X9_40 rfl (kn hn rfl) ?_
    refine r_iconst C (dk oX9_count 28 rfl) (v := nI 1) (by decide) ?_
    refine r_ivi C Z (dk oX9_count 29 rfl) cl_X9_135 ci_X2_howMany rfl (kn hn rfl) (c38_X2_howMany hn I J (sPhi τ) hM.1 (nI 1)) rfl rfl (Nat.le_of_ble_eq_true rfl) ⟨Nat.le_of_ble_eq_true rfl, Nat.le_of_ble_eq_true rfl⟩ ⟨Nat.zero_le _, Nat.zero_le _⟩ (fun r107 I107 J107 h107 => ?_)
    obtain ⟨h107, e1_, e2_⟩ := h107
    have e1_ := e1_.symm
    have e2_ := e2_.symm
    subst e1_
    subst e2_
    subst h107
    refine hret (dk oX9_count 30 rfl) rfl ?_
    refine ⟨?_, hCS, Fr.rf I J⟩
    unfold q_count
    rw [if_neg (by decide), if_neg (by decide), if_neg (by decide), if_neg (by decide), if_neg (by decide), if_pos rfl]
  · refine r_tabIn (off := 110) (tgt := 111) C (dk oX9_count 1 rfl) (by decide) (by decide) (by decide) (by decide) ?_
    refine r_aload_n C 0 (dk oX9_count 31 rfl) rfl ?_
    refine r_getR C (dk oX9_count 32 rfl) fl_X9_40 rfl (kn hn rfl) ?_
    refine r_iconst C (dk oX9_count 33 rfl) (v := nI 2) (by decide) ?_
    refine r_ivi C Z (dk oX9_count 34 rfl) cl_X9_135 ci_X2_howMany rfl (kn hn rfl) (c38_X2_howMany hn I J (sPhi τ) hM.1 (nI 2)) rfl rfl (Nat.le_of_ble_eq_true rfl) ⟨Nat.le_of_ble_eq_true rfl, Nat.le_of_ble_eq_true rfl⟩ ⟨Nat.zero_le _, Nat.zero_le _⟩ (fun r116 I116 J116 h116 => ?_)
    obtain ⟨h116, e1_, e2_⟩ := h116
    have e1_ := e1_.symm
    have e2_ := e2_.symm
    subst e1_
    subst e2_
    subst h116
    refine hret (dk oX9_count 35 rfl) rfl ?_
    refine ⟨?_, hCS, Fr.rf I J⟩
    unfold q_count
    rw [if_neg (by decide), if_neg (by decide), if_neg (by decide), if_neg (by decide), if_neg (by decide), if_neg (by decide), if_pos rfl]
  · refine r_tabIn (off := 119) (tgt := 120) C (dk oX9_count 1 rfl) (by decide) (by decide) (by decide) (by decide) ?_
    refine r_aload_n C 0 (dk oX9_count 36 rfl) rfl ?_
    refine r_getR C (dk oX9_count 37 rfl) fl_X9_40 rfl (kn hn rfl) ?_
    refine r_iconst C (dk oX9_count 38 rfl) (v := nI 3) (by decide) ?_
    refine r_ivi C Z (dk oX9_count 39 rfl) cl_X9_135 ci_X2_howMany rfl (kn hn rfl) (c38_X2_howMany hn I J (sPhi τ) hM.1 (nI 3)) rfl rfl (Nat.le_of_ble_eq_true rfl) ⟨Nat.le_of_ble_eq_true rfl, Nat.le_of_ble_eq_true rfl⟩ ⟨Nat.zero_le _, Nat.zero_le _⟩ (fun r125 I125 J125 h125 => ?_)
    obtain ⟨h125, e1_, e2_⟩ := h125
    have e1_ := e1_.symm
    have e2_ := e2_.symm
    subst e1_
    subst e2_
    subst h125
    refine hret (dk oX9_count 40 rfl) rfl ?_
    refine ⟨?_, hCS, Fr.rf I J⟩
    unfold q_count
    rw [if_neg (by decide), if_neg (by decide), if_neg (by decide), if_neg (by decide), if_neg (by decide), if_neg (by decide), if_neg (by decide), if_pos rfl]
  · refine r_tabIn (off := 128) (tgt := 129) C (dk oX9_count 1 rfl) (by decide) (by decide) (by decide) (by decide) ?_
    refine r_aload_n C 0 (dk oX9_count 41 rfl) rfl ?_
    refine r_getR C (dk oX9_count 42 rfl) fl_X9_40 rfl (kn hn rfl) ?_
    refine r_iconst C (dk oX9_count 43 rfl) (v := nI 4) (by decide) ?_
    refine r_ivi C Z (dk oX9_count 44 rfl) cl_X9_135 ci_X2_howMany rfl (kn hn rfl) (c38_X2_howMany hn I J (sPhi τ) hM.1 (nI 4)) rfl rfl (Nat.le_of_ble_eq_true rfl) ⟨Nat.le_of_ble_eq_true rfl, Nat.le_of_ble_eq_true rfl⟩ ⟨Nat.zero_le _, Nat.zero_le _⟩ (fun r134 I134 J134 h134 => ?_)
    obtain ⟨h134, e1_, e2_⟩ := h134
    have e1_ := e1_.symm
    have e2_ := e2_.symm
    subst e1_
    subst e2_
    subst h134
    refine hret (dk oX9_count 45 rfl) rfl ?_
    refine ⟨?_, hCS, Fr.rf I J⟩
    unfold q_count
    rw [if_neg (by decide), if_neg (by decide), if_neg (by decide), if_neg (by decide), if_neg (by decide), if_neg (by decide), if_neg (by decide), if_neg (by decide), if_pos rfl]
  · refine r_tabOut (tgt := 138) C (dk oX9_count 1 rfl) hy (by decide) ?_
    refine r_ldc C (dk oX9_count 46 rfl) kn_X9_70 ?_
    refine hret (dk oX9_count 47 rfl) rfl ?_
    refine ⟨?_, hCS, Fr.rf I J⟩
    unfold q_count
    rw [if_neg (sw_ne (n := 8) (k := 0) hy (by decide) (by decide)), if_neg (sw_ne (n := 8) (k := 1) hy (by decide) (by decide)), if_neg (sw_ne (n := 8) (k := 2) hy (by decide) (by decide)), if_neg (sw_ne (n := 8) (k := 3) hy (by decide) (by decide)), if_neg (sw_ne (n := 8) (k := 4) hy (by decide) (by decide)), if_neg (sw_ne (n := 8) (k := 5) hy (by decide) (by decide)), if_neg (sw_ne (n := 8) (k := 6) hy (by decide) (by decide)), if_neg (sw_ne (n := 8) (k := 7) hy (by decide) (by decide)), if_neg (sw_ne (n := 8) (k := 8) hy (by decide) (by decide))]

set_option maxHeartbeats 1000000 in
set_option maxRecDepth 100000 in
theorem c_X9_fact (hn : 117 ≤ n) (I : MI) (J : MJ) (τ : St) (hCS : CS I J τ) (x y : Int32) : Ci l n ad cA D z 1 yX9_fact cX9_fact 3 .int I J [.ref (ad 0), .int x, .int y] (fun r I' J' => r = q_fact τ x y ∧ CS I' J' τ ∧ Fr I I' J J') := by
  refine Ci.of (by decide) (Nat.le_of_ble_eq_true rfl) ?_
  intro p e s m args below meth c A C hin Z Q hret
  have hCS0 := hCS
  obtain ⟨hS, hKp, hM, hSil, hT, h16⟩ := hCS0
  obtain ⟨⟨hC, hco⟩, ⟨hP, hZ⟩, hK, hdu, hdu2, hse, hse2⟩ := hS
  have hnc : (sCl τ).1 ≤ 6 := hC.1
  have hnp : (sPp τ).1 ≤ 10 := hP.1
  have hnk : (sPk τ).1 ≤ 16 := hK.1
  have hL := hT.1
  have hop := @opN_lt (sPhi τ)
  have h386 : I 38 6 = nI (opN (sPhi τ)) := hM.2.1
  refine r_iload_n C 1 (dk oX9_fact 0 rfl) rfl ?_
  refine r_isi C Z (dk oX9_fact 1 rfl) cl_X9_139 st_X9_isFact (c_X9_isFact I J x) rfl rfl (Nat.le_of_ble_eq_true rfl) ⟨Nat.le_of_ble_eq_true rfl, Nat.le_of_ble_eq_true rfl⟩ ⟨Nat.zero_le _, Nat.zero_le _⟩ (fun r1 I1 J1 h1 => ?_)
  obtain ⟨h1, e1_, e2_⟩ := h1
  have e1_ := e1_.symm
  have e2_ := e2_.symm
  subst e1_
  subst e2_
  subst h1
  refine r_if_ne (tgt := 10) C (dk oX9_fact 2 rfl) (by decide) (fun hb4 => ?_) (fun hb4 => ?_)
  · rw [b32_n, decide_eq_true_eq] at hb4
    obtain ⟨f_, h_f_, hx_f_⟩ := vd_of (by decide) hb4
    subst hx_f_
    refine r_iload_n C 2 (dk oX9_fact 5 rfl) rfl ?_
    rcases sw4 y with rfl | rfl | rfl | rfl | rfl | hy
    · refine r_tabIn (off := 33) (tgt := 44) C (dk oX9_fact 6 rfl) (by decide) (by decide) (by decide) (by decide) ?_
      refine r_aload_n C 0 (dk oX9_fact 7 rfl) rfl ?_
      refine r_getR C (dk oX9_fact 8 rfl) fl_X9_40 rfl (kn hn rfl) ?_
      refine r_getR C (dk oX9_fact 9 rfl) fl_X9_144 rfl (kn hn rfl) ?_
      refine r_iload_n C 1 (dk oX9_fact 10 rfl) rfl ?_
      refine r_iald C _ (dk oX9_fact 11 rfl) rfl (kn hn rfl) rfl (by omega) (by decide) ?_
      rw [show I 39 f_ = sPhi τ f_ 0 from hM.1 f_ h_f_ 0 (by decide)]
      refine hret (dk oX9_fact 12 rfl) rfl ?_
      refine ⟨?_, hCS, Fr.rf I J⟩
      unfold q_fact
      rw [if_pos (vd_n h_f_ (by omega)), cN_n (by omega), if_pos rfl]
    · refine r_tabIn (off := 43) (tgt := 54) C (dk oX9_fact 6 rfl) (by decide) (by decide) (by decide) (by decide) ?_
      refine r_aload_n C 0 (dk oX9_fact 13 rfl) rfl ?_
      refine r_getR C (dk oX9_fact 14 rfl) fl_X9_40 rfl (kn hn rfl) ?_
      refine r_getR C (dk oX9_fact 15 rfl) fl_X9_147 rfl (kn hn rfl) ?_
      refine r_iload_n C 1 (dk oX9_fact 16 rfl) rfl ?_
      refine r_iald C _ (dk oX9_fact 17 rfl) rfl (kn hn rfl) rfl (by omega) (by decide) ?_
      rw [show I 40 f_ = sPhi τ f_ 1 from hM.1 f_ h_f_ 1 (by decide)]
      refine hret (dk oX9_fact 18 rfl) rfl ?_
      refine ⟨?_, hCS, Fr.rf I J⟩
      unfold q_fact
      rw [if_pos (vd_n h_f_ (by omega)), cN_n (by omega), if_neg (by decide), if_pos rfl]
    · refine r_tabIn (off := 53) (tgt := 64) C (dk oX9_fact 6 rfl) (by decide) (by decide) (by decide) (by decide) ?_
      refine r_aload_n C 0 (dk oX9_fact 19 rfl) rfl ?_
      refine r_getR C (dk oX9_fact 20 rfl) fl_X9_40 rfl (kn hn rfl) ?_
      refine r_getR C (dk oX9_fact 21 rfl) fl_X9_150 rfl (kn hn rfl) ?_
      refine r_iload_n C 1 (dk oX9_fact 22 rfl) rfl ?_
      refine r_iald C _ (dk oX9_fact 23 rfl) rfl (kn hn rfl) rfl (by omega) (by decide) ?_
      rw [show I 41 f_ = sPhi τ f_ 2 from hM.1 f_ h_f_ 2 (by decide)]
      refine hret (dk oX9_fact 24 rfl) rfl ?_
      refine ⟨?_, hCS, Fr.rf I J⟩
      unfold q_fact
      rw [if_pos (vd_n h_f_ (by omega)), cN_n (by omega), if_neg (by decide), if_neg (by decide), if_pos rfl]
    · refine r_tabIn (off := 63) (tgt := 74) C (dk oX9_fact 6 rfl) (by decide) (by decide) (by decide) (by decide) ?_
      refine r_aload_n C 0 (dk oX9_fact 25 rfl) rfl ?_
      refine r_getR C (dk oX9_fact 26 rfl) fl_X9_40 rfl (kn hn rfl) ?_
      refine r_getR C (dk oX9_fact 27 rfl) fl_X9_153 rfl (kn hn rfl) ?_
      refine r_iload_n C 1 (dk oX9_fact 28 rfl) rfl ?_
      refine r_iald C _ (dk oX9_fact 29 rfl) rfl (kn hn rfl) rfl (by omega) (by decide) ?_
      rw [show I 42 f_ = sPhi τ f_ 3 from hM.1 f_ h_f_ 3 (by decide)]
      refine hret (dk oX9_fact 30 rfl) rfl ?_
      refine ⟨?_, hCS, Fr.rf I J⟩
      unfold q_fact
      rw [if_pos (vd_n h_f_ (by omega)), cN_n (by omega), if_neg (by decide), if_neg (by decide), if_neg (by decide), if_pos rfl]
    · refine r_tabIn (off := 73) (tgt := 84) C (dk oX9_fact 6 rfl) (by decide) (by decide) (by decide) (by decide) ?_
      refine r_aload_n C 0 (dk oX9_fact 31 rfl) rfl ?_
      refine r_getR C (dk oX9_fact 32 rfl) fl_X9_40 rfl (kn hn rfl) ?_
      refine r_getR C (dk oX9_fact 33 rfl) fl_X9_156 rfl (kn hn rfl) ?_
      refine r_iload_n C 1 (dk oX9_fact 34 rfl) rfl ?_
      refine r_iald C _ (dk oX9_fact 35 rfl) rfl (kn hn rfl) rfl (by omega) (by decide) ?_
      rw [show I 43 f_ = sPhi τ f_ 4 from hM.1 f_ h_f_ 4 (by decide)]
      refine hret (dk oX9_fact 36 rfl) rfl ?_
      refine ⟨?_, hCS, Fr.rf I J⟩
      unfold q_fact
      rw [if_pos (vd_n h_f_ (by omega)), cN_n (by omega), if_neg (by decide), if_neg (by decide), if_neg (by decide), if_neg (by decide), if_pos rfl]
    · refine r_tabOut (tgt := 94) C (dk oX9_fact 6 rfl) hy (by decide) ?_
      refine r_ldc C (dk oX9_fact 37 rfl) kn_X9_70 ?_
      refine hret (dk oX9_fact 38 rfl) rfl ?_
      refine ⟨?_, hCS, Fr.rf I J⟩
      unfold q_fact
      rw [if_pos (vd_n h_f_ (by omega)), if_neg (sw_ne (n := 4) (k := 0) hy (by decide) (by decide)), if_neg (sw_ne (n := 4) (k := 1) hy (by decide) (by decide)), if_neg (sw_ne (n := 4) (k := 2) hy (by decide) (by decide)), if_neg (sw_ne (n := 4) (k := 3) hy (by decide) (by decide)), if_neg (sw_ne (n := 4) (k := 4) hy (by decide) (by decide))]
  · rw [b32_0, decide_eq_false_iff_not] at hb4
    refine r_ldc C (dk oX9_fact 3 rfl) kn_X9_143 ?_
    refine hret (dk oX9_fact 4 rfl) rfl ?_
    exact ⟨(if_neg hb4).symm, hCS, Fr.rf I J⟩

set_option maxHeartbeats 1000000 in
set_option maxRecDepth 100000 in
theorem c_X9_told (hn : 117 ≤ n) (I : MI) (J : MJ) (τ : St) (hCS : CS I J τ) (x y : Int32) : Ci l n ad cA D z 3 yX9_told cX9_told 3 .int I J [.ref (ad 0), .int x, .int y] (fun r I' J' => r = q_told τ x y ∧ CS I' J' τ ∧ Fr I I' J J') := by
  refine Ci.of (by decide) (Nat.le_of_ble_eq_true rfl) ?_
  intro p e s m args below meth c A C hin Z Q hret
  have hCS0 := hCS
  obtain ⟨hS, hKp, hM, hSil, hT, h16⟩ := hCS0
  obtain ⟨⟨hC, hco⟩, ⟨hP, hZ⟩, hK, hdu, hdu2, hse, hse2⟩ := hS
  have hnc : (sCl τ).1 ≤ 6 := hC.1
  have hnp : (sPp τ).1 ≤ 10 := hP.1
  have hnk : (sPk τ).1 ≤ 16 := hK.1
  have hL := hT.1
  have hop := @opN_lt (sPhi τ)
  have h386 : I 38 6 = nI (opN (sPhi τ)) := hM.2.1
  refine r_aload_n C 0 (dk oX9_told 0 rfl) rfl ?_
  refine r_iload_n C 1 (dk oX9_told 1 rfl) rfl ?_
  refine r_ivi C Z (dk oX9_told 2 rfl) cl_X9_159 ci_X9_isClaim rfl (kn hn rfl) (c_X9_isClaim hn I J (sCl τ).1 (by omega) hC.2.1 x) rfl rfl (Nat.le_of_ble_eq_true rfl) ⟨Nat.le_of_ble_eq_true rfl, Nat.le_of_ble_eq_true rfl⟩ ⟨Nat.zero_le _, Nat.zero_le _⟩ (fun r2 I2 J2 h2 => ?_)
  obtain ⟨h2, e1_, e2_⟩ := h2
  have e1_ := e1_.symm
  have e2_ := e2_.symm
  subst e1_
  subst e2_
  subst h2
  refine r_if_ne (tgt := 11) C (dk oX9_told 3 rfl) (by decide) (fun hb5 => ?_) (fun hb5 => ?_)
  · rw [b32_n, decide_eq_true_eq] at hb5
    obtain ⟨c_, h_c_, hx_c_⟩ := vd_of (by omega) hb5
    subst hx_c_
    refine r_iload_n C 2 (dk oX9_told 6 rfl) rfl ?_
    rcases sw2 y with rfl | rfl | rfl | hy
    · refine r_tabIn (off := 28) (tgt := 40) C (dk oX9_told 7 rfl) (by decide) (by decide) (by decide) (by decide) ?_
      refine r_aload_n C 0 (dk oX9_told 8 rfl) rfl ?_
      refine r_getR C (dk oX9_told 9 rfl) fl_X9_33 rfl (kn hn rfl) ?_
      refine r_getR C (dk oX9_told 10 rfl) fl_X9_81 rfl (kn hn rfl) ?_
      refine r_getR C (dk oX9_told 11 rfl) fl_X9_162 rfl (kn hn rfl) ?_
      refine r_iload_n C 1 (dk oX9_told 12 rfl) rfl ?_
      refine r_iald C _ (dk oX9_told 13 rfl) rfl (kn hn rfl) rfl (by omega) (by decide) ?_
      rw [show I 10 c_ = (sCl τ).2.1 c_ from (hC.2.2 c_ h_c_).1]
      refine hret (dk oX9_told 14 rfl) rfl ?_
      refine ⟨?_, hCS, Fr.rf I J⟩
      unfold q_told
      rw [if_pos (vd_n h_c_ (by omega)), cN_n (by omega), if_pos rfl]
    · refine r_tabIn (off := 41) (tgt := 53) C (dk oX9_told 7 rfl) (by decide) (by decide) (by decide) (by decide) ?_
      refine r_aload_n C 0 (dk oX9_told 15 rfl) rfl ?_
      refine r_getR C (dk oX9_told 16 rfl) fl_X9_33 rfl (kn hn rfl) ?_
      refine r_getR C (dk oX9_told 17 rfl) fl_X9_81 rfl (kn hn rfl) ?_
      refine r_getR C (dk oX9_told 18 rfl) fl_X9_165 rfl (kn hn rfl) ?_
      refine r_iload_n C 1 (dk oX9_told 19 rfl) rfl ?_
      refine r_iald C _ (dk oX9_told 20 rfl) rfl (kn hn rfl) rfl (by omega) (by decide) ?_
      rw [show I 11 c_ = nI (fsN ((sCl τ).2.2 c_)) from (hC.2.2 c_ h_c_).2.1]
      refine hret (dk oX9_told 21 rfl) rfl ?_
      refine ⟨?_, hCS, Fr.rf I J⟩
      unfold q_told
      rw [if_pos (vd_n h_c_ (by omega)), cN_n (by omega), if_neg (by decide), if_pos rfl]
    · refine r_tabIn (off := 54) (tgt := 66) C (dk oX9_told 7 rfl) (by decide) (by decide) (by decide) (by decide) ?_
      refine r_aload_n C 0 (dk oX9_told 22 rfl) rfl ?_
      refine r_iload_n C 1 (dk oX9_told 23 rfl) rfl ?_
      refine r_ivi C Z (dk oX9_told 24 rfl) cl_X9_168 ci_X9_sureness rfl (kn hn rfl) (c_X9_sureness hn I J (sCl τ).1 (sCl τ).2.1 (sCl τ).2.2 hC (sPhi τ) hM c_ h_c_) rfl rfl (Nat.le_of_ble_eq_true rfl) ⟨Nat.le_of_ble_eq_true rfl, Nat.le_of_ble_eq_true rfl⟩ ⟨Nat.zero_le _, Nat.zero_le _⟩ (fun r68 I68 J68 h68 => ?_)
      obtain ⟨h68, e1_, e2_⟩ := h68
      have e1_ := e1_.symm
      have e2_ := e2_.symm
      subst e1_
      subst e2_
      subst h68
      refine hret (dk oX9_told 25 rfl) rfl ?_
      refine ⟨?_, hCS, Fr.rf I J⟩
      unfold q_told
      rw [if_pos (vd_n h_c_ (by omega)), cN_n (by omega), if_neg (by decide), if_neg (by decide), if_pos rfl]
    · refine r_tabOut (tgt := 72) C (dk oX9_told 7 rfl) hy (by decide) ?_
      refine r_ldc C (dk oX9_told 26 rfl) kn_X9_70 ?_
      refine hret (dk oX9_told 27 rfl) rfl ?_
      refine ⟨?_, hCS, Fr.rf I J⟩
      unfold q_told
      rw [if_pos (vd_n h_c_ (by omega)), if_neg (sw_ne (n := 2) (k := 0) hy (by decide) (by decide)), if_neg (sw_ne (n := 2) (k := 1) hy (by decide) (by decide)), if_neg (sw_ne (n := 2) (k := 2) hy (by decide) (by decide))]
  · rw [b32_0, decide_eq_false_iff_not] at hb5
    refine r_ldc C (dk oX9_told 4 rfl) kn_X9_143 ?_
    refine hret (dk oX9_told 5 rfl) rfl ?_
    exact ⟨(if_neg hb5).symm, hCS, Fr.rf I J⟩

set_option maxHeartbeats 1000000 in
set_option maxRecDepth 100000 in
theorem c_X9_heard (hn : 117 ≤ n) (I : MI) (J : MJ) (τ : St) (hCS : CS I J τ) (x y : Int32) : Ci l n ad cA D z 1 yX9_heard cX9_heard 3 .int I J [.ref (ad 0), .int x, .int y] (fun r I' J' => r = q_heard τ x y ∧ CS I' J' τ ∧ Fr I I' J J') := by
  refine Ci.of (by decide) (Nat.le_of_ble_eq_true rfl) ?_
  intro p e s m args below meth c A C hin Z Q hret
  have hCS0 := hCS
  obtain ⟨hS, hKp, hM, hSil, hT, h16⟩ := hCS0
  obtain ⟨⟨hC, hco⟩, ⟨hP, hZ⟩, hK, hdu, hdu2, hse, hse2⟩ := hS
  have hnc : (sCl τ).1 ≤ 6 := hC.1
  have hnp : (sPp τ).1 ≤ 10 := hP.1
  have hnk : (sPk τ).1 ≤ 16 := hK.1
  have hL := hT.1
  have hop := @opN_lt (sPhi τ)
  have h386 : I 38 6 = nI (opN (sPhi τ)) := hM.2.1
  refine r_aload_n C 0 (dk oX9_heard 0 rfl) rfl ?_
  refine r_iload_n C 1 (dk oX9_heard 1 rfl) rfl ?_
  refine r_ivi C Z (dk oX9_heard 2 rfl) cl_X9_171 ci_X9_isPaper rfl (kn hn rfl) (c_X9_isPaper hn I J (sPp τ).1 (by omega) hP.2.1 x) rfl rfl (Nat.le_of_ble_eq_true rfl) ⟨Nat.le_of_ble_eq_true rfl, Nat.le_of_ble_eq_true rfl⟩ ⟨Nat.zero_le _, Nat.zero_le _⟩ (fun r2 I2 J2 h2 => ?_)
  obtain ⟨h2, e1_, e2_⟩ := h2
  have e1_ := e1_.symm
  have e2_ := e2_.symm
  subst e1_
  subst e2_
  subst h2
  refine r_if_ne (tgt := 11) C (dk oX9_heard 3 rfl) (by decide) (fun hb5 => ?_) (fun hb5 => ?_)
  · rw [b32_n, decide_eq_true_eq] at hb5
    obtain ⟨p_, h_p_, hx_p_⟩ := vd_of (by omega) hb5
    subst hx_p_
    refine r_iload_n C 2 (dk oX9_heard 6 rfl) rfl ?_
    rcases sw3 y with rfl | rfl | rfl | rfl | hy
    · refine r_tabIn (off := 32) (tgt := 44) C (dk oX9_heard 7 rfl) (by decide) (by decide) (by decide) (by decide) ?_
      refine r_aload_n C 0 (dk oX9_heard 8 rfl) rfl ?_
      refine r_getR C (dk oX9_heard 9 rfl) fl_X9_33 rfl (kn hn rfl) ?_
      refine r_getR C (dk oX9_heard 10 rfl) fl_X9_62 rfl (kn hn rfl) ?_
      refine r_getR C (dk oX9_heard 11 rfl) fl_X9_174 rfl (kn hn rfl) ?_
      refine r_iload_n C 1 (dk oX9_heard 12 rfl) rfl ?_
      refine r_iald C _ (dk oX9_heard 13 rfl) rfl (kn hn rfl) rfl (by omega) (by decide) ?_
      rw [show I 20 p_ = nI ((sPp τ).2.1 p_) from (hP.2.2 p_ h_p_).1]
      refine hret (dk oX9_heard 14 rfl) rfl ?_
      refine ⟨?_, hCS, Fr.rf I J⟩
      unfold q_heard
      rw [if_pos (vd_n h_p_ (by omega)), cN_n (by omega), if_pos rfl]
    · refine r_tabIn (off := 45) (tgt := 57) C (dk oX9_heard 7 rfl) (by decide) (by decide) (by decide) (by decide) ?_
      refine r_aload_n C 0 (dk oX9_heard 15 rfl) rfl ?_
      refine r_getR C (dk oX9_heard 16 rfl) fl_X9_33 rfl (kn hn rfl) ?_
      refine r_getR C (dk oX9_heard 17 rfl) fl_X9_62 rfl (kn hn rfl) ?_
      refine r_getI C (dk oX9_heard 18 rfl) fl_X9_177 rfl (kn hn rfl) ?_
      obtain ⟨X_, hX1, hX2, hX3⟩ := (hP.2.2 p_ h_p_).2.2.1
      rw [show I 19 1 = nI X_ from hX2]
      refine r_iload_n C 1 (dk oX9_heard 19 rfl) rfl ?_
      refine r_isi C Z (dk oX9_heard 20 rfl) cl_X9_180 st_X9_has (c_X9_has I J X_ p_ (by omega) (Nat.lt_of_lt_of_le h_p_ (Nat.le_trans hP.1 (by decide)))) rfl rfl (Nat.le_of_ble_eq_true rfl) ⟨Nat.le_of_ble_eq_true rfl, Nat.le_of_ble_eq_true rfl⟩ ⟨Nat.zero_le _, Nat.zero_le _⟩ (fun r68 I68 J68 h68 => ?_)
      obtain ⟨h68, e1_, e2_⟩ := h68
      have e1_ := e1_.symm
      have e2_ := e2_.symm
      subst e1_
      subst e2_
      subst h68
      rw [hX3]
      refine r_if_eq (tgt := 78) C (dk oX9_heard 21 rfl) (by decide) (fun hb71 => ?_) (fun hb71 => ?_)
      · rw [b32_0] at hb71
        refine r_iconst C (dk oX9_heard 24 rfl) (v := nI 0) (by decide) ?_
        refine hret (dk oX9_heard 25 rfl) rfl ?_
        refine ⟨?_, hCS, Fr.rf I J⟩
        unfold q_heard
        rw [if_pos (vd_n h_p_ (by omega)), cN_n (by omega), if_neg (by decide), if_pos rfl]
        rw [hb71]; rfl
      · rw [b32_n] at hb71
        refine r_iconst C (dk oX9_heard 22 rfl) (v := nI 1) (by decide) ?_
        refine r_goto (tgt := 79) C (dk oX9_heard 23 rfl) (by decide) ?_
        refine hret (dk oX9_heard 25 rfl) rfl ?_
        refine ⟨?_, hCS, Fr.rf I J⟩
        unfold q_heard
        rw [if_pos (vd_n h_p_ (by omega)), cN_n (by omega), if_neg (by decide), if_pos rfl]
        rw [hb71]; rfl
    · refine r_tabIn (off := 68) (tgt := 80) C (dk oX9_heard 7 rfl) (by decide) (by decide) (by decide) (by decide) ?_
      refine r_aload_n C 0 (dk oX9_heard 26 rfl) rfl ?_
      refine r_getR C (dk oX9_heard 27 rfl) fl_X9_33 rfl (kn hn rfl) ?_
      refine r_getR C (dk oX9_heard 28 rfl) fl_X9_62 rfl (kn hn rfl) ?_
      refine r_iload_n C 1 (dk oX9_heard 29 rfl) rfl ?_
      refine r_ivi C Z (dk oX9_heard 30 rfl) cl_X9_184 ci_X4_factSet rfl (kn hn rfl) (c_X4_factSet hn I J (sPp τ).1 (sPp τ).2.1 (sPp τ).2.2.1 (sPp τ).2.2.2 hP p_ h_p_) rfl rfl (Nat.le_of_ble_eq_true rfl) ⟨Nat.le_of_ble_eq_true rfl, Nat.le_of_ble_eq_true rfl⟩ ⟨Nat.zero_le _, Nat.zero_le _⟩ (fun r88 I88 J88 h88 => ?_)
      obtain ⟨h88, e1_, e2_⟩ := h88
      have e1_ := e1_.symm
      have e2_ := e2_.symm
      subst e1_
      subst e2_
      subst h88
      refine hret (dk oX9_heard 31 rfl) rfl ?_
      refine ⟨?_, hCS, Fr.rf I J⟩
      unfold q_heard
      rw [if_pos (vd_n h_p_ (by omega)), cN_n (by omega), if_neg (by decide), if_neg (by decide), if_pos rfl]
    · refine r_tabIn (off := 80) (tgt := 92) C (dk oX9_heard 7 rfl) (by decide) (by decide) (by decide) (by decide) ?_
      refine r_aload_n C 0 (dk oX9_heard 32 rfl) rfl ?_
      refine r_getR C (dk oX9_heard 33 rfl) fl_X9_40 rfl (kn hn rfl) ?_
      refine r_getR C (dk oX9_heard 34 rfl) fl_X9_187 rfl (kn hn rfl) ?_
      refine r_iload_n C 1 (dk oX9_heard 35 rfl) rfl ?_
      refine r_iald C _ (dk oX9_heard 36 rfl) rfl (kn hn rfl) rfl (by omega) (by decide) ?_
      rw [hSil p_ h_p_]
      refine hret (dk oX9_heard 37 rfl) rfl ?_
      refine ⟨?_, hCS, Fr.rf I J⟩
      unfold q_heard
      rw [if_pos (vd_n h_p_ (by omega)), cN_n (by omega), if_neg (by decide), if_neg (by decide), if_neg (by decide), if_pos rfl]
    · refine r_tabOut (tgt := 102) C (dk oX9_heard 7 rfl) hy (by decide) ?_
      refine r_ldc C (dk oX9_heard 38 rfl) kn_X9_70 ?_
      refine hret (dk oX9_heard 39 rfl) rfl ?_
      refine ⟨?_, hCS, Fr.rf I J⟩
      unfold q_heard
      rw [if_pos (vd_n h_p_ (by omega)), if_neg (sw_ne (n := 3) (k := 0) hy (by decide) (by decide)), if_neg (sw_ne (n := 3) (k := 1) hy (by decide) (by decide)), if_neg (sw_ne (n := 3) (k := 2) hy (by decide) (by decide)), if_neg (sw_ne (n := 3) (k := 3) hy (by decide) (by decide))]
  · rw [b32_0, decide_eq_false_iff_not] at hb5
    refine r_ldc C (dk oX9_heard 4 rfl) kn_X9_143 ?_
    refine hret (dk oX9_heard 5 rfl) rfl ?_
    exact ⟨(if_neg hb5).symm, hCS, Fr.rf I J⟩

set_option maxHeartbeats 1000000 in
set_option maxRecDepth 100000 in
theorem c_X9_holds (hn : 117 ≤ n) (I : MI) (J : MJ) (τ : St) (hCS : CS I J τ) (x y : Int32) : Ci l n ad cA D z 1 yX9_holds cX9_holds 3 .int I J [.ref (ad 0), .int x, .int y] (fun r I' J' => r = q_holds τ x y ∧ CS I' J' τ ∧ Fr I I' J J') := by
  refine Ci.of (by decide) (Nat.le_of_ble_eq_true rfl) ?_
  intro p e s m args below meth c A C hin Z Q hret
  have hCS0 := hCS
  obtain ⟨hS, hKp, hM, hSil, hT, h16⟩ := hCS0
  obtain ⟨⟨hC, hco⟩, ⟨hP, hZ⟩, hK, hdu, hdu2, hse, hse2⟩ := hS
  have hnc : (sCl τ).1 ≤ 6 := hC.1
  have hnp : (sPp τ).1 ≤ 10 := hP.1
  have hnk : (sPk τ).1 ≤ 16 := hK.1
  have hL := hT.1
  have hop := @opN_lt (sPhi τ)
  have h386 : I 38 6 = nI (opN (sPhi τ)) := hM.2.1
  refine r_aload_n C 0 (dk oX9_holds 0 rfl) rfl ?_
  refine r_iload_n C 1 (dk oX9_holds 1 rfl) rfl ?_
  refine r_ivi C Z (dk oX9_holds 2 rfl) cl_X9_159 ci_X9_isClaim rfl (kn hn rfl) (c_X9_isClaim hn I J (sCl τ).1 (by omega) hC.2.1 x) rfl rfl (Nat.le_of_ble_eq_true rfl) ⟨Nat.le_of_ble_eq_true rfl, Nat.le_of_ble_eq_true rfl⟩ ⟨Nat.zero_le _, Nat.zero_le _⟩ (fun r2 I2 J2 h2 => ?_)
  obtain ⟨h2, e1_, e2_⟩ := h2
  have e1_ := e1_.symm
  have e2_ := e2_.symm
  subst e1_
  subst e2_
  subst h2
  refine r_if_eq (tgt := 22) C (dk oX9_holds 3 rfl) (by decide) (fun hb5 => ?_) (fun hb5 => ?_)
  · rw [b32_0, decide_eq_false_iff_not] at hb5
    refine r_ldc C (dk oX9_holds 12 rfl) kn_X9_143 ?_
    refine hret (dk oX9_holds 13 rfl) rfl ?_
    first
      | exact ⟨(if_neg (fun q => hb5 q.1)).symm, hCS, Fr.rf I J⟩
      | exact ⟨(if_neg (fun q => hb19 q.2)).symm, hCS, Fr.rf I J⟩
  · rw [b32_n, decide_eq_true_eq] at hb5
    obtain ⟨c_, h_c_, hx_c_⟩ := vd_of (by omega) hb5
    subst hx_c_
    refine r_iload_n C 2 (dk oX9_holds 4 rfl) rfl ?_
    refine r_aload_n C 0 (dk oX9_holds 5 rfl) rfl ?_
    refine r_getR C (dk oX9_holds 6 rfl) fl_X9_40 rfl (kn hn rfl) ?_
    refine r_getI C (dk oX9_holds 7 rfl) fl_X9_190 rfl (kn hn rfl) ?_
    rw [h386]
    refine r_iconst C (dk oX9_holds 8 rfl) (v := -1) (by decide) ?_
    refine r_ixor C (dk oX9_holds 9 rfl) ?_
    refine r_iand C (dk oX9_holds 10 rfl) ?_
    refine r_if_eq (tgt := 25) C (dk oX9_holds 11 rfl) (by decide) (fun hb19 => ?_) (fun hb19 => ?_)
    · have hb19b := hb19
      obtain ⟨s_, hs1, hs2, hs3⟩ := hs_of hop hb19
      subst hs3
      refine r_aload_n C 0 (dk oX9_holds 14 rfl) rfl ?_
      refine r_getR C (dk oX9_holds 15 rfl) fl_X9_33 rfl (kn hn rfl) ?_
      refine r_getR C (dk oX9_holds 16 rfl) fl_X9_81 rfl (kn hn rfl) ?_
      refine r_iload_n C 1 (dk oX9_holds 17 rfl) rfl ?_
      refine r_aload_n C 0 (dk oX9_holds 18 rfl) rfl ?_
      refine r_getR C (dk oX9_holds 19 rfl) fl_X9_40 rfl (kn hn rfl) ?_
      refine r_iload_n C 2 (dk oX9_holds 20 rfl) rfl ?_
      refine r_ivi C Z (dk oX9_holds 21 rfl) cl_X9_193 ci_X2_soBy rfl (kn hn rfl) (c38_X2_soBy hn I J s_ (bS (fun f => asB (sPhi τ f)) 12) (bS (fun f => onB (sPhi τ f)) 12) hM.2.2.2 hM.2.2.1) rfl rfl (Nat.le_of_ble_eq_true rfl) ⟨Nat.le_of_ble_eq_true rfl, Nat.le_of_ble_eq_true rfl⟩ ⟨Nat.zero_le _, Nat.zero_le _⟩ (fun r38 I38 J38 h38 => ?_)
      obtain ⟨h38, e1_, e2_⟩ := h38
      have e1_ := e1_.symm
      have e2_ := e2_.symm
      subst e1_
      subst e2_
      subst h38
      refine r_ivi C Z (dk oX9_holds 22 rfl) cl_X9_196 ci_X1_isOwed rfl (kn hn rfl) (c_X1_isOwed hn I J c_ (soN (sPhi τ) s_) ((sCl τ).2.2 c_) (by omega) (soN_lt hs1) (hC.2.2 c_ h_c_).2.2.2) rfl rfl (Nat.le_of_ble_eq_true rfl) ⟨Nat.le_of_ble_eq_true rfl, Nat.le_of_ble_eq_true rfl⟩ ⟨Nat.zero_le _, Nat.zero_le _⟩ (fun r41 I41 J41 h41 => ?_)
      obtain ⟨h41, e1_, e2_⟩ := h41
      have e1_ := e1_.symm
      have e2_ := e2_.symm
      subst e1_
      subst e2_
      subst h41
      refine r_if_eq (tgt := 51) C (dk oX9_holds 23 rfl) (by decide) (fun hb44 => ?_) (fun hb44 => ?_)
      · rw [b32_0] at hb44
        refine r_iconst C (dk oX9_holds 26 rfl) (v := nI 0) (by decide) ?_
        refine hret (dk oX9_holds 27 rfl) rfl ?_
        refine ⟨?_, hCS, Fr.rf I J⟩
        unfold q_holds
        rw [if_pos ⟨vd_n h_c_ (by omega), hb19b⟩, cN_n (by omega), cN_n (by omega), hb44]; rfl
      · rw [b32_n] at hb44
        refine r_iconst C (dk oX9_holds 24 rfl) (v := nI 1) (by decide) ?_
        refine r_goto (tgt := 52) C (dk oX9_holds 25 rfl) (by decide) ?_
        refine hret (dk oX9_holds 27 rfl) rfl ?_
        refine ⟨?_, hCS, Fr.rf I J⟩
        unfold q_holds
        rw [if_pos ⟨vd_n h_c_ (by omega), hb19b⟩, cN_n (by omega), cN_n (by omega), hb44]; rfl
    · refine r_ldc C (dk oX9_holds 12 rfl) kn_X9_143 ?_
      refine hret (dk oX9_holds 13 rfl) rfl ?_
      first
        | exact ⟨(if_neg (fun q => hb5 q.1)).symm, hCS, Fr.rf I J⟩
        | exact ⟨(if_neg (fun q => hb19 q.2)).symm, hCS, Fr.rf I J⟩

set_option maxHeartbeats 1000000 in
set_option maxRecDepth 100000 in
theorem c_X9_turns (hn : 117 ≤ n) (I : MI) (J : MJ) (τ : St) (hCS : CS I J τ) (x : Int32) : Ci l n ad cA D z 3 yX9_turns cX9_turns 4 .int I J [.ref (ad 0), .int x] (fun r I' J' => r = q_turns τ x ∧ CS I' J' τ ∧ Fr I I' J J') := by
  refine Ci.of (by decide) (Nat.le_of_ble_eq_true rfl) ?_
  intro p e s m args below meth c A C hin Z Q hret
  have hCS0 := hCS
  obtain ⟨hS, hKp, hM, hSil, hT, h16⟩ := hCS0
  obtain ⟨⟨hC, hco⟩, ⟨hP, hZ⟩, hK, hdu, hdu2, hse, hse2⟩ := hS
  have hnc : (sCl τ).1 ≤ 6 := hC.1
  have hnp : (sPp τ).1 ≤ 10 := hP.1
  have hnk : (sPk τ).1 ≤ 16 := hK.1
  have hL := hT.1
  have hop := @opN_lt (sPhi τ)
  have h386 : I 38 6 = nI (opN (sPhi τ)) := hM.2.1
  refine r_aload_n C 0 (dk oX9_turns 0 rfl) rfl ?_
  refine r_iload_n C 1 (dk oX9_turns 1 rfl) rfl ?_
  refine r_ivi C Z (dk oX9_turns 2 rfl) cl_X9_159 ci_X9_isClaim rfl (kn hn rfl) (c_X9_isClaim hn I J (sCl τ).1 (by omega) hC.2.1 x) rfl rfl (Nat.le_of_ble_eq_true rfl) ⟨Nat.le_of_ble_eq_true rfl, Nat.le_of_ble_eq_true rfl⟩ ⟨Nat.zero_le _, Nat.zero_le _⟩ (fun r2 I2 J2 h2 => ?_)
  obtain ⟨h2, e1_, e2_⟩ := h2
  have e1_ := e1_.symm
  have e2_ := e2_.symm
  subst e1_
  subst e2_
  subst h2
  refine r_if_ne (tgt := 11) C (dk oX9_turns 3 rfl) (by decide) (fun hb5 => ?_) (fun hb5 => ?_)
  · rw [b32_n, decide_eq_true_eq] at hb5
    obtain ⟨c_, h_c_, hx_c_⟩ := vd_of (by omega) hb5
    subst hx_c_
    refine r_iconst C (dk oX9_turns 6 rfl) (v := nI 0) (by decide) ?_
    refine r_istore_n (lo' := [(2, _), (0, _), (1, _)]) C (dk oX9_turns 7 rfl) rfl (by decide) rfl ?_
    refine r_iconst C (dk oX9_turns 8 rfl) (v := nI 0) (by decide) ?_
    refine r_istore_n (lo' := [(3, _), (2, _), (0, _), (1, _)]) C (dk oX9_turns 9 rfl) rfl (by decide) rfl ?_
    have L15 : ∀ (d_ : Nat) (f_ : Nat), 12 - f_ < d_ → f_ ≤ 12 → V p l e (rmL 3) s m args below meth c Q D A 4 0 0 n ad (mE cA ad I J) 15 [(0, .ref (ad 0)), (1, .int (nI c_)), (2, .int (nI (bS (fun f => (opN (sPhi τ)).testBit f && tnB ((sCl τ).2.2 c_) (sPhi τ) f) f_))), (3, .int (nI f_))] [] := by
      intro d_
      induction d_ with
      | zero => intros; exact absurd (by assumption) (Nat.not_lt_zero _)
      | succ d_ ih => 
        intro f_ hd_ hf
        refine r_iload_n C 3 (dk oX9_turns 10 rfl) rfl ?_
        refine r_bipush C (dk oX9_turns 11 rfl) (v := nI 12) (by decide) ?_
        refine r_icmp_ge (tgt := 56) C (dk oX9_turns 12 rfl) (by decide) (fun hb18 => ?_) (fun hb18 => ?_)
        · simp (disch := omega) only [nI_leI, nI_ltI, nI_eq, nI_eq0] at hb18
          refine r_iload_n C 2 (dk oX9_turns 32 rfl) rfl ?_
          refine hret (dk oX9_turns 33 rfl) rfl ?_
          refine ⟨?_, hCS, Fr.rf I J⟩
          unfold q_turns
          rw [if_pos (vd_n h_c_ (by omega)), cN_n (by omega), show f_ = 12 by omega]
        · simp (disch := omega) only [nI_leI, nI_ltI, nI_eq, nI_eq0] at hb18
          refine r_aload_n C 0 (dk oX9_turns 13 rfl) rfl ?_
          refine r_getR C (dk oX9_turns 14 rfl) fl_X9_40 rfl (kn hn rfl) ?_
          refine r_getI C (dk oX9_turns 15 rfl) fl_X9_190 rfl (kn hn rfl) ?_
          rw [h386]
          refine r_iload_n C 3 (dk oX9_turns 16 rfl) rfl ?_
          refine r_isi C Z (dk oX9_turns 17 rfl) cl_X9_180 st_X9_has (c_X9_has I J (opN (sPhi τ)) f_ (by omega) (by omega)) rfl rfl (Nat.le_of_ble_eq_true rfl) ⟨Nat.le_of_ble_eq_true rfl, Nat.le_of_ble_eq_true rfl⟩ ⟨Nat.zero_le _, Nat.zero_le _⟩ (fun r29 I29 J29 h29 => ?_)
          obtain ⟨h29, e1_, e2_⟩ := h29
          have e1_ := e1_.symm
          have e2_ := e2_.symm
          subst e1_
          subst e2_
          subst h29
          refine r_if_eq (tgt := 50) C (dk oX9_turns 18 rfl) (by decide) (fun hb32 => ?_) (fun hb32 => ?_)
          · rw [b32_0] at hb32
            refine r_iinc (lo' := [(3, _), (0, _), (1, _), (2, _)]) C 3 (dk oX9_turns 30 rfl) rfl (by first | exact nI_inc _ | rfl) (by decide) rfl ?_
            refine r_goto (tgt := 15) C (dk oX9_turns 31 rfl) (by decide) ?_
            refine V.sub [1, 2, 3, 0] rfl ?_
            have hih := ih (f_ + 1) (by omega) (by omega)
            rw [show bS (fun f => (opN (sPhi τ)).testBit f && tnB ((sCl τ).2.2 c_) (sPhi τ) f) (f_ + 1) = if ((opN (sPhi τ)).testBit f_ && tnB ((sCl τ).2.2 c_) (sPhi τ) f_) = true then bS (fun f => (opN (sPhi τ)).testBit f && tnB ((sCl τ).2.2 c_) (sPhi τ) f) f_ ||| 2 ^ f_ else bS (fun f => (opN (sPhi τ)).testBit f && tnB ((sCl τ).2.2 c_) (sPhi τ) f) f_ from rfl] at hih
            first
              | rw [if_neg (by rw [hb32, Bool.false_and]; decide)] at hih
              | rw [if_neg (by rw [hb41, Bool.and_false]; decide)] at hih
              | rw [if_pos (by rw [hb32, hb41]; rfl)] at hih
            exact hih
          · rw [b32_n] at hb32
            refine r_aload_n C 0 (dk oX9_turns 19 rfl) rfl ?_
            refine r_iload_n C 1 (dk oX9_turns 20 rfl) rfl ?_
            refine r_iload_n C 3 (dk oX9_turns 21 rfl) rfl ?_
            refine r_ivi C Z (dk oX9_turns 22 rfl) cl_X9_199 ci_X9_turnsOn rfl (kn hn rfl) (c_X9_turnsOn hn I J (sCl τ).1 (sCl τ).2.1 (sCl τ).2.2 hC (sPhi τ) hM c_ h_c_ f_ (by omega)) rfl rfl (Nat.le_of_ble_eq_true rfl) ⟨Nat.le_of_ble_eq_true rfl, Nat.le_of_ble_eq_true rfl⟩ ⟨Nat.zero_le _, Nat.zero_le _⟩ (fun r38 I38 J38 h38 => ?_)
            obtain ⟨h38, e1_, e2_⟩ := h38
            have e1_ := e1_.symm
            have e2_ := e2_.symm
            subst e1_
            subst e2_
            subst h38
            refine r_if_eq (tgt := 50) C (dk oX9_turns 23 rfl) (by decide) (fun hb41 => ?_) (fun hb41 => ?_)
            · rw [b32_0] at hb41
              refine r_iinc (lo' := [(3, _), (0, _), (1, _), (2, _)]) C 3 (dk oX9_turns 30 rfl) rfl (by first | exact nI_inc _ | rfl) (by decide) rfl ?_
              refine r_goto (tgt := 15) C (dk oX9_turns 31 rfl) (by decide) ?_
              refine V.sub [1, 2, 3, 0] rfl ?_
              have hih := ih (f_ + 1) (by omega) (by omega)
              rw [show bS (fun f => (opN (sPhi τ)).testBit f && tnB ((sCl τ).2.2 c_) (sPhi τ) f) (f_ + 1) = if ((opN (sPhi τ)).testBit f_ && tnB ((sCl τ).2.2 c_) (sPhi τ) f_) = true then bS (fun f => (opN (sPhi τ)).testBit f && tnB ((sCl τ).2.2 c_) (sPhi τ) f) f_ ||| 2 ^ f_ else bS (fun f => (opN (sPhi τ)).testBit f && tnB ((sCl τ).2.2 c_) (sPhi τ) f) f_ from rfl] at hih
              first
                | rw [if_neg (by rw [hb32, Bool.false_and]; decide)] at hih
                | rw [if_neg (by rw [hb41, Bool.and_false]; decide)] at hih
                | rw [if_pos (by rw [hb32, hb41]; rfl)] at hih
              exact hih
            · rw [b32_n] at hb41
              refine r_iload_n C 2 (dk oX9_turns 24 rfl) rfl ?_
              refine r_iconst C (dk oX9_turns 25 rfl) (v := nI 1) (by decide) ?_
              refine r_iload_n C 3 (dk oX9_turns 26 rfl) rfl ?_
              refine r_ishl C (dk oX9_turns 27 rfl) ?_
              refine r_ior C (dk oX9_turns 28 rfl) ?_
              rw [or_bit (by omega)]
              refine r_istore_n (lo' := [(2, _), (0, _), (1, _), (3, _)]) C (dk oX9_turns 29 rfl) rfl (by decide) rfl ?_
              refine r_iinc (lo' := [(3, _), (2, _), (0, _), (1, _)]) C 3 (dk oX9_turns 30 rfl) rfl (by first | exact nI_inc _ | rfl) (by decide) rfl ?_
              refine r_goto (tgt := 15) C (dk oX9_turns 31 rfl) (by decide) ?_
              refine V.sub [2, 3, 1, 0] rfl ?_
              have hih := ih (f_ + 1) (by omega) (by omega)
              rw [show bS (fun f => (opN (sPhi τ)).testBit f && tnB ((sCl τ).2.2 c_) (sPhi τ) f) (f_ + 1) = if ((opN (sPhi τ)).testBit f_ && tnB ((sCl τ).2.2 c_) (sPhi τ) f_) = true then bS (fun f => (opN (sPhi τ)).testBit f && tnB ((sCl τ).2.2 c_) (sPhi τ) f) f_ ||| 2 ^ f_ else bS (fun f => (opN (sPhi τ)).testBit f && tnB ((sCl τ).2.2 c_) (sPhi τ) f) f_ from rfl] at hih
              first
                | rw [if_neg (by rw [hb32, Bool.false_and]; decide)] at hih
                | rw [if_neg (by rw [hb41, Bool.and_false]; decide)] at hih
                | rw [if_pos (by rw [hb32, hb41]; rfl)] at hih
              exact hih
    refine V.sub [2, 3, 1, 0] rfl ?_
    exact L15 13 0 (by omega) (Nat.zero_le _)
  · rw [b32_0, decide_eq_false_iff_not] at hb5
    refine r_ldc C (dk oX9_turns 4 rfl) kn_X9_143 ?_
    refine hret (dk oX9_turns 5 rfl) rfl ?_
    exact ⟨(if_neg hb5).symm, hCS, Fr.rf I J⟩

set_option maxHeartbeats 1000000 in
set_option maxRecDepth 100000 in
theorem c_X9_enough (hn : 117 ≤ n) (I : MI) (J : MJ) (τ : St) (hCS : CS I J τ) (x : Int32) : Ci l n ad cA D z 3 yX9_enough cX9_enough 7 .int I J [.ref (ad 0), .int x] (fun r I' J' => r = q_enough τ x ∧ CS I' J' τ ∧ Fr I I' J J') := by
  refine Ci.of (by decide) (Nat.le_of_ble_eq_true rfl) ?_
  intro p e s m args below meth c A C hin Z Q hret
  have hCS0 := hCS
  obtain ⟨hS, hKp, hM, hSil, hT, h16⟩ := hCS0
  obtain ⟨⟨hC, hco⟩, ⟨hP, hZ⟩, hK, hdu, hdu2, hse, hse2⟩ := hS
  have hnc : (sCl τ).1 ≤ 6 := hC.1
  have hnp : (sPp τ).1 ≤ 10 := hP.1
  have hnk : (sPk τ).1 ≤ 16 := hK.1
  have hL := hT.1
  have hop := @opN_lt (sPhi τ)
  have h386 : I 38 6 = nI (opN (sPhi τ)) := hM.2.1
  refine r_aload_n C 0 (dk oX9_enough 0 rfl) rfl ?_
  refine r_iload_n C 1 (dk oX9_enough 1 rfl) rfl ?_
  refine r_ivi C Z (dk oX9_enough 2 rfl) cl_X9_159 ci_X9_isClaim rfl (kn hn rfl) (c_X9_isClaim hn I J (sCl τ).1 (by omega) hC.2.1 x) rfl rfl (Nat.le_of_ble_eq_true rfl) ⟨Nat.le_of_ble_eq_true rfl, Nat.le_of_ble_eq_true rfl⟩ ⟨Nat.zero_le _, Nat.zero_le _⟩ (fun r2 I2 J2 h2 => ?_)
  obtain ⟨h2, e1_, e2_⟩ := h2
  have e1_ := e1_.symm
  have e2_ := e2_.symm
  subst e1_
  subst e2_
  subst h2
  refine r_if_ne (tgt := 11) C (dk oX9_enough 3 rfl) (by decide) (fun hb5 => ?_) (fun hb5 => ?_)
  · rw [b32_n, decide_eq_true_eq] at hb5
    obtain ⟨c_, h_c_, hx_c_⟩ := vd_of (by omega) hb5
    subst hx_c_
    refine r_aload_n C 0 (dk oX9_enough 6 rfl) rfl ?_
    refine r_getR C (dk oX9_enough 7 rfl) fl_X9_40 rfl (kn hn rfl) ?_
    refine r_getI C (dk oX9_enough 8 rfl) fl_X9_190 rfl (kn hn rfl) ?_
    rw [h386]
    refine r_istore_n (lo' := [(2, _), (0, _), (1, _)]) C (dk oX9_enough 9 rfl) rfl (by decide) rfl ?_
    have hwl := hop
    have hways := p2pc hop
    have hpos := p2pos (opN (sPhi τ))
    have hpcl := pc_le (opN (sPhi τ))
    refine r_iload_n C 0 (dk oX9_enough 10 rfl) rfl ?_
    refine r_isi C Z (dk oX9_enough 11 rfl) cl_X9_202 st_J6_bitCount_0f7a4 (c_J6_bitCount_0f7a4 I J (opN (sPhi τ)) (by omega)) rfl rfl (Nat.le_of_ble_eq_true rfl) ⟨Nat.le_of_ble_eq_true rfl, Nat.le_of_ble_eq_true rfl⟩ ⟨Nat.zero_le _, Nat.zero_le _⟩ (fun r20 I20 J20 h20 => ?_)
    obtain ⟨h20, e1_, e2_⟩ := h20
    have e1_ := e1_.symm
    have e2_ := e2_.symm
    subst e1_
    subst e2_
    subst h20
    refine r_bipush C (dk oX9_enough 12 rfl) (v := nI 8) (by decide) ?_
    refine r_icmp_le (tgt := 31) C (dk oX9_enough 13 rfl) (by decide) (fun hb25 => ?_) (fun hb25 => ?_)
    · simp (disch := omega) only [nI_leI, nI_ltI, nI_eq, nI_eq0] at hb25
      refine r_iconst C (dk oX9_enough 16 rfl) (v := -1) (by decide) ?_
      refine r_istore_n (lo' := [(3, _), (2, _), (0, _), (1, _)]) C (dk oX9_enough 17 rfl) rfl (by decide) rfl ?_
      refine r_iload_n C 1 (dk oX9_enough 18 rfl) rfl ?_
      refine r_isi C Z (dk oX9_enough 19 rfl) cl_X9_207 st_X9_setsWithin (c_X9_setsWithin I J (opN (sPhi τ)) (by omega)) rfl rfl (Nat.le_of_ble_eq_true rfl) ⟨Nat.le_of_ble_eq_true rfl, Nat.le_of_ble_eq_true rfl⟩ ⟨Nat.zero_le _, Nat.zero_le _⟩ (fun r34 I34 J34 h34 => ?_)
      obtain ⟨h34, e1_, e2_⟩ := h34
      have e1_ := e1_.symm
      have e2_ := e2_.symm
      subst e1_
      subst e2_
      subst h34
      refine r_istore (lo' := [(4, _), (3, _), (2, _), (0, _), (1, _)]) C (dk oX9_enough 20 rfl) (by decide) rfl ?_
      refine r_iconst C (dk oX9_enough 21 rfl) (v := nI 0) (by decide) ?_
      refine r_istore (lo' := [(5, _), (4, _), (3, _), (2, _), (0, _), (1, _)]) C (dk oX9_enough 22 rfl) (by decide) rfl ?_
      refine r_iconst C (dk oX9_enough 23 rfl) (v := nI 0) (by decide) ?_
      refine r_istore (lo' := [(6, _), (5, _), (4, _), (3, _), (2, _), (0, _), (1, _)]) C (dk oX9_enough 24 rfl) (by decide) rfl ?_
      have L45 : ∀ (d_ : Nat) (i : Nat), 2 ^ pc (opN (sPhi τ)) - i < d_ → i ≤ 2 ^ pc (opN (sPhi τ)) → V p l e (rmL 3) s m args below meth c Q D A 7 0 0 n ad (mE cA ad I J) 45 [(0, .ref (ad 0)), (1, .int (nI c_)), (2, .int (nI (opN (sPhi τ)))), (3, .int (ofO (fwN (fun S => enB ((sCl τ).2.2 c_) (sPhi τ) S) (opN (sPhi τ)) i))), (4, .int (nI (2 ^ pc (opN (sPhi τ))))), (5, .int (nI i)), (6, .int (nI (pd i (opN (sPhi τ)))))] [] := by
        intro d_
        induction d_ with
        | zero => intros; exact absurd (by assumption) (Nat.not_lt_zero _)
        | succ d_ ih => 
          intro i hd_ hi
          refine r_iload C 5 (dk oX9_enough 25 rfl) rfl ?_
          refine r_iload C 4 (dk oX9_enough 26 rfl) rfl ?_
          refine r_icmp_ge (tgt := 88) C (dk oX9_enough 27 rfl) (by decide) (fun hb49 => ?_) (fun hb49 => ?_)
          · simp (disch := omega) only [nI_leI, nI_ltI, nI_eq, nI_eq0] at hb49
            refine r_iload_n C 3 (dk oX9_enough 45 rfl) rfl ?_
            refine hret (dk oX9_enough 46 rfl) rfl ?_
            refine ⟨?_, hCS, Fr.rf I J⟩
            unfold q_enough
            rw [if_pos (vd_n h_c_ (by omega)), if_neg (by omega), cN_n (by omega), show 2 ^ pc (opN (sPhi τ)) = i by omega]
          · simp (disch := omega) only [nI_leI, nI_ltI, nI_eq, nI_eq0] at hb49
            refine r_iload C 6 (dk oX9_enough 28 rfl) rfl ?_
            refine r_iload_n C 3 (dk oX9_enough 29 rfl) rfl ?_
            refine r_isi C Z (dk oX9_enough 30 rfl) cl_X9_210 st_X9_isFewer (c_X9_isFewer I J (pd i (opN (sPhi τ))) (by have := @pd_le i (opN (sPhi τ)); omega) ((fwN (fun S => enB ((sCl τ).2.2 c_) (sPhi τ) S) (opN (sPhi τ)) i).getD 0) (ofO (fwN (fun S => enB ((sCl τ).2.2 c_) (sPhi τ) S) (opN (sPhi τ)) i)) (ofO_ok hwl)) rfl rfl (Nat.le_of_ble_eq_true rfl) ⟨Nat.le_of_ble_eq_true rfl, Nat.le_of_ble_eq_true rfl⟩ ⟨Nat.zero_le _, Nat.zero_le _⟩ (fun r55 I55 J55 h55 => ?_)
            obtain ⟨h55, e1_, e2_⟩ := h55
            have e1_ := e1_.symm
            have e2_ := e2_.symm
            subst e1_
            subst e2_
            subst h55
            refine r_if_eq (tgt := 74) C (dk oX9_enough 31 rfl) (by decide) (fun hb58 => ?_) (fun hb58 => ?_)
            · rw [b32_0] at hb58
              refine r_iinc (lo' := [(5, _), (0, _), (1, _), (2, _), (3, _), (4, _), (6, _)]) C 5 (dk oX9_enough 39 rfl) rfl (by first | exact nI_inc _ | rfl) (by decide) rfl ?_
              refine r_iload C 6 (dk oX9_enough 40 rfl) rfl ?_
              refine r_iload_n C 3 (dk oX9_enough 41 rfl) rfl ?_
              refine r_isi C Z (dk oX9_enough 42 rfl) cl_X9_216 st_X9_nextSet (c_X9_nextSet I J i (opN (sPhi τ)) (by omega)) rfl rfl (Nat.le_of_ble_eq_true rfl) ⟨Nat.le_of_ble_eq_true rfl, Nat.le_of_ble_eq_true rfl⟩ ⟨Nat.zero_le _, Nat.zero_le _⟩ (fun r80 I80 J80 h80 => ?_)
              obtain ⟨h80, e1_, e2_⟩ := h80
              have e1_ := e1_.symm
              have e2_ := e2_.symm
              subst e1_
              subst e2_
              subst h80
              refine r_istore (lo' := [(6, _), (5, _), (0, _), (1, _), (2, _), (3, _), (4, _)]) C (dk oX9_enough 43 rfl) (by decide) rfl ?_
              refine r_goto (tgt := 45) C (dk oX9_enough 44 rfl) (by decide) ?_
              refine V.sub [2, 3, 4, 5, 6, 1, 0] rfl ?_
              have hih := ih (i + 1) (by omega) (by omega)
              first
                | rw [fw_f1 (P := (fun S => enB ((sCl τ).2.2 c_) (sPhi τ) S)) (by rw [← fw_fewer hwl]; exact hb58)] at hih
                | rw [fw_f2 (P := (fun S => enB ((sCl τ).2.2 c_) (sPhi τ) S)) (i := i) hb68] at hih
                | rw [fw_t (P := (fun S => enB ((sCl τ).2.2 c_) (sPhi τ) S)) (i := i) (by rw [← fw_fewer hwl]; exact hb58) hb68] at hih
              exact hih
            · rw [b32_n] at hb58
              refine r_aload_n C 0 (dk oX9_enough 32 rfl) rfl ?_
              refine r_iload_n C 1 (dk oX9_enough 33 rfl) rfl ?_
              refine r_iload C 6 (dk oX9_enough 34 rfl) rfl ?_
              refine r_ivi C Z (dk oX9_enough 35 rfl) cl_X9_213 ci_X9_isEnough rfl (kn hn rfl) (c_X9_isEnough hn I J (sCl τ).1 (sCl τ).2.1 (sCl τ).2.2 hC (sPhi τ) hM c_ h_c_ (pd i (opN (sPhi τ))) (pd12 hop)) rfl rfl (Nat.le_of_ble_eq_true rfl) ⟨Nat.le_of_ble_eq_true rfl, Nat.le_of_ble_eq_true rfl⟩ ⟨Nat.zero_le _, Nat.zero_le _⟩ (fun r65 I65 J65 h65 => ?_)
              obtain ⟨h65, e1_, e2_⟩ := h65
              have e1_ := e1_.symm
              have e2_ := e2_.symm
              subst e1_
              subst e2_
              subst h65
              refine r_if_eq (tgt := 74) C (dk oX9_enough 36 rfl) (by decide) (fun hb68 => ?_) (fun hb68 => ?_)
              · rw [b32_0] at hb68
                refine r_iinc (lo' := [(5, _), (0, _), (1, _), (2, _), (3, _), (4, _), (6, _)]) C 5 (dk oX9_enough 39 rfl) rfl (by first | exact nI_inc _ | rfl) (by decide) rfl ?_
                refine r_iload C 6 (dk oX9_enough 40 rfl) rfl ?_
                refine r_iload_n C 3 (dk oX9_enough 41 rfl) rfl ?_
                refine r_isi C Z (dk oX9_enough 42 rfl) cl_X9_216 st_X9_nextSet (c_X9_nextSet I J i (opN (sPhi τ)) (by omega)) rfl rfl (Nat.le_of_ble_eq_true rfl) ⟨Nat.le_of_ble_eq_true rfl, Nat.le_of_ble_eq_true rfl⟩ ⟨Nat.zero_le _, Nat.zero_le _⟩ (fun r80 I80 J80 h80 => ?_)
                obtain ⟨h80, e1_, e2_⟩ := h80
                have e1_ := e1_.symm
                have e2_ := e2_.symm
                subst e1_
                subst e2_
                subst h80
                refine r_istore (lo' := [(6, _), (5, _), (0, _), (1, _), (2, _), (3, _), (4, _)]) C (dk oX9_enough 43 rfl) (by decide) rfl ?_
                refine r_goto (tgt := 45) C (dk oX9_enough 44 rfl) (by decide) ?_
                refine V.sub [2, 3, 4, 5, 6, 1, 0] rfl ?_
                have hih := ih (i + 1) (by omega) (by omega)
                first
                  | rw [fw_f1 (P := (fun S => enB ((sCl τ).2.2 c_) (sPhi τ) S)) (by rw [← fw_fewer hwl]; exact hb58)] at hih
                  | rw [fw_f2 (P := (fun S => enB ((sCl τ).2.2 c_) (sPhi τ) S)) (i := i) hb68] at hih
                  | rw [fw_t (P := (fun S => enB ((sCl τ).2.2 c_) (sPhi τ) S)) (i := i) (by rw [← fw_fewer hwl]; exact hb58) hb68] at hih
                exact hih
              · rw [b32_n] at hb68
                refine r_iload C 6 (dk oX9_enough 37 rfl) rfl ?_
                refine r_istore_n (lo' := [(3, _), (0, _), (1, _), (2, _), (4, _), (5, _), (6, _)]) C (dk oX9_enough 38 rfl) rfl (by decide) rfl ?_
                refine r_iinc (lo' := [(5, _), (3, _), (0, _), (1, _), (2, _), (4, _), (6, _)]) C 5 (dk oX9_enough 39 rfl) rfl (by first | exact nI_inc _ | rfl) (by decide) rfl ?_
                refine r_iload C 6 (dk oX9_enough 40 rfl) rfl ?_
                refine r_iload_n C 4 (dk oX9_enough 41 rfl) rfl ?_
                refine r_isi C Z (dk oX9_enough 42 rfl) cl_X9_216 st_X9_nextSet (c_X9_nextSet I J i (opN (sPhi τ)) (by omega)) rfl rfl (Nat.le_of_ble_eq_true rfl) ⟨Nat.le_of_ble_eq_true rfl, Nat.le_of_ble_eq_true rfl⟩ ⟨Nat.zero_le _, Nat.zero_le _⟩ (fun r80 I80 J80 h80 => ?_)
                obtain ⟨h80, e1_, e2_⟩ := h80
                have e1_ := e1_.symm
                have e2_ := e2_.symm
                subst e1_
                subst e2_
                subst h80
                refine r_istore (lo' := [(6, _), (5, _), (3, _), (0, _), (1, _), (2, _), (4, _)]) C (dk oX9_enough 43 rfl) (by decide) rfl ?_
                refine r_goto (tgt := 45) C (dk oX9_enough 44 rfl) (by decide) ?_
                refine V.sub [3, 4, 5, 2, 6, 1, 0] rfl ?_
                have hih := ih (i + 1) (by omega) (by omega)
                first
                  | rw [fw_f1 (P := (fun S => enB ((sCl τ).2.2 c_) (sPhi τ) S)) (by rw [← fw_fewer hwl]; exact hb58)] at hih
                  | rw [fw_f2 (P := (fun S => enB ((sCl τ).2.2 c_) (sPhi τ) S)) (i := i) hb68] at hih
                  | rw [fw_t (P := (fun S => enB ((sCl τ).2.2 c_) (sPhi τ) S)) (i := i) (by rw [← fw_fewer hwl]; exact hb58) hb68] at hih
                exact hih
      refine V.sub [5, 6, 4, 3, 2, 1, 0] rfl ?_
      have h0 := L45 (2 ^ pc (opN (sPhi τ)) + 1) 0 (by omega) (Nat.zero_le _)
      rw [pd_0] at h0
      exact h0
    · simp (disch := omega) only [nI_leI, nI_ltI, nI_eq, nI_eq0] at hb25
      refine r_ldc C (dk oX9_enough 14 rfl) kn_X9_80 ?_
      refine hret (dk oX9_enough 15 rfl) rfl ?_
      refine ⟨?_, hCS, Fr.rf I J⟩
      unfold q_enough
      rw [if_pos (vd_n h_c_ (by omega)), if_pos (by omega)]
  · rw [b32_0, decide_eq_false_iff_not] at hb5
    refine r_ldc C (dk oX9_enough 4 rfl) kn_X9_143 ?_
    refine hret (dk oX9_enough 5 rfl) rfl ?_
    exact ⟨(if_neg hb5).symm, hCS, Fr.rf I J⟩

set_option maxHeartbeats 1000000 in
set_option maxRecDepth 100000 in
theorem c_X9_silence (hn : 117 ≤ n) (I : MI) (J : MJ) (τ : St) (hCS : CS I J τ) (x y : Int32) : Ci l n ad cA D z 3 yX9_silence cX9_silence 9 .int I J [.ref (ad 0), .int x, .int y] (fun r I' J' => r = q_silence τ x y ∧ CS I' J' τ ∧ Fr I I' J J') := by
  refine Ci.of (by decide) (Nat.le_of_ble_eq_true rfl) ?_
  intro p e s m args below meth c A C hin Z Q hret
  have hCS0 := hCS
  obtain ⟨hS, hKp, hM, hSil, hT, h16⟩ := hCS0
  obtain ⟨⟨hC, hco⟩, ⟨hP, hZ⟩, hK, hdu, hdu2, hse, hse2⟩ := hS
  have hnc : (sCl τ).1 ≤ 6 := hC.1
  have hnp : (sPp τ).1 ≤ 10 := hP.1
  have hnk : (sPk τ).1 ≤ 16 := hK.1
  have hL := hT.1
  have hop := @opN_lt (sPhi τ)
  have h386 : I 38 6 = nI (opN (sPhi τ)) := hM.2.1
  refine r_aload_n C 0 (dk oX9_silence 0 rfl) rfl ?_
  refine r_iload_n C 1 (dk oX9_silence 1 rfl) rfl ?_
  refine r_ivi C Z (dk oX9_silence 2 rfl) cl_X9_159 ci_X9_isClaim rfl (kn hn rfl) (c_X9_isClaim hn I J (sCl τ).1 (by omega) hC.2.1 x) rfl rfl (Nat.le_of_ble_eq_true rfl) ⟨Nat.le_of_ble_eq_true rfl, Nat.le_of_ble_eq_true rfl⟩ ⟨Nat.zero_le _, Nat.zero_le _⟩ (fun r2 I2 J2 h2 => ?_)
  obtain ⟨h2, e1_, e2_⟩ := h2
  have e1_ := e1_.symm
  have e2_ := e2_.symm
  subst e1_
  subst e2_
  subst h2
  refine r_if_eq (tgt := 15) C (dk oX9_silence 3 rfl) (by decide) (fun hb5 => ?_) (fun hb5 => ?_)
  · rw [b32_0, decide_eq_false_iff_not] at hb5
    refine r_ldc C (dk oX9_silence 7 rfl) kn_X9_143 ?_
    refine hret (dk oX9_silence 8 rfl) rfl ?_
    first
      | exact ⟨(if_neg (fun q => hb5 q.1)).symm, hCS, Fr.rf I J⟩
      | exact ⟨(if_neg (fun q => hb12 q.2)).symm, hCS, Fr.rf I J⟩
  · rw [b32_n, decide_eq_true_eq] at hb5
    obtain ⟨c_, h_c_, hx_c_⟩ := vd_of (by omega) hb5
    subst hx_c_
    refine r_iload_n C 2 (dk oX9_silence 4 rfl) rfl ?_
    refine r_isi C Z (dk oX9_silence 5 rfl) cl_X9_220 st_X9_isSide (c_X9_isSide I J y) rfl rfl (Nat.le_of_ble_eq_true rfl) ⟨Nat.le_of_ble_eq_true rfl, Nat.le_of_ble_eq_true rfl⟩ ⟨Nat.zero_le _, Nat.zero_le _⟩ (fun r9 I9 J9 h9 => ?_)
    obtain ⟨h9, e1_, e2_⟩ := h9
    have e1_ := e1_.symm
    have e2_ := e2_.symm
    subst e1_
    subst e2_
    subst h9
    refine r_if_ne (tgt := 18) C (dk oX9_silence 6 rfl) (by decide) (fun hb12 => ?_) (fun hb12 => ?_)
    · rw [b32_n, decide_eq_true_eq] at hb12
      obtain ⟨s_, h_s_, hx_s_⟩ := vd_of (by decide) hb12
      subst hx_s_
      refine r_aload_n C 0 (dk oX9_silence 9 rfl) rfl ?_
      refine r_iload_n C 1 (dk oX9_silence 10 rfl) rfl ?_
      refine r_ivi C Z (dk oX9_silence 11 rfl) cl_X9_168 ci_X9_sureness rfl (kn hn rfl) (c_X9_sureness hn I J (sCl τ).1 (sCl τ).2.1 (sCl τ).2.2 hC (sPhi τ) hM c_ h_c_) rfl rfl (Nat.le_of_ble_eq_true rfl) ⟨Nat.le_of_ble_eq_true rfl, Nat.le_of_ble_eq_true rfl⟩ ⟨Nat.zero_le _, Nat.zero_le _⟩ (fun r20 I20 J20 h20 => ?_)
      obtain ⟨h20, e1_, e2_⟩ := h20
      have e1_ := e1_.symm
      have e2_ := e2_.symm
      subst e1_
      subst e2_
      subst h20
      refine r_istore_n (lo' := [(3, _), (0, _), (1, _), (2, _)]) C (dk oX9_silence 12 rfl) rfl (by decide) rfl ?_
      refine r_iload_n C 0 (dk oX9_silence 13 rfl) rfl ?_
      refine r_iconst C (dk oX9_silence 14 rfl) (v := -1) (by decide) ?_
      refine r_icmp_ne (tgt := 32) C (dk oX9_silence 15 rfl) (by decide) (fun hb26 => ?_) (fun hb26 => ?_)
      · refine r_aload_n C 1 (dk oX9_silence 18 rfl) rfl ?_
        refine r_getR C (dk oX9_silence 19 rfl) fl_X9_40 rfl (kn hn rfl) ?_
        refine r_iload_n C 3 (dk oX9_silence 20 rfl) rfl ?_
        refine r_ivi C Z (dk oX9_silence 21 rfl) cl_X9_223 ci_X2_admittedBy rfl (kn hn rfl) (c38_X2_admittedBy hn I J (sPhi τ) hM.1 s_ h_s_) rfl rfl (Nat.le_of_ble_eq_true rfl) ⟨Nat.le_of_ble_eq_true rfl, Nat.le_of_ble_eq_true rfl⟩ ⟨Nat.zero_le _, Nat.zero_le _⟩ (fun r37 I37 J37 h37 => ?_)
        obtain ⟨h37, e1_, e2_⟩ := h37
        have e1_ := e1_.symm
        have e2_ := e2_.symm
        subst e1_
        subst e2_
        subst h37
        refine r_istore (lo' := [(4, _), (3, _), (0, _), (1, _), (2, _)]) C (dk oX9_silence 22 rfl) (by decide) rfl ?_
        rw [show bS (fun f => decide (sPhi τ f 0 = nI 2 ∧ sPhi τ f 2 = nI (1 - s_))) 12 = admN (sPhi τ) s_ from rfl]
        have hwl : admN (sPhi τ) s_ < 4096 := bS_lt 12
        have hways := p2pc hwl
        have hpos := p2pos (admN (sPhi τ) s_)
        refine r_iconst C (dk oX9_silence 23 rfl) (v := -1) (by decide) ?_
        refine r_istore (lo' := [(5, _), (4, _), (3, _), (0, _), (1, _), (2, _)]) C (dk oX9_silence 24 rfl) (by decide) rfl ?_
        refine r_iload C 1 (dk oX9_silence 25 rfl) rfl ?_
        refine r_isi C Z (dk oX9_silence 26 rfl) cl_X9_207 st_X9_setsWithin (c_X9_setsWithin I J (admN (sPhi τ) s_) (by omega)) rfl rfl (Nat.le_of_ble_eq_true rfl) ⟨Nat.le_of_ble_eq_true rfl, Nat.le_of_ble_eq_true rfl⟩ ⟨Nat.zero_le _, Nat.zero_le _⟩ (fun r47 I47 J47 h47 => ?_)
        obtain ⟨h47, e1_, e2_⟩ := h47
        have e1_ := e1_.symm
        have e2_ := e2_.symm
        subst e1_
        subst e2_
        subst h47
        refine r_istore (lo' := [(6, _), (5, _), (4, _), (3, _), (0, _), (1, _), (2, _)]) C (dk oX9_silence 27 rfl) (by decide) rfl ?_
        refine r_iconst C (dk oX9_silence 28 rfl) (v := nI 0) (by decide) ?_
        refine r_istore (lo' := [(7, _), (6, _), (5, _), (4, _), (3, _), (0, _), (1, _), (2, _)]) C (dk oX9_silence 29 rfl) (by decide) rfl ?_
        refine r_iconst C (dk oX9_silence 30 rfl) (v := nI 0) (by decide) ?_
        refine r_istore (lo' := [(8, _), (7, _), (6, _), (5, _), (4, _), (3, _), (0, _), (1, _), (2, _)]) C (dk oX9_silence 31 rfl) (by decide) rfl ?_
        have L58 : ∀ (d_ : Nat) (i : Nat), 2 ^ pc (admN (sPhi τ) s_) - i < d_ → i ≤ 2 ^ pc (admN (sPhi τ) s_) → V p l e (rmL 3) s m args below meth c Q D A 9 0 0 n ad (mE cA ad I J) 58 [(0, .ref (ad 0)), (1, .int (nI c_)), (3, .int (surF ((sCl τ).2.2 c_) (sPhi τ))), (4, .int (nI (admN (sPhi τ) s_))), (5, .int (ofO (fwN (fun S => cgB ((sCl τ).2.2 c_) (sPhi τ) S (decide (surF ((sCl τ).2.2 c_) (sPhi τ) = nI 1))) (admN (sPhi τ) s_) i))), (6, .int (nI (2 ^ pc (admN (sPhi τ) s_)))), (7, .int (nI i)), (8, .int (nI (pd i (admN (sPhi τ) s_))))] [] := by
          intro d_
          induction d_ with
          | zero => intros; exact absurd (by assumption) (Nat.not_lt_zero _)
          | succ d_ ih => 
            intro i hd_ hi
            refine r_iload C 6 (dk oX9_silence 32 rfl) rfl ?_
            refine r_iload C 5 (dk oX9_silence 33 rfl) rfl ?_
            refine r_icmp_ge (tgt := 114) C (dk oX9_silence 34 rfl) (by decide) (fun hb62 => ?_) (fun hb62 => ?_)
            · simp (disch := omega) only [nI_leI, nI_ltI, nI_eq, nI_eq0] at hb62
              refine r_iload C 4 (dk oX9_silence 58 rfl) rfl ?_
              refine hret (dk oX9_silence 59 rfl) rfl ?_
              refine ⟨?_, hCS, Fr.rf I J⟩
              unfold q_silence
              rw [if_pos ⟨vd_n h_c_ (by omega), vd_n h_s_ (by omega)⟩, cN_n (by omega), cN_n (by omega), if_neg hb26, show 2 ^ pc (admN (sPhi τ) s_) = i by omega]
            · simp (disch := omega) only [nI_leI, nI_ltI, nI_eq, nI_eq0] at hb62
              refine r_iload C 7 (dk oX9_silence 35 rfl) rfl ?_
              refine r_iload C 4 (dk oX9_silence 36 rfl) rfl ?_
              refine r_isi C Z (dk oX9_silence 37 rfl) cl_X9_210 st_X9_isFewer (c_X9_isFewer I J (pd i (admN (sPhi τ) s_)) (by have := @pd_le i (admN (sPhi τ) s_); omega) ((fwN (fun S => cgB ((sCl τ).2.2 c_) (sPhi τ) S (decide (surF ((sCl τ).2.2 c_) (sPhi τ) = nI 1))) (admN (sPhi τ) s_) i).getD 0) (ofO (fwN (fun S => cgB ((sCl τ).2.2 c_) (sPhi τ) S (decide (surF ((sCl τ).2.2 c_) (sPhi τ) = nI 1))) (admN (sPhi τ) s_) i)) (ofO_ok hwl)) rfl rfl (Nat.le_of_ble_eq_true rfl) ⟨Nat.le_of_ble_eq_true rfl, Nat.le_of_ble_eq_true rfl⟩ ⟨Nat.zero_le _, Nat.zero_le _⟩ (fun r69 I69 J69 h69 => ?_)
              obtain ⟨h69, e1_, e2_⟩ := h69
              have e1_ := e1_.symm
              have e2_ := e2_.symm
              subst e1_
              subst e2_
              subst h69
              refine r_if_eq (tgt := 99) C (dk oX9_silence 38 rfl) (by decide) (fun hb72 => ?_) (fun hb72 => ?_)
              · rw [b32_0] at hb72
                refine r_iinc (lo' := [(7, _), (0, _), (1, _), (3, _), (4, _), (5, _), (6, _), (8, _)]) C 6 (dk oX9_silence 52 rfl) rfl (by first | exact nI_inc _ | rfl) (by decide) rfl ?_
                refine r_iload C 7 (dk oX9_silence 53 rfl) rfl ?_
                refine r_iload C 4 (dk oX9_silence 54 rfl) rfl ?_
                refine r_isi C Z (dk oX9_silence 55 rfl) cl_X9_216 st_X9_nextSet (c_X9_nextSet I J i (admN (sPhi τ) s_) (by omega)) rfl rfl (Nat.le_of_ble_eq_true rfl) ⟨Nat.le_of_ble_eq_true rfl, Nat.le_of_ble_eq_true rfl⟩ ⟨Nat.zero_le _, Nat.zero_le _⟩ (fun r106 I106 J106 h106 => ?_)
                obtain ⟨h106, e1_, e2_⟩ := h106
                have e1_ := e1_.symm
                have e2_ := e2_.symm
                subst e1_
                subst e2_
                subst h106
                refine r_istore (lo' := [(8, _), (7, _), (0, _), (1, _), (3, _), (4, _), (5, _), (6, _)]) C (dk oX9_silence 56 rfl) (by decide) rfl ?_
                refine r_goto (tgt := 58) C (dk oX9_silence 57 rfl) (by decide) ?_
                refine V.sub [2, 3, 4, 5, 6, 7, 1, 0] rfl ?_
                have hih := ih (i + 1) (by omega) (by omega)
                first
                  | rw [fw_f1 (P := (fun S => cgB ((sCl τ).2.2 c_) (sPhi τ) S (decide (surF ((sCl τ).2.2 c_) (sPhi τ) = nI 1)))) (by rw [← fw_fewer hwl]; exact hb72)] at hih
                  | rw [fw_f2 (P := (fun S => cgB ((sCl τ).2.2 c_) (sPhi τ) S (decide (surF ((sCl τ).2.2 c_) (sPhi τ) = nI 1)))) (i := i) hb92] at hih
                  | rw [fw_t (P := (fun S => cgB ((sCl τ).2.2 c_) (sPhi τ) S (decide (surF ((sCl τ).2.2 c_) (sPhi τ) = nI 1)))) (i := i) (by rw [← fw_fewer hwl]; exact hb72) hb92] at hih
                exact hih
              · rw [b32_n] at hb72
                refine r_aload_n C 0 (dk oX9_silence 39 rfl) rfl ?_
                refine r_iload_n C 1 (dk oX9_silence 40 rfl) rfl ?_
                refine r_iload C 7 (dk oX9_silence 41 rfl) rfl ?_
                refine r_iload_n C 2 (dk oX9_silence 42 rfl) rfl ?_
                refine r_iconst C (dk oX9_silence 43 rfl) (v := nI 1) (by decide) ?_
                refine r_icmp_ne (tgt := 88) C (dk oX9_silence 44 rfl) (by decide) (fun hb81 => ?_) (fun hb81 => ?_)
                · refine r_iconst C (dk oX9_silence 47 rfl) (v := nI 0) (by decide) ?_
                  refine r_topI (show nI 0 = b32 (decide (surF ((sCl τ).2.2 c_) (sPhi τ) = nI 1)) from b32_df hb81) ?_
                  refine r_ivi C Z (dk oX9_silence 48 rfl) cl_X9_226 ci_X9_changesIfTurned rfl (kn hn rfl) (c_X9_changesIfTurned hn I J (sCl τ).1 (sCl τ).2.1 (sCl τ).2.2 hC (sPhi τ) hM c_ h_c_ (pd i (admN (sPhi τ) s_)) (pd12 hwl) (decide (surF ((sCl τ).2.2 c_) (sPhi τ) = nI 1))) rfl rfl (Nat.le_of_ble_eq_true rfl) ⟨Nat.le_of_ble_eq_true rfl, Nat.le_of_ble_eq_true rfl⟩ ⟨Nat.zero_le _, Nat.zero_le _⟩ (fun r89 I89 J89 h89 => ?_)
                  obtain ⟨h89, e1_, e2_⟩ := h89
                  have e1_ := e1_.symm
                  have e2_ := e2_.symm
                  subst e1_
                  subst e2_
                  subst h89
                  refine r_if_eq (tgt := 99) C (dk oX9_silence 49 rfl) (by decide) (fun hb92 => ?_) (fun hb92 => ?_)
                  · rw [b32_0] at hb92
                    refine r_iinc (lo' := [(7, _), (0, _), (1, _), (3, _), (4, _), (5, _), (6, _), (8, _)]) C 6 (dk oX9_silence 52 rfl) rfl (by first | exact nI_inc _ | rfl) (by decide) rfl ?_
                    refine r_iload C 7 (dk oX9_silence 53 rfl) rfl ?_
                    refine r_iload C 4 (dk oX9_silence 54 rfl) rfl ?_
                    refine r_isi C Z (dk oX9_silence 55 rfl) cl_X9_216 st_X9_nextSet (c_X9_nextSet I J i (admN (sPhi τ) s_) (by omega)) rfl rfl (Nat.le_of_ble_eq_true rfl) ⟨Nat.le_of_ble_eq_true rfl, Nat.le_of_ble_eq_true rfl⟩ ⟨Nat.zero_le _, Nat.zero_le _⟩ (fun r106 I106 J106 h106 => ?_)
                    obtain ⟨h106, e1_, e2_⟩ := h106
                    have e1_ := e1_.symm
                    have e2_ := e2_.symm
                    subst e1_
                    subst e2_
                    subst h106
                    refine r_istore (lo' := [(8, _), (7, _), (0, _), (1, _), (3, _), (4, _), (5, _), (6, _)]) C (dk oX9_silence 56 rfl) (by decide) rfl ?_
                    refine r_goto (tgt := 58) C (dk oX9_silence 57 rfl) (by decide) ?_
                    refine V.sub [2, 3, 4, 5, 6, 7, 1, 0] rfl ?_
                    have hih := ih (i + 1) (by omega) (by omega)
                    first
                      | rw [fw_f1 (P := (fun S => cgB ((sCl τ).2.2 c_) (sPhi τ) S (decide (surF ((sCl τ).2.2 c_) (sPhi τ) = nI 1)))) (by rw [← fw_fewer hwl]; exact hb72)] at hih
                      | rw [fw_f2 (P := (fun S => cgB ((sCl τ).2.2 c_) (sPhi τ) S (decide (surF ((sCl τ).2.2 c_) (sPhi τ) = nI 1)))) (i := i) hb92] at hih
                      | rw [fw_t (P := (fun S => cgB ((sCl τ).2.2 c_) (sPhi τ) S (decide (surF ((sCl τ).2.2 c_) (sPhi τ) = nI 1)))) (i := i) (by rw [← fw_fewer hwl]; exact hb72) hb92] at hih
                    exact hih
                  · rw [b32_n] at hb92
                    refine r_iload C 7 (dk oX9_silence 50 rfl) rfl ?_
                    refine r_istore (lo' := [(5, _), (0, _), (1, _), (3, _), (4, _), (6, _), (7, _), (8, _)]) C (dk oX9_silence 51 rfl) (by decide) rfl ?_
                    refine r_iinc (lo' := [(7, _), (5, _), (0, _), (1, _), (3, _), (4, _), (6, _), (8, _)]) C 6 (dk oX9_silence 52 rfl) rfl (by first | exact nI_inc _ | rfl) (by decide) rfl ?_
                    refine r_iload C 7 (dk oX9_silence 53 rfl) rfl ?_
                    refine r_iload C 5 (dk oX9_silence 54 rfl) rfl ?_
                    refine r_isi C Z (dk oX9_silence 55 rfl) cl_X9_216 st_X9_nextSet (c_X9_nextSet I J i (admN (sPhi τ) s_) (by omega)) rfl rfl (Nat.le_of_ble_eq_true rfl) ⟨Nat.le_of_ble_eq_true rfl, Nat.le_of_ble_eq_true rfl⟩ ⟨Nat.zero_le _, Nat.zero_le _⟩ (fun r106 I106 J106 h106 => ?_)
                    obtain ⟨h106, e1_, e2_⟩ := h106
                    have e1_ := e1_.symm
                    have e2_ := e2_.symm
                    subst e1_
                    subst e2_
                    subst h106
                    refine r_istore (lo' := [(8, _), (7, _), (5, _), (0, _), (1, _), (3, _), (4, _), (6, _)]) C (dk oX9_silence 56 rfl) (by decide) rfl ?_
                    refine r_goto (tgt := 58) C (dk oX9_silence 57 rfl) (by decide) ?_
                    refine V.sub [3, 4, 5, 6, 2, 7, 1, 0] rfl ?_
                    have hih := ih (i + 1) (by omega) (by omega)
                    first
                      | rw [fw_f1 (P := (fun S => cgB ((sCl τ).2.2 c_) (sPhi τ) S (decide (surF ((sCl τ).2.2 c_) (sPhi τ) = nI 1)))) (by rw [← fw_fewer hwl]; exact hb72)] at hih
                      | rw [fw_f2 (P := (fun S => cgB ((sCl τ).2.2 c_) (sPhi τ) S (decide (surF ((sCl τ).2.2 c_) (sPhi τ) = nI 1)))) (i := i) hb92] at hih
                      | rw [fw_t (P := (fun S => cgB ((sCl τ).2.2 c_) (sPhi τ) S (decide (surF ((sCl τ).2.2 c_) (sPhi τ) = nI 1)))) (i := i) (by rw [← fw_fewer hwl]; exact hb72) hb92] at hih
                    exact hih
                · refine r_iconst C (dk oX9_silence 45 rfl) (v := nI 1) (by decide) ?_
                  refine r_topI (show nI 1 = b32 (decide (surF ((sCl τ).2.2 c_) (sPhi τ) = nI 1)) from b32_dt hb81) ?_
                  refine r_goto (tgt := 89) C (dk oX9_silence 46 rfl) (by decide) ?_
                  refine r_ivi C Z (dk oX9_silence 48 rfl) cl_X9_226 ci_X9_changesIfTurned rfl (kn hn rfl) (c_X9_changesIfTurned hn I J (sCl τ).1 (sCl τ).2.1 (sCl τ).2.2 hC (sPhi τ) hM c_ h_c_ (pd i (admN (sPhi τ) s_)) (pd12 hwl) (decide (surF ((sCl τ).2.2 c_) (sPhi τ) = nI 1))) rfl rfl (Nat.le_of_ble_eq_true rfl) ⟨Nat.le_of_ble_eq_true rfl, Nat.le_of_ble_eq_true rfl⟩ ⟨Nat.zero_le _, Nat.zero_le _⟩ (fun r89 I89 J89 h89 => ?_)
                  obtain ⟨h89, e1_, e2_⟩ := h89
                  have e1_ := e1_.symm
                  have e2_ := e2_.symm
                  subst e1_
                  subst e2_
                  subst h89
                  refine r_if_eq (tgt := 99) C (dk oX9_silence 49 rfl) (by decide) (fun hb92 => ?_) (fun hb92 => ?_)
                  · rw [b32_0] at hb92
                    refine r_iinc (lo' := [(7, _), (0, _), (1, _), (3, _), (4, _), (5, _), (6, _), (8, _)]) C 6 (dk oX9_silence 52 rfl) rfl (by first | exact nI_inc _ | rfl) (by decide) rfl ?_
                    refine r_iload C 7 (dk oX9_silence 53 rfl) rfl ?_
                    refine r_iload C 4 (dk oX9_silence 54 rfl) rfl ?_
                    refine r_isi C Z (dk oX9_silence 55 rfl) cl_X9_216 st_X9_nextSet (c_X9_nextSet I J i (admN (sPhi τ) s_) (by omega)) rfl rfl (Nat.le_of_ble_eq_true rfl) ⟨Nat.le_of_ble_eq_true rfl, Nat.le_of_ble_eq_true rfl⟩ ⟨Nat.zero_le _, Nat.zero_le _⟩ (fun r106 I106 J106 h106 => ?_)
                    obtain ⟨h106, e1_, e2_⟩ := h106
                    have e1_ := e1_.symm
                    have e2_ := e2_.symm
                    subst e1_
                    subst e2_
                    subst h106
                    refine r_istore (lo' := [(8, _), (7, _), (0, _), (1, _), (3, _), (4, _), (5, _), (6, _)]) C (dk oX9_silence 56 rfl) (by decide) rfl ?_
                    refine r_goto (tgt := 58) C (dk oX9_silence 57 rfl) (by decide) ?_
                    refine V.sub [2, 3, 4, 5, 6, 7, 1, 0] rfl ?_
                    have hih := ih (i + 1) (by omega) (by omega)
                    first
                      | rw [fw_f1 (P := (fun S => cgB ((sCl τ).2.2 c_) (sPhi τ) S (decide (surF ((sCl τ).2.2 c_) (sPhi τ) = nI 1)))) (by rw [← fw_fewer hwl]; exact hb72)] at hih
                      | rw [fw_f2 (P := (fun S => cgB ((sCl τ).2.2 c_) (sPhi τ) S (decide (surF ((sCl τ).2.2 c_) (sPhi τ) = nI 1)))) (i := i) hb92] at hih
                      | rw [fw_t (P := (fun S => cgB ((sCl τ).2.2 c_) (sPhi τ) S (decide (surF ((sCl τ).2.2 c_) (sPhi τ) = nI 1)))) (i := i) (by rw [← fw_fewer hwl]; exact hb72) hb92] at hih
                    exact hih
                  · rw [b32_n] at hb92
                    refine r_iload C 7 (dk oX9_silence 50 rfl) rfl ?_
                    refine r_istore (lo' := [(5, _), (0, _), (1, _), (3, _), (4, _), (6, _), (7, _), (8, _)]) C (dk oX9_silence 51 rfl) (by decide) rfl ?_
                    refine r_iinc (lo' := [(7, _), (5, _), (0, _), (1, _), (3, _), (4, _), (6, _), (8, _)]) C 6 (dk oX9_silence 52 rfl) rfl (by first | exact nI_inc _ | rfl) (by decide) rfl ?_
                    refine r_iload C 7 (dk oX9_silence 53 rfl) rfl ?_
                    refine r_iload C 5 (dk oX9_silence 54 rfl) rfl ?_
                    refine r_isi C Z (dk oX9_silence 55 rfl) cl_X9_216 st_X9_nextSet (c_X9_nextSet I J i (admN (sPhi τ) s_) (by omega)) rfl rfl (Nat.le_of_ble_eq_true rfl) ⟨Nat.le_of_ble_eq_true rfl, Nat.le_of_ble_eq_true rfl⟩ ⟨Nat.zero_le _, Nat.zero_le _⟩ (fun r106 I106 J106 h106 => ?_)
                    obtain ⟨h106, e1_, e2_⟩ := h106
                    have e1_ := e1_.symm
                    have e2_ := e2_.symm
                    subst e1_
                    subst e2_
                    subst h106
                    refine r_istore (lo' := [(8, _), (7, _), (5, _), (0, _), (1, _), (3, _), (4, _), (6, _)]) C (dk oX9_silence 56 rfl) (by decide) rfl ?_
                    refine r_goto (tgt := 58) C (dk oX9_silence 57 rfl) (by decide) ?_
                    refine V.sub [3, 4, 5, 6, 2, 7, 1, 0] rfl ?_
                    have hih := ih (i + 1) (by omega) (by omega)
                    first
                      | rw [fw_f1 (P := (fun S => cgB ((sCl τ).2.2 c_) (sPhi τ) S (decide (surF ((sCl τ).2.2 c_) (sPhi τ) = nI 1)))) (by rw [← fw_fewer hwl]; exact hb72)] at hih
                      | rw [fw_f2 (P := (fun S => cgB ((sCl τ).2.2 c_) (sPhi τ) S (decide (surF ((sCl τ).2.2 c_) (sPhi τ) = nI 1)))) (i := i) hb92] at hih
                      | rw [fw_t (P := (fun S => cgB ((sCl τ).2.2 c_) (sPhi τ) S (decide (surF ((sCl τ).2.2 c_) (sPhi τ) = nI 1)))) (i := i) (by rw [← fw_fewer hwl]; exact hb72) hb92] at hih
                    exact hih
        refine V.sub [6, 7, 5, 4, 3, 2, 1, 0] rfl ?_
        have h0 := L58 (2 ^ pc (admN (sPhi τ) s_) + 1) 0 (by omega) (Nat.zero_le _)
        rw [pd_0] at h0
        exact h0
      · refine r_ldc C (dk oX9_silence 16 rfl) kn_X9_80 ?_
        refine hret (dk oX9_silence 17 rfl) rfl ?_
        refine ⟨?_, hCS, Fr.rf I J⟩
        unfold q_silence
        rw [if_pos ⟨vd_n h_c_ (by omega), vd_n h_s_ (by omega)⟩, cN_n (by omega), if_pos hb26]
    · rw [b32_0, decide_eq_false_iff_not] at hb12
      refine r_ldc C (dk oX9_silence 7 rfl) kn_X9_143 ?_
      refine hret (dk oX9_silence 8 rfl) rfl ?_
      first
        | exact ⟨(if_neg (fun q => hb5 q.1)).symm, hCS, Fr.rf I J⟩
        | exact ⟨(if_neg (fun q => hb12 q.2)).symm, hCS, Fr.rf I J⟩

end PUB
