section MOD13
variable {l : Launch} {n : Nat} {ad : Nat → Nat} {cA : Nat → ClassId} {D : va_G} {z : Zw}
/-- slot y of the model holds this suit, all but the days that are due -/
def MSl (I : MI) (y : Nat) (σ : Su) : Prop := MClm I y σ.1.1 σ.1.2.1 σ.1.2.2 ∧ MPap I y σ.2.1.1 σ.2.1.2.1 σ.2.1.2.2.1 σ.2.1.2.2.2 ∧ MPrf I y σ.2.2.1.1 σ.2.2.1.2.1 σ.2.2.1.2.2.1 σ.2.2.1.2.2.2.1 σ.2.2.1.2.2.2.2.1 σ.2.2.1.2.2.2.2.2 ∧ I 133 y = nI σ.2.2.2.2 ∧ σ.2.2.2.2 < 2 ^ 31 ∧ σ.2.2.2.1 < 100
def MBg (I : MI) (τ : St) : Prop := (I 117 17 = nI 1 ∧ I 132 0 = nI (sDu τ)) ∨ (I 117 17 = nI 0 ∧ sDu τ = 20 ∧ ∀ i, i < 2 → sKp τ i = false)
def MZs (I : MI) : Prop := (∀ j, j < 30 → I 124 j = 0 ∨ I 124 j = 1) ∧ ∀ j, j < 48 → I 131 j = 0 ∨ I 131 j = 1
/-- the model's memory -/
def MM (I : MI) (τ : St) : Prop := MSl I 0 τ.1 ∧ MBg I τ ∧ (∀ i, i < 2 → I 134 (i + 1) = b32 (sKp τ i) ∧ (sKp τ i = true → MSl I (i + 1) (sIm τ i) ∧ I 132 (i + 1) = nI (sIm τ i).2.2.2.1)) ∧ MTx I (sT τ) (sL τ) ∧ I 117 30 = sF τ ∧ MZs I
/-- a question of the model's -/
def mQr (I I' : MI) : Prop := (∀ k, k < 135 → k ≠ 117 → I' k = I k) ∧ I' 141 = I 141 ∧ ∀ i, i = 17 ∨ i = 25 ∨ i = 30 → I' 117 i = I 117 i
theorem mQr.rf (I : MI) : mQr I I := ⟨fun _ _ _ => rfl, rfl, fun _ _ => rfl⟩
theorem mQr.tr {I I1 I2 : MI} (h1 : mQr I I1) (h2 : mQr I1 I2) : mQr I I2 := ⟨fun k a b => (h2.1 k a b).trans (h1.1 k a b), h2.2.1.trans h1.2.1, fun i a => (h2.2.2 i a).trans (h1.2.2 i a)⟩
theorem mH.r {I I' : MI} (h : mH I I') : mQr I I' := ⟨fun k a _ => h k (by omega), h 141 (by decide), fun i _ => by rw [h 117 (by decide)]⟩
theorem skF.r {I I' : MI} (h : skF I I') : mQr I I' := ⟨fun k _ a => h.1 k a, h.1 141 (by decide), fun i a => h.2 i (by omega)⟩
theorem MCd.sl {I I' : MI} {c : Nat} {C : List Nat} (h : MCd I c C) (hF : mQr I I') : MCd I' c C := h.of (hF.1 120 (by decide) (by decide)) (hF.1 121 (by decide) (by decide))
theorem MSl.r {I I' : MI} {y : Nat} {σ : Su} (h : MSl I y σ) (hF : ∀ k, 117 < k → k < 134 → I' k = I k) : MSl I' y σ := by
  unfold MSl MClm MPap MPrf at h ⊢
  rw [hF 118 (by decide) (by decide), hF 119 (by decide) (by decide), hF 120 (by decide) (by decide), hF 121 (by decide) (by decide), hF 122 (by decide) (by decide), hF 123 (by decide) (by decide), hF 124 (by decide) (by decide), hF 125 (by decide) (by decide), hF 126 (by decide) (by decide), hF 127 (by decide) (by decide), hF 128 (by decide) (by decide), hF 129 (by decide) (by decide), hF 130 (by decide) (by decide), hF 131 (by decide) (by decide), hF 133 (by decide) (by decide)]
  exact h
theorem MM.r {I I' : MI} {τ : St} (h : MM I τ) (hF : mQr I I') : MM I' τ := by
  obtain ⟨h1, h2, h3, h4, h5, h6⟩ := h
  have hs : ∀ k, 117 < k → k < 134 → I' k = I k := fun k a b => hF.1 k (by omega) (by omega)
  refine ⟨h1.r hs, ?_, fun i hi => ⟨by rw [hF.1 134 (by decide) (by decide)]; exact (h3 i hi).1, fun hk => ⟨((h3 i hi).2 hk).1.r hs, by rw [hF.1 132 (by decide) (by decide)]; exact ((h3 i hi).2 hk).2⟩⟩, h4.of (hF.2.2 25 (by decide)) hF.2.1, (hF.2.2 30 (by decide)).trans h5, by unfold MZs; rw [hF.1 124 (by decide) (by decide), hF.1 131 (by decide) (by decide)]; exact h6⟩
  unfold MBg
  rw [hF.2.2 17 (by decide), hF.1 132 (by decide) (by decide)]
  exact h2
theorem MM.pap {I : MI} {τ : St} (h : MM I τ) : MPap I 0 (sPp τ).1 (sPp τ).2.1 (sPp τ).2.2.1 (sPp τ).2.2.2 := h.1.2.1
theorem MM.k0 {I : MI} {τ : St} (h : MM I τ) : MK0 I (sPk τ) := MPrf.zz (k := sPk τ) h.1.2.2.1
theorem MM.c0 {I : MI} {τ : St} (h : MM I τ) : MC0 I (sCl τ) := MClm.zz (cl := sCl τ) h.1.1
theorem ph_eq {τ : St} (h : (sPp τ).1 ≤ 10) : (fun f => stF (sPp τ).2.2.2 (ltX (sPp τ).2.2.1 (-1)) f (sPp τ).1) = sPhi τ := by
  funext f
  exact stF_cong _ (fun j hj => ⟨ltX_n (by omega), rfl⟩)
theorem MM.ok {I : MI} {τ : St} (h : MM I τ) : fsA (sPhi τ) := fun f hf => fsOK_st2 _ (fun j hj => ((h.pap.2.2 j hj).2.2.2 f hf).2)
theorem c_X10_hear1 (hn : 148 ≤ n) (I : MI) (J : MJ) (τ : St) (hMM : MM I τ) : Cv l n ad cA D z 3 yX10_hearAll cX10_hearAll 3 I J [.ref (ad 117), .int (-1)] (fun I' J' => FcM I' 134 (sPhi τ) ∧ (∀ p, p < (sPp τ).1 → I' 140 p = nI (silF (sPp τ).2.2.2 (sPp τ).2.2.1 p)) ∧ mH I I' ∧ J' = J) := by
  refine Cv.mono (c_X10_hearAll hn I J _ _ _ _ hMM.pap (-1)) (fun I' J' h => ?_)
  obtain ⟨h1, h2, h3, h4⟩ := h
  have hnp : (sPp τ).1 ≤ 10 := hMM.pap.1
  rw [ph_eq hnp] at h1
  refine ⟨h1, fun p hp => ?_, h3, h4⟩
  rw [h2 p hp, silF_cong (fun j hj => ⟨ltX_n (by omega), fun _ _ => rfl⟩)]
set_option maxHeartbeats 1000000 in
set_option maxRecDepth 100000 in
theorem c_X10_fault (hn : 148 ≤ n) (I : MI) (J : MJ) (τ : St) (hMM : MM I τ) : Ci l n ad cA D z 0 yX10_fault cX10_fault 1 .int I J [.ref (ad 117)] (fun r I' J' => r = sF τ ∧ MM I' τ ∧ (∀ k, k < 117 → I' k = I k) ∧ J' = J) := by
  refine Ci.of (by decide) (Nat.le_of_ble_eq_true rfl) ?_
  intro p e s m args below meth c A C hin Z Q hret
  refine r_aload_n C 0 (dk oX10_fault 0 rfl) rfl ?_
  refine r_getI C (dk oX10_fault 1 rfl) fl_X10_83 rfl (km hn rfl) ?_
  rw [hMM.2.2.2.2.1]
  refine hret (dk oX10_fault 2 rfl) rfl ?_
  exact ⟨rfl, hMM, fun _ _ => rfl, rfl⟩

set_option maxHeartbeats 1000000 in
set_option maxRecDepth 100000 in
theorem c_X10_open (hn : 148 ≤ n) (I : MI) (J : MJ) (τ : St) (hMM : MM I τ) : Ci l n ad cA D z 4 yX10_open cX10_open 1 .int I J [.ref (ad 117)] (fun r I' J' => r = nI (opN (sPhi τ)) ∧ MM I' τ ∧ (∀ k, k < 117 → I' k = I k) ∧ J' = J) := by
  refine Ci.of (by decide) (Nat.le_of_ble_eq_true rfl) ?_
  intro p e s m args below meth c A C hin Z Q hret
  have hC0 := hMM.c0
  have hK0 := hMM.k0
  have hP0 := hMM.pap.zz
  have hok := hMM.ok
  have hnc : (sCl τ).1 ≤ 6 := hC0.1
  have hnp : (sPp τ).1 ≤ 10 := hP0.1
  have hnk : (sPk τ).1 ≤ 16 := hK0.1
  have hMT := hMM.2.2.2.1
  have hL := hMT.1
  have hop := @opN_lt (sPhi τ)
  have hB : brQ (sPk τ) < 65536 := brN_16 hnk
  refine r_aload_n C 0 (dk oX10_open 0 rfl) rfl ?_
  refine r_iconst C (dk oX10_open 1 rfl) (v := -1) (by decide) ?_
  refine r_ivv C Z (dk oX10_open 2 rfl) cl_X10_247 ci_X10_hearAll rfl (km hn rfl) (c_X10_hear1 hn I J τ hMM) rfl rfl (Nat.le_of_ble_eq_true rfl) ⟨Nat.le_of_ble_eq_true rfl, Nat.le_of_ble_eq_true rfl⟩ ⟨Nat.zero_le _, Nat.zero_le _⟩ (fun I2 J2 h2 => ?_)
  obtain ⟨hM2, hSil2, hO2, e2_⟩ := h2
  have e2_ := e2_.symm
  subst e2_
  have hR2 := hO2.r
  have hF2 : ∀ k, k < 117 → I2 k = I k := fun k hk => hO2 k (by omega)
  refine r_aload_n C 0 (dk oX10_open 3 rfl) rfl ?_
  refine r_ivi C Z (dk oX10_open 4 rfl) cl_X10_278 ci_X10_openFacts rfl (km hn rfl) (c_X10_openFacts hn I2 J (sPhi τ) hM2 hok) rfl rfl (Nat.le_of_ble_eq_true rfl) ⟨Nat.le_of_ble_eq_true rfl, Nat.le_of_ble_eq_true rfl⟩ ⟨Nat.zero_le _, Nat.zero_le _⟩ (fun r6 I6 J6 h6 => ?_)
  obtain ⟨h6, e1_, e2_⟩ := h6
  have e1_ := e1_.symm
  have e2_ := e2_.symm
  subst e1_
  subst e2_
  subst h6
  refine hret (dk oX10_open 5 rfl) rfl ?_
  refine ⟨?_, hMM.r hR2, hF2, rfl⟩
  rfl

set_option maxHeartbeats 1000000 in
set_option maxRecDepth 100000 in
theorem c_X10_count (hn : 148 ≤ n) (I : MI) (J : MJ) (τ : St) (hMM : MM I τ) (y : Int32) : Ci l n ad cA D z 5 yX10_count cX10_count 2 .int I J [.ref (ad 117), .int y] (fun r I' J' => r = q_count τ y ∧ MM I' τ ∧ (∀ k, k < 117 → I' k = I k) ∧ J' = J) := by
  refine Ci.of (by decide) (Nat.le_of_ble_eq_true rfl) ?_
  intro p e s m args below meth c A C hin Z Q hret
  have hC0 := hMM.c0
  have hK0 := hMM.k0
  have hP0 := hMM.pap.zz
  have hok := hMM.ok
  have hnc : (sCl τ).1 ≤ 6 := hC0.1
  have hnp : (sPp τ).1 ≤ 10 := hP0.1
  have hnk : (sPk τ).1 ≤ 16 := hK0.1
  have hMT := hMM.2.2.2.1
  have hL := hMT.1
  have hop := @opN_lt (sPhi τ)
  have hB : brQ (sPk τ) < 65536 := brN_16 hnk
  refine r_iload_n C 1 (dk oX10_count 0 rfl) rfl ?_
  rcases sw8 y with rfl | rfl | rfl | rfl | rfl | rfl | rfl | rfl | rfl | hy
  · refine r_tabIn (off := 51) (tgt := 52) C (dk oX10_count 1 rfl) (by decide) (by decide) (by decide) (by decide) ?_
    refine r_aload_n C 0 (dk oX10_count 2 rfl) rfl ?_
    refine r_getR C (dk oX10_count 3 rfl) fl_X10_7 rfl (km hn rfl) ?_
    refine r_iconst C (dk oX10_count 4 rfl) (v := nI 0) (by decide) ?_
    refine r_iald C 0 (dk oX10_count 5 rfl) rfl (km hn rfl) rfl (by decide) (by decide) ?_
    rw [hC0.2.1]
    refine hret (dk oX10_count 6 rfl) rfl ?_
    refine ⟨?_, hMM, fun _ _ => rfl, rfl⟩
    unfold q_count
    rw [if_pos rfl]
  · refine r_tabIn (off := 58) (tgt := 59) C (dk oX10_count 1 rfl) (by decide) (by decide) (by decide) (by decide) ?_
    refine r_aload_n C 0 (dk oX10_count 7 rfl) rfl ?_
    refine r_getR C (dk oX10_count 8 rfl) fl_X10_22 rfl (km hn rfl) ?_
    refine r_iconst C (dk oX10_count 9 rfl) (v := nI 0) (by decide) ?_
    refine r_iald C 0 (dk oX10_count 10 rfl) rfl (km hn rfl) rfl (by decide) (by decide) ?_
    rw [hP0.2.1]
    refine hret (dk oX10_count 11 rfl) rfl ?_
    refine ⟨?_, hMM, fun _ _ => rfl, rfl⟩
    unfold q_count
    rw [if_neg (by decide), if_pos rfl]
  · refine r_tabIn (off := 65) (tgt := 66) C (dk oX10_count 1 rfl) (by decide) (by decide) (by decide) (by decide) ?_
    refine r_aload_n C 0 (dk oX10_count 12 rfl) rfl ?_
    refine r_getR C (dk oX10_count 13 rfl) fl_X10_35 rfl (km hn rfl) ?_
    refine r_iconst C (dk oX10_count 14 rfl) (v := nI 0) (by decide) ?_
    refine r_iald C 0 (dk oX10_count 15 rfl) rfl (km hn rfl) rfl (by decide) (by decide) ?_
    rw [hK0.2.1]
    refine hret (dk oX10_count 16 rfl) rfl ?_
    refine ⟨?_, hMM, fun _ _ => rfl, rfl⟩
    unfold q_count
    rw [if_neg (by decide), if_neg (by decide), if_pos rfl]
  · refine r_tabIn (off := 72) (tgt := 73) C (dk oX10_count 1 rfl) (by decide) (by decide) (by decide) (by decide) ?_
    refine r_aload_n C 0 (dk oX10_count 17 rfl) rfl ?_
    refine r_getI C (dk oX10_count 18 rfl) fl_X10_136 rfl (km hn rfl) ?_
    rw [hMT.2.1]
    refine hret (dk oX10_count 19 rfl) rfl ?_
    refine ⟨?_, hMM, fun _ _ => rfl, rfl⟩
    unfold q_count
    rw [if_neg (by decide), if_neg (by decide), if_neg (by decide), if_pos rfl]
  · refine r_tabIn (off := 77) (tgt := 78) C (dk oX10_count 1 rfl) (by decide) (by decide) (by decide) (by decide) ?_
    refine r_aload_n C 0 (dk oX10_count 20 rfl) rfl ?_
    refine r_iload_n C 1 (dk oX10_count 21 rfl) rfl ?_
    refine r_iconst C (dk oX10_count 22 rfl) (v := nI 4) (by decide) ?_
    refine r_isub C (dk oX10_count 23 rfl) ?_
    refine r_ivi C Z (dk oX10_count 24 rfl) cl_X10_255 ci_X10_standing rfl (km hn rfl) (c_X10_standing hn I J (sPp τ).1 (sPp τ).2.1 (sPp τ).2.2.1 (sPp τ).2.2.2 hMM.pap _) rfl rfl (Nat.le_of_ble_eq_true rfl) ⟨Nat.le_of_ble_eq_true rfl, Nat.le_of_ble_eq_true rfl⟩ ⟨Nat.zero_le _, Nat.zero_le _⟩ (fun r82 I82 J82 h82 => ?_)
    obtain ⟨e1_, hO82, e2_⟩ := h82
    have e2_ := e2_.symm
    subst e2_
    refine hret (dk oX10_count 25 rfl) rfl ?_
    refine ⟨?_, hMM.r hO82.r, fun k hk => hO82 k (by omega), rfl⟩
    have hph := ph_eq (τ := τ) hnp
    rw [e1_]
    have e : ∀ x : Int32, (fun f => decide (stF (sPp τ).2.2.2 (ltX (sPp τ).2.2.1 (-1)) f (sPp τ).1 0 = x)) = fun f => decide (sPhi τ f 0 = x) := fun x => by
      rw [← hph]
    rw [e]
    unfold q_count
    first
      | (rw [if_neg (by decide), if_neg (by decide), if_neg (by decide), if_neg (by decide), if_pos rfl]; rfl)
      | (rw [if_neg (by decide), if_neg (by decide), if_neg (by decide), if_neg (by decide), if_neg (by decide), if_pos rfl]; rfl)
      | (rw [if_neg (by decide), if_neg (by decide), if_neg (by decide), if_neg (by decide), if_neg (by decide), if_neg (by decide), if_pos rfl]; rfl)
      | (rw [if_neg (by decide), if_neg (by decide), if_neg (by decide), if_neg (by decide), if_neg (by decide), if_neg (by decide), if_neg (by decide), if_pos rfl]; rfl)
      | (rw [if_neg (by decide), if_neg (by decide), if_neg (by decide), if_neg (by decide), if_neg (by decide), if_neg (by decide), if_neg (by decide), if_neg (by decide), if_pos rfl]; rfl)
  · refine r_tabIn (off := 77) (tgt := 78) C (dk oX10_count 1 rfl) (by decide) (by decide) (by decide) (by decide) ?_
    refine r_aload_n C 0 (dk oX10_count 20 rfl) rfl ?_
    refine r_iload_n C 1 (dk oX10_count 21 rfl) rfl ?_
    refine r_iconst C (dk oX10_count 22 rfl) (v := nI 4) (by decide) ?_
    refine r_isub C (dk oX10_count 23 rfl) ?_
    refine r_ivi C Z (dk oX10_count 24 rfl) cl_X10_255 ci_X10_standing rfl (km hn rfl) (c_X10_standing hn I J (sPp τ).1 (sPp τ).2.1 (sPp τ).2.2.1 (sPp τ).2.2.2 hMM.pap _) rfl rfl (Nat.le_of_ble_eq_true rfl) ⟨Nat.le_of_ble_eq_true rfl, Nat.le_of_ble_eq_true rfl⟩ ⟨Nat.zero_le _, Nat.zero_le _⟩ (fun r82 I82 J82 h82 => ?_)
    obtain ⟨e1_, hO82, e2_⟩ := h82
    have e2_ := e2_.symm
    subst e2_
    refine hret (dk oX10_count 25 rfl) rfl ?_
    refine ⟨?_, hMM.r hO82.r, fun k hk => hO82 k (by omega), rfl⟩
    have hph := ph_eq (τ := τ) hnp
    rw [e1_]
    have e : ∀ x : Int32, (fun f => decide (stF (sPp τ).2.2.2 (ltX (sPp τ).2.2.1 (-1)) f (sPp τ).1 0 = x)) = fun f => decide (sPhi τ f 0 = x) := fun x => by
      rw [← hph]
    rw [e]
    unfold q_count
    first
      | (rw [if_neg (by decide), if_neg (by decide), if_neg (by decide), if_neg (by decide), if_pos rfl]; rfl)
      | (rw [if_neg (by decide), if_neg (by decide), if_neg (by decide), if_neg (by decide), if_neg (by decide), if_pos rfl]; rfl)
      | (rw [if_neg (by decide), if_neg (by decide), if_neg (by decide), if_neg (by decide), if_neg (by decide), if_neg (by decide), if_pos rfl]; rfl)
      | (rw [if_neg (by decide), if_neg (by decide), if_neg (by decide), if_neg (by decide), if_neg (by decide), if_neg (by decide), if_neg (by decide), if_pos rfl]; rfl)
      | (rw [if_neg (by decide), if_neg (by decide), if_neg (by decide), if_neg (by decide), if_neg (by decide), if_neg (by decide), if_neg (by decide), if_neg (by decide), if_pos rfl]; rfl)
  · refine r_tabIn (off := 77) (tgt := 78) C (dk oX10_count 1 rfl) (by decide) (by decide) (by decide) (by decide) ?_
    refine r_aload_n C 0 (dk oX10_count 20 rfl) rfl ?_
    refine r_iload_n C 1 (dk oX10_count 21 rfl) rfl ?_
    refine r_iconst C (dk oX10_count 22 rfl) (v := nI 4) (by decide) ?_
    refine r_isub C (dk oX10_count 23 rfl) ?_
    refine r_ivi C Z (dk oX10_count 24 rfl) cl_X10_255 ci_X10_standing rfl (km hn rfl) (c_X10_standing hn I J (sPp τ).1 (sPp τ).2.1 (sPp τ).2.2.1 (sPp τ).2.2.2 hMM.pap _) rfl rfl (Nat.le_of_ble_eq_true rfl) ⟨Nat.le_of_ble_eq_true rfl, Nat.le_of_ble_eq_true rfl⟩ ⟨Nat.zero_le _, Nat.zero_le _⟩ (fun r82 I82 J82 h82 => ?_)
    obtain ⟨e1_, hO82, e2_⟩ := h82
    have e2_ := e2_.symm
    subst e2_
    refine hret (dk oX10_count 25 rfl) rfl ?_
    refine ⟨?_, hMM.r hO82.r, fun k hk => hO82 k (by omega), rfl⟩
    have hph := ph_eq (τ := τ) hnp
    rw [e1_]
    have e : ∀ x : Int32, (fun f => decide (stF (sPp τ).2.2.2 (ltX (sPp τ).2.2.1 (-1)) f (sPp τ).1 0 = x)) = fun f => decide (sPhi τ f 0 = x) := fun x => by
      rw [← hph]
    rw [e]
    unfold q_count
    first
      | (rw [if_neg (by decide), if_neg (by decide), if_neg (by decide), if_neg (by decide), if_pos rfl]; rfl)
      | (rw [if_neg (by decide), if_neg (by decide), if_neg (by decide), if_neg (by decide), if_neg (by decide), if_pos rfl]; rfl)
      | (rw [if_neg (by decide), if_neg (by decide), if_neg (by decide), if_neg (by decide), if_neg (by decide), if_neg (by decide), if_pos rfl]; rfl)
      | (rw [if_neg (by decide), if_neg (by decide), if_neg (by decide), if_neg (by decide), if_neg (by decide), if_neg (by decide), if_neg (by decide), if_pos rfl]; rfl)
      | (rw [if_neg (by decide), if_neg (by decide), if_neg (by decide), if_neg (by decide), if_neg (by decide), if_neg (by decide), if_neg (by decide), if_neg (by decide), if_pos rfl]; rfl)
  · refine r_tabIn (off := 77) (tgt := 78) C (dk oX10_count 1 rfl) (by decide) (by decide) (by decide) (by decide) ?_
    refine r_aload_n C 0 (dk oX10_count 20 rfl) rfl ?_
    refine r_iload_n C 1 (dk oX10_count 21 rfl) rfl ?_
    refine r_iconst C (dk oX10_count 22 rfl) (v := nI 4) (by decide) ?_
    refine r_isub C (dk oX10_count 23 rfl) ?_
    refine r_ivi C Z (dk oX10_count 24 rfl) cl_X10_255 ci_X10_standing rfl (km hn rfl) (c_X10_standing hn I J (sPp τ).1 (sPp τ).2.1 (sPp τ).2.2.1 (sPp τ).2.2.2 hMM.pap _) rfl rfl (Nat.le_of_ble_eq_true rfl) ⟨Nat.le_of_ble_eq_true rfl, Nat.le_of_ble_eq_true rfl⟩ ⟨Nat.zero_le _, Nat.zero_le _⟩ (fun r82 I82 J82 h82 => ?_)
    obtain ⟨e1_, hO82, e2_⟩ := h82
    have e2_ := e2_.symm
    subst e2_
    refine hret (dk oX10_count 25 rfl) rfl ?_
    refine ⟨?_, hMM.r hO82.r, fun k hk => hO82 k (by omega), rfl⟩
    have hph := ph_eq (τ := τ) hnp
    rw [e1_]
    have e : ∀ x : Int32, (fun f => decide (stF (sPp τ).2.2.2 (ltX (sPp τ).2.2.1 (-1)) f (sPp τ).1 0 = x)) = fun f => decide (sPhi τ f 0 = x) := fun x => by
      rw [← hph]
    rw [e]
    unfold q_count
    first
      | (rw [if_neg (by decide), if_neg (by decide), if_neg (by decide), if_neg (by decide), if_pos rfl]; rfl)
      | (rw [if_neg (by decide), if_neg (by decide), if_neg (by decide), if_neg (by decide), if_neg (by decide), if_pos rfl]; rfl)
      | (rw [if_neg (by decide), if_neg (by decide), if_neg (by decide), if_neg (by decide), if_neg (by decide), if_neg (by decide), if_pos rfl]; rfl)
      | (rw [if_neg (by decide), if_neg (by decide), if_neg (by decide), if_neg (by decide), if_neg (by decide), if_neg (by decide), if_neg (by decide), if_pos rfl]; rfl)
      | (rw [if_neg (by decide), if_neg (by decide), if_neg (by decide), if_neg (by decide), if_neg (by decide), if_neg (by decide), if_neg (by decide), if_neg (by decide), if_pos rfl]; rfl)
  · refine r_tabIn (off := 77) (tgt := 78) C (dk oX10_count 1 rfl) (by decide) (by decide) (by decide) (by decide) ?_
    refine r_aload_n C 0 (dk oX10_count 20 rfl) rfl ?_
    refine r_iload_n C 1 (dk oX10_count 21 rfl) rfl ?_
    refine r_iconst C (dk oX10_count 22 rfl) (v := nI 4) (by decide) ?_
    refine r_isub C (dk oX10_count 23 rfl) ?_
    refine r_ivi C Z (dk oX10_count 24 rfl) cl_X10_255 ci_X10_standing rfl (km hn rfl) (c_X10_standing hn I J (sPp τ).1 (sPp τ).2.1 (sPp τ).2.2.1 (sPp τ).2.2.2 hMM.pap _) rfl rfl (Nat.le_of_ble_eq_true rfl) ⟨Nat.le_of_ble_eq_true rfl, Nat.le_of_ble_eq_true rfl⟩ ⟨Nat.zero_le _, Nat.zero_le _⟩ (fun r82 I82 J82 h82 => ?_)
    obtain ⟨e1_, hO82, e2_⟩ := h82
    have e2_ := e2_.symm
    subst e2_
    refine hret (dk oX10_count 25 rfl) rfl ?_
    refine ⟨?_, hMM.r hO82.r, fun k hk => hO82 k (by omega), rfl⟩
    have hph := ph_eq (τ := τ) hnp
    rw [e1_]
    have e : ∀ x : Int32, (fun f => decide (stF (sPp τ).2.2.2 (ltX (sPp τ).2.2.1 (-1)) f (sPp τ).1 0 = x)) = fun f => decide (sPhi τ f 0 = x) := fun x => by
      rw [← hph]
    rw [e]
    unfold q_count
    first
      | (rw [if_neg (by decide), if_neg (by decide), if_neg (by decide), if_neg (by decide), if_pos rfl]; rfl)
      | (rw [if_neg (by decide), if_neg (by decide), if_neg (by decide), if_neg (by decide), if_neg (by decide), if_pos rfl]; rfl)
      | (rw [if_neg (by decide), if_neg (by decide), if_neg (by decide), if_neg (by decide), if_neg (by decide), if_neg (by decide), if_pos rfl]; rfl)
      | (rw [if_neg (by decide), if_neg (by decide), if_neg (by decide), if_neg (by decide), if_neg (by decide), if_neg (by decide), if_neg (by decide), if_pos rfl]; rfl)
      | (rw [if_neg (by decide), if_neg (by decide), if_neg (by decide), if_neg (by decide), if_neg (by decide), if_neg (by decide), if_neg (by decide), if_neg (by decide), if_pos rfl]; rfl)
  · refine r_tabOut (tgt := 86) C (dk oX10_count 1 rfl) hy (by decide) ?_
    refine r_ldc C (dk oX10_count 26 rfl) kn_X10_135 ?_
    refine hret (dk oX10_count 27 rfl) rfl ?_
    refine ⟨?_, hMM, fun _ _ => rfl, rfl⟩
    unfold q_count
    rw [if_neg (sw_ne (n := 8) (k := 0) hy (by decide) (by decide)), if_neg (sw_ne (n := 8) (k := 1) hy (by decide) (by decide)), if_neg (sw_ne (n := 8) (k := 2) hy (by decide) (by decide)), if_neg (sw_ne (n := 8) (k := 3) hy (by decide) (by decide)), if_neg (sw_ne (n := 8) (k := 4) hy (by decide) (by decide)), if_neg (sw_ne (n := 8) (k := 5) hy (by decide) (by decide)), if_neg (sw_ne (n := 8) (k := 6) hy (by decide) (by decide)), if_neg (sw_ne (n := 8) (k := 7) hy (by decide) (by decide)), if_neg (sw_ne (n := 8) (k := 8) hy (by decide) (by decide))]

set_option maxHeartbeats 1000000 in
set_option maxRecDepth 100000 in
theorem c_X10_fact (hn : 148 ≤ n) (I : MI) (J : MJ) (τ : St) (hMM : MM I τ) (x y : Int32) : Ci l n ad cA D z 4 yX10_fact cX10_fact 3 .int I J [.ref (ad 117), .int x, .int y] (fun r I' J' => r = q_fact τ x y ∧ MM I' τ ∧ (∀ k, k < 117 → I' k = I k) ∧ J' = J) := by
  refine Ci.of (by decide) (Nat.le_of_ble_eq_true rfl) ?_
  intro p e s m args below meth c A C hin Z Q hret
  have hC0 := hMM.c0
  have hK0 := hMM.k0
  have hP0 := hMM.pap.zz
  have hok := hMM.ok
  have hnc : (sCl τ).1 ≤ 6 := hC0.1
  have hnp : (sPp τ).1 ≤ 10 := hP0.1
  have hnk : (sPk τ).1 ≤ 16 := hK0.1
  have hMT := hMM.2.2.2.1
  have hL := hMT.1
  have hop := @opN_lt (sPhi τ)
  have hB : brQ (sPk τ) < 65536 := brN_16 hnk
  refine r_iload_n C 1 (dk oX10_fact 0 rfl) rfl ?_
  refine r_isi C Z (dk oX10_fact 1 rfl) cl_X10_261 st_X10_isFact (c_X10_isFact I J x) rfl rfl (Nat.le_of_ble_eq_true rfl) ⟨Nat.le_of_ble_eq_true rfl, Nat.le_of_ble_eq_true rfl⟩ ⟨Nat.zero_le _, Nat.zero_le _⟩ (fun r1 I1 J1 h1 => ?_)
  obtain ⟨h1, e1_, e2_⟩ := h1
  have e1_ := e1_.symm
  have e2_ := e2_.symm
  subst e1_
  subst e2_
  subst h1
  refine r_if_ne (tgt := 11) C (dk oX10_fact 2 rfl) (by decide) (fun hb4 => ?_) (fun hb4 => ?_)
  · rw [b32_n, decide_eq_true_eq] at hb4
    obtain ⟨f_, h_f_, hx_f_⟩ := vd_of (by decide) hb4
    subst hx_f_
    refine r_aload_n C 0 (dk oX10_fact 5 rfl) rfl ?_
    refine r_iconst C (dk oX10_fact 6 rfl) (v := -1) (by decide) ?_
    refine r_ivv C Z (dk oX10_fact 7 rfl) cl_X10_247 ci_X10_hearAll rfl (km hn rfl) (c_X10_hear1 hn I J τ hMM) rfl rfl (Nat.le_of_ble_eq_true rfl) ⟨Nat.le_of_ble_eq_true rfl, Nat.le_of_ble_eq_true rfl⟩ ⟨Nat.zero_le _, Nat.zero_le _⟩ (fun I13 J13 h13 => ?_)
    obtain ⟨hM13, hSil13, hO13, e2_⟩ := h13
    have e2_ := e2_.symm
    subst e2_
    have hR13 := hO13.r
    have hF13 : ∀ k, k < 117 → I13 k = I k := fun k hk => hO13 k (by omega)
    refine r_iload_n C 2 (dk oX10_fact 8 rfl) rfl ?_
    rcases sw4 y with rfl | rfl | rfl | rfl | rfl | hy
    · refine r_tabIn (off := 35) (tgt := 52) C (dk oX10_fact 9 rfl) (by decide) (by decide) (by decide) (by decide) ?_
      refine r_aload_n C 0 (dk oX10_fact 10 rfl) rfl ?_
      refine r_getR C (dk oX10_fact 11 rfl) fl_X10_62 rfl (km hn rfl) ?_
      refine r_iload_n C 1 (dk oX10_fact 12 rfl) rfl ?_
      refine r_iald C _ (dk oX10_fact 13 rfl) rfl (km hn rfl) rfl (by omega) (by decide) ?_
      rw [show I13 135 f_ = sPhi τ f_ 0 from hM13 f_ h_f_ 0 (by decide)]
      refine hret (dk oX10_fact 14 rfl) rfl ?_
      refine ⟨?_, hMM.r hR13, hF13, rfl⟩
      unfold q_fact
      rw [if_pos (vd_n h_f_ (by omega)), cN_n (by omega), if_pos rfl]
    · refine r_tabIn (off := 42) (tgt := 59) C (dk oX10_fact 9 rfl) (by decide) (by decide) (by decide) (by decide) ?_
      refine r_aload_n C 0 (dk oX10_fact 15 rfl) rfl ?_
      refine r_getR C (dk oX10_fact 16 rfl) fl_X10_65 rfl (km hn rfl) ?_
      refine r_iload_n C 1 (dk oX10_fact 17 rfl) rfl ?_
      refine r_iald C _ (dk oX10_fact 18 rfl) rfl (km hn rfl) rfl (by omega) (by decide) ?_
      rw [show I13 136 f_ = sPhi τ f_ 1 from hM13 f_ h_f_ 1 (by decide)]
      refine hret (dk oX10_fact 19 rfl) rfl ?_
      refine ⟨?_, hMM.r hR13, hF13, rfl⟩
      unfold q_fact
      rw [if_pos (vd_n h_f_ (by omega)), cN_n (by omega), if_neg (by decide), if_pos rfl]
    · refine r_tabIn (off := 49) (tgt := 66) C (dk oX10_fact 9 rfl) (by decide) (by decide) (by decide) (by decide) ?_
      refine r_aload_n C 0 (dk oX10_fact 20 rfl) rfl ?_
      refine r_getR C (dk oX10_fact 21 rfl) fl_X10_68 rfl (km hn rfl) ?_
      refine r_iload_n C 1 (dk oX10_fact 22 rfl) rfl ?_
      refine r_iald C _ (dk oX10_fact 23 rfl) rfl (km hn rfl) rfl (by omega) (by decide) ?_
      rw [show I13 137 f_ = sPhi τ f_ 2 from hM13 f_ h_f_ 2 (by decide)]
      refine hret (dk oX10_fact 24 rfl) rfl ?_
      refine ⟨?_, hMM.r hR13, hF13, rfl⟩
      unfold q_fact
      rw [if_pos (vd_n h_f_ (by omega)), cN_n (by omega), if_neg (by decide), if_neg (by decide), if_pos rfl]
    · refine r_tabIn (off := 56) (tgt := 73) C (dk oX10_fact 9 rfl) (by decide) (by decide) (by decide) (by decide) ?_
      refine r_aload_n C 0 (dk oX10_fact 25 rfl) rfl ?_
      refine r_getR C (dk oX10_fact 26 rfl) fl_X10_71 rfl (km hn rfl) ?_
      refine r_iload_n C 1 (dk oX10_fact 27 rfl) rfl ?_
      refine r_iald C _ (dk oX10_fact 28 rfl) rfl (km hn rfl) rfl (by omega) (by decide) ?_
      rw [show I13 138 f_ = sPhi τ f_ 3 from hM13 f_ h_f_ 3 (by decide)]
      refine hret (dk oX10_fact 29 rfl) rfl ?_
      refine ⟨?_, hMM.r hR13, hF13, rfl⟩
      unfold q_fact
      rw [if_pos (vd_n h_f_ (by omega)), cN_n (by omega), if_neg (by decide), if_neg (by decide), if_neg (by decide), if_pos rfl]
    · refine r_tabIn (off := 63) (tgt := 80) C (dk oX10_fact 9 rfl) (by decide) (by decide) (by decide) (by decide) ?_
      refine r_aload_n C 0 (dk oX10_fact 30 rfl) rfl ?_
      refine r_getR C (dk oX10_fact 31 rfl) fl_X10_74 rfl (km hn rfl) ?_
      refine r_iload_n C 1 (dk oX10_fact 32 rfl) rfl ?_
      refine r_iald C _ (dk oX10_fact 33 rfl) rfl (km hn rfl) rfl (by omega) (by decide) ?_
      rw [show I13 139 f_ = sPhi τ f_ 4 from hM13 f_ h_f_ 4 (by decide)]
      refine hret (dk oX10_fact 34 rfl) rfl ?_
      refine ⟨?_, hMM.r hR13, hF13, rfl⟩
      unfold q_fact
      rw [if_pos (vd_n h_f_ (by omega)), cN_n (by omega), if_neg (by decide), if_neg (by decide), if_neg (by decide), if_neg (by decide), if_pos rfl]
    · refine r_tabOut (tgt := 87) C (dk oX10_fact 9 rfl) hy (by decide) ?_
      refine r_ldc C (dk oX10_fact 35 rfl) kn_X10_135 ?_
      refine hret (dk oX10_fact 36 rfl) rfl ?_
      refine ⟨?_, hMM.r hR13, hF13, rfl⟩
      unfold q_fact
      rw [if_pos (vd_n h_f_ (by omega)), if_neg (sw_ne (n := 4) (k := 0) hy (by decide) (by decide)), if_neg (sw_ne (n := 4) (k := 1) hy (by decide) (by decide)), if_neg (sw_ne (n := 4) (k := 2) hy (by decide) (by decide)), if_neg (sw_ne (n := 4) (k := 3) hy (by decide) (by decide)), if_neg (sw_ne (n := 4) (k := 4) hy (by decide) (by decide))]
  · rw [b32_0, decide_eq_false_iff_not] at hb4
    refine r_ldcw C (dk oX10_fact 3 rfl) kn_X10_264 ?_
    refine hret (dk oX10_fact 4 rfl) rfl ?_
    refine ⟨?_, hMM, fun _ _ => rfl, rfl⟩
    exact (if_neg hb4).symm

set_option maxHeartbeats 1000000 in
set_option maxRecDepth 100000 in
theorem c_X10_heard (hn : 148 ≤ n) (I : MI) (J : MJ) (τ : St) (hMM : MM I τ) (x y : Int32) : Ci l n ad cA D z 4 yX10_heard cX10_heard 5 .int I J [.ref (ad 117), .int x, .int y] (fun r I' J' => r = q_heard τ x y ∧ MM I' τ ∧ (∀ k, k < 117 → I' k = I k) ∧ J' = J) := by
  refine Ci.of (by decide) (Nat.le_of_ble_eq_true rfl) ?_
  intro p e s m args below meth c A C hin Z Q hret
  have hC0 := hMM.c0
  have hK0 := hMM.k0
  have hP0 := hMM.pap.zz
  have hok := hMM.ok
  have hnc : (sCl τ).1 ≤ 6 := hC0.1
  have hnp : (sPp τ).1 ≤ 10 := hP0.1
  have hnk : (sPk τ).1 ≤ 16 := hK0.1
  have hMT := hMM.2.2.2.1
  have hL := hMT.1
  have hop := @opN_lt (sPhi τ)
  have hB : brQ (sPk τ) < 65536 := brN_16 hnk
  refine r_iload_n C 1 (dk oX10_heard 0 rfl) rfl ?_
  refine r_i2l C (dk oX10_heard 1 rfl) ?_
  refine r_lconst C (dk oX10_heard 2 rfl) (v := 0) (by decide) ?_
  refine r_aload_n C 0 (dk oX10_heard 3 rfl) rfl ?_
  refine r_getR C (dk oX10_heard 4 rfl) fl_X10_22 rfl (km hn rfl) ?_
  refine r_iconst C (dk oX10_heard 5 rfl) (v := nI 0) (by decide) ?_
  refine r_iald C 0 (dk oX10_heard 6 rfl) rfl (km hn rfl) rfl (by decide) (by decide) ?_
  rw [hP0.2.1]
  refine r_iconst C (dk oX10_heard 7 rfl) (v := nI 1) (by decide) ?_
  refine r_isub C (dk oX10_heard 8 rfl) ?_
  refine r_i2l C (dk oX10_heard 9 rfl) ?_
  refine r_isi C Z (dk oX10_heard 10 rfl) cl_X10_131 st_X10_in (c_X10_in I J (x.toInt64) (0) ((nI (sPp τ).1 - nI 1).toInt64)) rfl rfl (Nat.le_of_ble_eq_true rfl) ⟨Nat.le_of_ble_eq_true rfl, Nat.le_of_ble_eq_true rfl⟩ ⟨Nat.zero_le _, Nat.zero_le _⟩ (fun r12 I12 J12 h12 => ?_)
  obtain ⟨h12, e1_, e2_⟩ := h12
  have e1_ := e1_.symm
  have e2_ := e2_.symm
  subst e1_
  subst e2_
  subst h12
  rw [show decide ((0 : Int64) ≤ x.toInt64 ∧ x.toInt64 ≤ (nI (sPp τ).1 - nI 1).toInt64) = decide (vdN x (sPp τ).1) from decide_eq_decide.mpr (in_vdm (by omega) rfl)]
  refine r_if_ne (tgt := 22) C (dk oX10_heard 11 rfl) (by decide) (fun hb15 => ?_) (fun hb15 => ?_)
  · rw [b32_n, decide_eq_true_eq] at hb15
    obtain ⟨p_, h_p_, hx_p_⟩ := vd_of (by omega) hb15
    subst hx_p_
    have q4 := hP0.2.2 p_ h_p_
    refine r_iconst C (dk oX10_heard 14 rfl) (v := nI 0) (by decide) ?_
    refine r_istore_n (lo' := [(3, _), (0, _), (1, _), (2, _)]) C (dk oX10_heard 15 rfl) rfl (by decide) rfl ?_
    refine r_iconst C (dk oX10_heard 16 rfl) (v := nI 0) (by decide) ?_
    refine r_istore (lo' := [(4, _), (3, _), (0, _), (1, _), (2, _)]) C (dk oX10_heard 17 rfl) (by decide) rfl ?_
    have L27 : ∀ (d_ : Nat) (f_ : Nat), 12 - f_ < d_ → f_ ≤ 12 → V p l e (rmL 4) s m args below meth c Q D A 5 0 0 n ad (mE cA ad I J) 27 [(0, .ref (ad 117)), (1, .int (nI p_)), (2, .int y), (3, .int (nI (bS (fun f => decide (0 < (sPp τ).2.2.2 p_ f)) f_))), (4, .int (nI f_))] [] := by
      intro d_
      induction d_ with
      | zero => intros; exact absurd (by assumption) (Nat.not_lt_zero _)
      | succ d_ ih => 
        intro f_ hd_ hf
        refine r_iload C 4 (dk oX10_heard 18 rfl) rfl ?_
        refine r_bipush C (dk oX10_heard 19 rfl) (v := nI 12) (by decide) ?_
        refine r_icmp_ge (tgt := 69) C (dk oX10_heard 20 rfl) (by decide) (fun hb31 => ?_) (fun hb31 => ?_)
        · simp (disch := omega) only [nI_leI, nI_ltI, nI_eq, nI_eq0] at hb31
          refine r_aload_n C 0 (dk oX10_heard 41 rfl) rfl ?_
          refine r_iconst C (dk oX10_heard 42 rfl) (v := -1) (by decide) ?_
          refine r_ivv C Z (dk oX10_heard 43 rfl) cl_X10_247 ci_X10_hearAll rfl (km hn rfl) (c_X10_hear1 hn I J τ hMM) rfl rfl (Nat.le_of_ble_eq_true rfl) ⟨Nat.le_of_ble_eq_true rfl, Nat.le_of_ble_eq_true rfl⟩ ⟨Nat.zero_le _, Nat.zero_le _⟩ (fun I71 J71 h71 => ?_)
          obtain ⟨hM71, hSil71, hO71, e2_⟩ := h71
          have e2_ := e2_.symm
          subst e2_
          have hR71 := hO71.r
          have hF71 : ∀ k, k < 117 → I71 k = I k := fun k hk => hO71 k (by omega)
          refine r_iload_n C 2 (dk oX10_heard 44 rfl) rfl ?_
          rcases sw3 y with rfl | rfl | rfl | rfl | hy
          · refine r_tabIn (off := 29) (tgt := 104) C (dk oX10_heard 45 rfl) (by decide) (by decide) (by decide) (by decide) ?_
            refine r_aload_n C 0 (dk oX10_heard 46 rfl) rfl ?_
            refine r_getR C (dk oX10_heard 47 rfl) fl_X10_25 rfl (km hn rfl) ?_
            refine r_iload_n C 1 (dk oX10_heard 48 rfl) rfl ?_
            refine r_iald C _ (dk oX10_heard 49 rfl) rfl (km hn rfl) rfl (by omega) (by decide) ?_
            rw [hO71 123 (by decide), q4.1]
            refine hret (dk oX10_heard 50 rfl) rfl ?_
            refine ⟨?_, hMM.r hR71, hF71, rfl⟩
            unfold q_heard
            rw [if_pos (vd_n h_p_ (by omega)), cN_n (by omega), if_pos rfl]
          · refine r_tabIn (off := 36) (tgt := 111) C (dk oX10_heard 45 rfl) (by decide) (by decide) (by decide) (by decide) ?_
            refine r_aload_n C 0 (dk oX10_heard 51 rfl) rfl ?_
            refine r_getR C (dk oX10_heard 52 rfl) fl_X10_28 rfl (km hn rfl) ?_
            refine r_iload_n C 1 (dk oX10_heard 53 rfl) rfl ?_
            refine r_zald C _ (dk oX10_heard 54 rfl) rfl (km hn rfl) rfl (by omega) (by decide) ?_
            rw [hO71 124 (by decide), q4.2.2.1]
            refine r_isi C Z (dk oX10_heard 55 rfl) cl_X10_109 st_X10_one (c_X10_one _ J _) rfl rfl (Nat.le_of_ble_eq_true rfl) ⟨Nat.le_of_ble_eq_true rfl, Nat.le_of_ble_eq_true rfl⟩ ⟨Nat.zero_le _, Nat.zero_le _⟩ (fun r117 I117 J117 h117 => ?_)
            obtain ⟨h117, e1_, e2_⟩ := h117
            have e1_ := e1_.symm
            have e2_ := e2_.symm
            subst e1_
            subst e2_
            subst h117
            refine hret (dk oX10_heard 56 rfl) rfl ?_
            refine ⟨?_, hMM.r hR71, hF71, rfl⟩
            unfold q_heard
            rw [if_pos (vd_n h_p_ (by omega)), cN_n (by omega), if_neg (by decide), if_pos rfl]
          · refine r_tabIn (off := 46) (tgt := 121) C (dk oX10_heard 45 rfl) (by decide) (by decide) (by decide) (by decide) ?_
            refine r_iload_n C 3 (dk oX10_heard 57 rfl) rfl ?_
            refine hret (dk oX10_heard 58 rfl) rfl ?_
            refine ⟨?_, hMM.r hR71, hF71, rfl⟩
            rw [show f_ = 12 by omega]
            unfold q_heard
            rw [if_pos (vd_n h_p_ (by omega)), cN_n (by omega), if_neg (by decide), if_neg (by decide), if_pos rfl]
          · refine r_tabIn (off := 48) (tgt := 123) C (dk oX10_heard 45 rfl) (by decide) (by decide) (by decide) (by decide) ?_
            refine r_aload_n C 0 (dk oX10_heard 59 rfl) rfl ?_
            refine r_getR C (dk oX10_heard 60 rfl) fl_X10_77 rfl (km hn rfl) ?_
            refine r_iload_n C 1 (dk oX10_heard 61 rfl) rfl ?_
            refine r_iald C _ (dk oX10_heard 62 rfl) rfl (km hn rfl) rfl (by omega) (by decide) ?_
            rw [hSil71 p_ h_p_]
            refine hret (dk oX10_heard 63 rfl) rfl ?_
            refine ⟨?_, hMM.r hR71, hF71, rfl⟩
            unfold q_heard
            rw [if_pos (vd_n h_p_ (by omega)), cN_n (by omega), if_neg (by decide), if_neg (by decide), if_neg (by decide), if_pos rfl]
          · refine r_tabOut (tgt := 130) C (dk oX10_heard 45 rfl) hy (by decide) ?_
            refine r_ldc C (dk oX10_heard 64 rfl) kn_X10_135 ?_
            refine hret (dk oX10_heard 65 rfl) rfl ?_
            refine ⟨?_, hMM.r hR71, hF71, rfl⟩
            unfold q_heard
            rw [if_pos (vd_n h_p_ (by omega)), if_neg (sw_ne (n := 3) (k := 0) hy (by decide) (by decide)), if_neg (sw_ne (n := 3) (k := 1) hy (by decide) (by decide)), if_neg (sw_ne (n := 3) (k := 2) hy (by decide) (by decide)), if_neg (sw_ne (n := 3) (k := 3) hy (by decide) (by decide))]
        · simp (disch := omega) only [nI_leI, nI_ltI, nI_eq, nI_eq0] at hb31
          refine r_iload_n C 3 (dk oX10_heard 21 rfl) rfl ?_
          refine r_aload_n C 0 (dk oX10_heard 22 rfl) rfl ?_
          refine r_getR C (dk oX10_heard 23 rfl) fl_X10_32 rfl (km hn rfl) ?_
          refine r_bipush C (dk oX10_heard 24 rfl) (v := nI 12) (by decide) ?_
          refine r_iload_n C 1 (dk oX10_heard 25 rfl) rfl ?_
          refine r_imul C (dk oX10_heard 26 rfl) ?_
          rw [pk_mul]
          refine r_iload C 4 (dk oX10_heard 27 rfl) rfl ?_
          refine r_iadd C (dk oX10_heard 28 rfl) ?_
          rw [nI_add]
          refine r_iald C _ (dk oX10_heard 29 rfl) rfl (km hn rfl) rfl (by omega) (by decide) ?_
          have hac := (q4.2.2.2 f_ (by omega))
          have hac6 := hac.2
          rw [hac.1]
          refine r_if_le (tgt := 54) C (dk oX10_heard 30 rfl) (by decide) (fun hb47 => ?_) (fun hb47 => ?_)
          · rw [show (0 : Int32) = nI 0 from rfl] at hb47
            simp (disch := omega) only [nI_leI, nI_ltI, nI_eq, nI_eq0] at hb47
            refine r_iconst C (dk oX10_heard 33 rfl) (v := nI 0) (by decide) ?_
            refine r_topI (show nI 0 = b32 (decide (0 < (sPp τ).2.2.2 p_ f_)) from b32_df (by omega)) ?_
            refine r_isi C Z (dk oX10_heard 34 rfl) cl_X10_109 st_X10_one (c_X10_one _ J _) rfl rfl (Nat.le_of_ble_eq_true rfl) ⟨Nat.le_of_ble_eq_true rfl, Nat.le_of_ble_eq_true rfl⟩ ⟨Nat.zero_le _, Nat.zero_le _⟩ (fun r55 I55 J55 h55 => ?_)
            obtain ⟨h55, e1_, e2_⟩ := h55
            have e1_ := e1_.symm
            have e2_ := e2_.symm
            subst e1_
            subst e2_
            subst h55
            refine r_iload C 4 (dk oX10_heard 35 rfl) rfl ?_
            refine r_ishl C (dk oX10_heard 36 rfl) ?_
            refine r_ior C (dk oX10_heard 37 rfl) ?_
            rw [or_b32 (by omega)]
            refine r_istore_n (lo' := [(3, _), (0, _), (1, _), (2, _), (4, _)]) C (dk oX10_heard 38 rfl) rfl (by decide) rfl ?_
            refine r_iinc (lo' := [(4, _), (3, _), (0, _), (1, _), (2, _)]) C 4 (dk oX10_heard 39 rfl) rfl (by first | exact nI_inc _ | rfl) (by decide) rfl ?_
            refine r_goto (tgt := 27) C (dk oX10_heard 40 rfl) (by decide) ?_
            refine V.sub [2, 3, 4, 1, 0] rfl ?_
            have hih := ih (f_ + 1) (by omega) (by omega)
            rw [bS_s] at hih
            exact hih
          · rw [show (0 : Int32) = nI 0 from rfl] at hb47
            simp (disch := omega) only [nI_leI, nI_ltI, nI_eq, nI_eq0] at hb47
            refine r_iconst C (dk oX10_heard 31 rfl) (v := nI 1) (by decide) ?_
            refine r_topI (show nI 1 = b32 (decide (0 < (sPp τ).2.2.2 p_ f_)) from b32_dt (by omega)) ?_
            refine r_goto (tgt := 55) C (dk oX10_heard 32 rfl) (by decide) ?_
            refine r_isi C Z (dk oX10_heard 34 rfl) cl_X10_109 st_X10_one (c_X10_one _ J _) rfl rfl (Nat.le_of_ble_eq_true rfl) ⟨Nat.le_of_ble_eq_true rfl, Nat.le_of_ble_eq_true rfl⟩ ⟨Nat.zero_le _, Nat.zero_le _⟩ (fun r55 I55 J55 h55 => ?_)
            obtain ⟨h55, e1_, e2_⟩ := h55
            have e1_ := e1_.symm
            have e2_ := e2_.symm
            subst e1_
            subst e2_
            subst h55
            refine r_iload C 4 (dk oX10_heard 35 rfl) rfl ?_
            refine r_ishl C (dk oX10_heard 36 rfl) ?_
            refine r_ior C (dk oX10_heard 37 rfl) ?_
            rw [or_b32 (by omega)]
            refine r_istore_n (lo' := [(3, _), (0, _), (1, _), (2, _), (4, _)]) C (dk oX10_heard 38 rfl) rfl (by decide) rfl ?_
            refine r_iinc (lo' := [(4, _), (3, _), (0, _), (1, _), (2, _)]) C 4 (dk oX10_heard 39 rfl) rfl (by first | exact nI_inc _ | rfl) (by decide) rfl ?_
            refine r_goto (tgt := 27) C (dk oX10_heard 40 rfl) (by decide) ?_
            refine V.sub [2, 3, 4, 1, 0] rfl ?_
            have hih := ih (f_ + 1) (by omega) (by omega)
            rw [bS_s] at hih
            exact hih
    refine V.sub [2, 3, 4, 1, 0] rfl ?_
    exact L27 13 0 (by omega) (Nat.zero_le _)
  · rw [b32_0, decide_eq_false_iff_not] at hb15
    refine r_ldcw C (dk oX10_heard 12 rfl) kn_X10_264 ?_
    refine hret (dk oX10_heard 13 rfl) rfl ?_
    refine ⟨?_, hMM, fun _ _ => rfl, rfl⟩
    exact (if_neg hb15).symm

set_option maxHeartbeats 1000000 in
set_option maxRecDepth 100000 in
theorem c_X10_proved (hn : 148 ≤ n) (I : MI) (J : MJ) (τ : St) (hMM : MM I τ) (x y : Int32) : Ci l n ad cA D z 4 yX10_proved cX10_proved 3 .int I J [.ref (ad 117), .int x, .int y] (fun r I' J' => r = q_proved τ x y ∧ MM I' τ ∧ (∀ k, k < 117 → I' k = I k) ∧ J' = J) := by
  refine Ci.of (by decide) (Nat.le_of_ble_eq_true rfl) ?_
  intro p e s m args below meth c A C hin Z Q hret
  have hC0 := hMM.c0
  have hK0 := hMM.k0
  have hP0 := hMM.pap.zz
  have hok := hMM.ok
  have hnc : (sCl τ).1 ≤ 6 := hC0.1
  have hnp : (sPp τ).1 ≤ 10 := hP0.1
  have hnk : (sPk τ).1 ≤ 16 := hK0.1
  have hMT := hMM.2.2.2.1
  have hL := hMT.1
  have hop := @opN_lt (sPhi τ)
  have hB : brQ (sPk τ) < 65536 := brN_16 hnk
  refine r_aload_n C 0 (dk oX10_proved 0 rfl) rfl ?_
  refine r_iload_n C 1 (dk oX10_proved 1 rfl) rfl ?_
  refine r_ivi C Z (dk oX10_proved 2 rfl) cl_X10_307 ci_X10_isProof rfl (km hn rfl) (c_X10_isProof hn I J (sPk τ).1 (by omega) hK0.2.1 x) rfl rfl (Nat.le_of_ble_eq_true rfl) ⟨Nat.le_of_ble_eq_true rfl, Nat.le_of_ble_eq_true rfl⟩ ⟨Nat.zero_le _, Nat.zero_le _⟩ (fun r2 I2 J2 h2 => ?_)
  obtain ⟨h2, e1_, e2_⟩ := h2
  have e1_ := e1_.symm
  have e2_ := e2_.symm
  subst e1_
  subst e2_
  subst h2
  refine r_if_ne (tgt := 12) C (dk oX10_proved 3 rfl) (by decide) (fun hb5 => ?_) (fun hb5 => ?_)
  · rw [b32_n, decide_eq_true_eq] at hb5
    obtain ⟨k_, h_k_, hx_k_⟩ := vd_of (by omega) hb5
    subst hx_k_
    have q4 := hK0.2.2 k_ h_k_
    refine r_aload_n C 0 (dk oX10_proved 6 rfl) rfl ?_
    refine r_iconst C (dk oX10_proved 7 rfl) (v := -1) (by decide) ?_
    refine r_ivv C Z (dk oX10_proved 8 rfl) cl_X10_247 ci_X10_hearAll rfl (km hn rfl) (c_X10_hear1 hn I J τ hMM) rfl rfl (Nat.le_of_ble_eq_true rfl) ⟨Nat.le_of_ble_eq_true rfl, Nat.le_of_ble_eq_true rfl⟩ ⟨Nat.zero_le _, Nat.zero_le _⟩ (fun I14 J14 h14 => ?_)
    obtain ⟨hM14, hSil14, hO14, e2_⟩ := h14
    have e2_ := e2_.symm
    subst e2_
    have hR14 := hO14.r
    have hF14 : ∀ k, k < 117 → I14 k = I k := fun k hk => hO14 k (by omega)
    refine r_iload_n C 2 (dk oX10_proved 9 rfl) rfl ?_
    rcases sw5 y with rfl | rfl | rfl | rfl | rfl | rfl | hy
    · refine r_tabIn (off := 38) (tgt := 56) C (dk oX10_proved 10 rfl) (by decide) (by decide) (by decide) (by decide) ?_
      refine r_aload_n C 0 (dk oX10_proved 11 rfl) rfl ?_
      refine r_getR C (dk oX10_proved 12 rfl) fl_X10_38 rfl (km hn rfl) ?_
      refine r_iload_n C 1 (dk oX10_proved 13 rfl) rfl ?_
      refine r_iald C _ (dk oX10_proved 14 rfl) rfl (km hn rfl) rfl (by omega) (by decide) ?_
      rw [hO14 127 (by decide), q4.1]
      refine hret (dk oX10_proved 15 rfl) rfl ?_
      refine ⟨?_, hMM.r hR14, hF14, rfl⟩
      unfold q_proved
      rw [if_pos (vd_n h_k_ (by omega)), cN_n (by omega), if_pos rfl]
    · refine r_tabIn (off := 45) (tgt := 63) C (dk oX10_proved 10 rfl) (by decide) (by decide) (by decide) (by decide) ?_
      refine r_aload_n C 0 (dk oX10_proved 16 rfl) rfl ?_
      refine r_getR C (dk oX10_proved 17 rfl) fl_X10_41 rfl (km hn rfl) ?_
      refine r_iload_n C 1 (dk oX10_proved 18 rfl) rfl ?_
      refine r_iald C _ (dk oX10_proved 19 rfl) rfl (km hn rfl) rfl (by omega) (by decide) ?_
      rw [hO14 128 (by decide), q4.2.2.1]
      refine hret (dk oX10_proved 20 rfl) rfl ?_
      refine ⟨?_, hMM.r hR14, hF14, rfl⟩
      unfold q_proved
      rw [if_pos (vd_n h_k_ (by omega)), cN_n (by omega), if_neg (by decide), if_pos rfl]
    · refine r_tabIn (off := 52) (tgt := 70) C (dk oX10_proved 10 rfl) (by decide) (by decide) (by decide) (by decide) ?_
      refine r_aload_n C 0 (dk oX10_proved 21 rfl) rfl ?_
      refine r_getR C (dk oX10_proved 22 rfl) fl_X10_44 rfl (km hn rfl) ?_
      refine r_iload_n C 1 (dk oX10_proved 23 rfl) rfl ?_
      refine r_iald C _ (dk oX10_proved 24 rfl) rfl (km hn rfl) rfl (by omega) (by decide) ?_
      rw [hO14 129 (by decide), q4.2.2.2.2.1]
      refine hret (dk oX10_proved 25 rfl) rfl ?_
      refine ⟨?_, hMM.r hR14, hF14, rfl⟩
      unfold q_proved
      rw [if_pos (vd_n h_k_ (by omega)), cN_n (by omega), if_neg (by decide), if_neg (by decide), if_pos rfl]
    · refine r_tabIn (off := 59) (tgt := 77) C (dk oX10_proved 10 rfl) (by decide) (by decide) (by decide) (by decide) ?_
      refine r_aload_n C 0 (dk oX10_proved 26 rfl) rfl ?_
      refine r_getR C (dk oX10_proved 27 rfl) fl_X10_47 rfl (km hn rfl) ?_
      refine r_iload_n C 1 (dk oX10_proved 28 rfl) rfl ?_
      refine r_iald C _ (dk oX10_proved 29 rfl) rfl (km hn rfl) rfl (by omega) (by decide) ?_
      rw [hO14 130 (by decide), q4.2.2.2.2.2.2.1]
      refine hret (dk oX10_proved 30 rfl) rfl ?_
      refine ⟨?_, hMM.r hR14, hF14, rfl⟩
      unfold q_proved
      rw [if_pos (vd_n h_k_ (by omega)), cN_n (by omega), if_neg (by decide), if_neg (by decide), if_neg (by decide), if_pos rfl]
    · refine r_tabIn (off := 66) (tgt := 84) C (dk oX10_proved 10 rfl) (by decide) (by decide) (by decide) (by decide) ?_
      refine r_aload_n C 0 (dk oX10_proved 31 rfl) rfl ?_
      refine r_getR C (dk oX10_proved 32 rfl) fl_X10_50 rfl (km hn rfl) ?_
      refine r_iload_n C 1 (dk oX10_proved 33 rfl) rfl ?_
      refine r_zald C _ (dk oX10_proved 34 rfl) rfl (km hn rfl) rfl (by omega) (by decide) ?_
      rw [hO14 131 (by decide), q4.2.2.2.2.2.2.2.2]
      refine r_isi C Z (dk oX10_proved 35 rfl) cl_X10_109 st_X10_one (c_X10_one _ J _) rfl rfl (Nat.le_of_ble_eq_true rfl) ⟨Nat.le_of_ble_eq_true rfl, Nat.le_of_ble_eq_true rfl⟩ ⟨Nat.zero_le _, Nat.zero_le _⟩ (fun r90 I90 J90 h90 => ?_)
      obtain ⟨h90, e1_, e2_⟩ := h90
      have e1_ := e1_.symm
      have e2_ := e2_.symm
      subst e1_
      subst e2_
      subst h90
      refine hret (dk oX10_proved 36 rfl) rfl ?_
      refine ⟨?_, hMM.r hR14, hF14, rfl⟩
      unfold q_proved
      rw [if_pos (vd_n h_k_ (by omega)), cN_n (by omega), if_neg (by decide), if_neg (by decide), if_neg (by decide), if_neg (by decide), if_pos rfl]
    · refine r_tabIn (off := 76) (tgt := 94) C (dk oX10_proved 10 rfl) (by decide) (by decide) (by decide) (by decide) ?_
      refine r_aload_n C 0 (dk oX10_proved 37 rfl) rfl ?_
      refine r_iload_n C 1 (dk oX10_proved 38 rfl) rfl ?_
      refine r_ivi C Z (dk oX10_proved 39 rfl) cl_X10_310 ci_X10_counts rfl (km hn rfl) (c_X10_counts hn I14 J (sPhi τ) hM14 hok (sPk τ) (hK0.of (fun c a b => hO14 c (by omega))) k_ h_k_) rfl rfl (Nat.le_of_ble_eq_true rfl) ⟨Nat.le_of_ble_eq_true rfl, Nat.le_of_ble_eq_true rfl⟩ ⟨Nat.zero_le _, Nat.zero_le _⟩ (fun r96 I96 J96 h96 => ?_)
      obtain ⟨h96, e1_, e2_⟩ := h96
      have e1_ := e1_.symm
      have e2_ := e2_.symm
      subst e1_
      subst e2_
      subst h96
      refine hret (dk oX10_proved 40 rfl) rfl ?_
      refine ⟨?_, hMM.r hR14, hF14, rfl⟩
      unfold q_proved
      rw [if_pos (vd_n h_k_ (by omega)), cN_n (by omega), if_neg (by decide), if_neg (by decide), if_neg (by decide), if_neg (by decide), if_neg (by decide), if_pos rfl]
    · refine r_tabOut (tgt := 100) C (dk oX10_proved 10 rfl) hy (by decide) ?_
      refine r_ldc C (dk oX10_proved 41 rfl) kn_X10_135 ?_
      refine hret (dk oX10_proved 42 rfl) rfl ?_
      refine ⟨?_, hMM.r hR14, hF14, rfl⟩
      unfold q_proved
      rw [if_pos (vd_n h_k_ (by omega)), if_neg (sw_ne (n := 5) (k := 0) hy (by decide) (by decide)), if_neg (sw_ne (n := 5) (k := 1) hy (by decide) (by decide)), if_neg (sw_ne (n := 5) (k := 2) hy (by decide) (by decide)), if_neg (sw_ne (n := 5) (k := 3) hy (by decide) (by decide)), if_neg (sw_ne (n := 5) (k := 4) hy (by decide) (by decide)), if_neg (sw_ne (n := 5) (k := 5) hy (by decide) (by decide))]
  · rw [b32_0, decide_eq_false_iff_not] at hb5
    refine r_ldcw C (dk oX10_proved 4 rfl) kn_X10_264 ?_
    refine hret (dk oX10_proved 5 rfl) rfl ?_
    refine ⟨?_, hMM, fun _ _ => rfl, rfl⟩
    exact (if_neg hb5).symm

set_option maxHeartbeats 1000000 in
set_option maxRecDepth 100000 in
theorem c_X10_holds (hn : 148 ≤ n) (I : MI) (J : MJ) (τ : St) (hMM : MM I τ) (x y : Int32) : Ci l n ad cA D z 4 yX10_holds cX10_holds 3 .int I J [.ref (ad 117), .int x, .int y] (fun r I' J' => r = q_holds τ x y ∧ MM I' τ ∧ (∀ k, k < 117 → I' k = I k) ∧ J' = J) := by
  refine Ci.of (by decide) (Nat.le_of_ble_eq_true rfl) ?_
  intro p e s m args below meth c A C hin Z Q hret
  have hC0 := hMM.c0
  have hK0 := hMM.k0
  have hP0 := hMM.pap.zz
  have hok := hMM.ok
  have hnc : (sCl τ).1 ≤ 6 := hC0.1
  have hnp : (sPp τ).1 ≤ 10 := hP0.1
  have hnk : (sPk τ).1 ≤ 16 := hK0.1
  have hMT := hMM.2.2.2.1
  have hL := hMT.1
  have hop := @opN_lt (sPhi τ)
  have hB : brQ (sPk τ) < 65536 := brN_16 hnk
  refine r_aload_n C 0 (dk oX10_holds 0 rfl) rfl ?_
  refine r_iload_n C 1 (dk oX10_holds 1 rfl) rfl ?_
  refine r_ivi C Z (dk oX10_holds 2 rfl) cl_X10_284 ci_X10_isClaim rfl (km hn rfl) (c_X10_isClaim hn I J (sCl τ).1 (by omega) hC0.2.1 x) rfl rfl (Nat.le_of_ble_eq_true rfl) ⟨Nat.le_of_ble_eq_true rfl, Nat.le_of_ble_eq_true rfl⟩ ⟨Nat.zero_le _, Nat.zero_le _⟩ (fun r2 I2 J2 h2 => ?_)
  obtain ⟨h2, e1_, e2_⟩ := h2
  have e1_ := e1_.symm
  have e2_ := e2_.symm
  subst e1_
  subst e2_
  subst h2
  refine r_if_ne (tgt := 12) C (dk oX10_holds 3 rfl) (by decide) (fun hb5 => ?_) (fun hb5 => ?_)
  · rw [b32_n, decide_eq_true_eq] at hb5
    obtain ⟨c_, h_c_, hx_c_⟩ := vd_of (by omega) hb5
    subst hx_c_
    refine r_aload_n C 0 (dk oX10_holds 6 rfl) rfl ?_
    refine r_iconst C (dk oX10_holds 7 rfl) (v := -1) (by decide) ?_
    refine r_ivv C Z (dk oX10_holds 8 rfl) cl_X10_247 ci_X10_hearAll rfl (km hn rfl) (c_X10_hear1 hn I J τ hMM) rfl rfl (Nat.le_of_ble_eq_true rfl) ⟨Nat.le_of_ble_eq_true rfl, Nat.le_of_ble_eq_true rfl⟩ ⟨Nat.zero_le _, Nat.zero_le _⟩ (fun I14 J14 h14 => ?_)
    obtain ⟨hM14, hSil14, hO14, e2_⟩ := h14
    have e2_ := e2_.symm
    subst e2_
    have hR14 := hO14.r
    have hF14 : ∀ k, k < 117 → I14 k = I k := fun k hk => hO14 k (by omega)
    refine r_iload_n C 2 (dk oX10_holds 9 rfl) rfl ?_
    refine r_aload_n C 0 (dk oX10_holds 10 rfl) rfl ?_
    refine r_ivi C Z (dk oX10_holds 11 rfl) cl_X10_278 ci_X10_openFacts rfl (km hn rfl) (c_X10_openFacts hn I14 J (sPhi τ) hM14 hok) rfl rfl (Nat.le_of_ble_eq_true rfl) ⟨Nat.le_of_ble_eq_true rfl, Nat.le_of_ble_eq_true rfl⟩ ⟨Nat.zero_le _, Nat.zero_le _⟩ (fun r19 I19 J19 h19 => ?_)
    obtain ⟨h19, e1_, e2_⟩ := h19
    have e1_ := e1_.symm
    have e2_ := e2_.symm
    subst e1_
    subst e2_
    subst h19
    refine r_iconst C (dk oX10_holds 12 rfl) (v := -1) (by decide) ?_
    refine r_ixor C (dk oX10_holds 13 rfl) ?_
    refine r_iand C (dk oX10_holds 14 rfl) ?_
    refine r_if_eq (tgt := 32) C (dk oX10_holds 15 rfl) (by decide) (fun hb25 => ?_) (fun hb25 => ?_)
    · have hb25b := hb25
      obtain ⟨s_, hs1, hs2, hs3⟩ := hs_of hop hb25
      subst hs3
      have hsub : sub s_ (opN (sPhi τ)) = true := decide_eq_true hs2
      refine r_aload_n C 0 (dk oX10_holds 18 rfl) rfl ?_
      refine r_iload_n C 1 (dk oX10_holds 19 rfl) rfl ?_
      refine r_aload_n C 0 (dk oX10_holds 20 rfl) rfl ?_
      refine r_iload_n C 2 (dk oX10_holds 21 rfl) rfl ?_
      refine r_iconst C (dk oX10_holds 22 rfl) (v := nI 0) (by decide) ?_
      refine r_ivi C Z (dk oX10_holds 23 rfl) cl_X10_281 ci_X10_soBy rfl (km hn rfl) (c_X10_soBy hn I14 J (sPhi τ) hM14 s_ 0 (by omega) (by decide)) rfl rfl (Nat.le_of_ble_eq_true rfl) ⟨Nat.le_of_ble_eq_true rfl, Nat.le_of_ble_eq_true rfl⟩ ⟨Nat.zero_le _, Nat.zero_le _⟩ (fun r37 I37 J37 h37 => ?_)
      obtain ⟨h37, e1_, e2_⟩ := h37
      have e1_ := e1_.symm
      have e2_ := e2_.symm
      subst e1_
      subst e2_
      subst h37
      rw [soD_0 hok hsub]
      refine r_ivi C Z (dk oX10_holds 24 rfl) cl_X10_275 ci_X10_asks rfl (km hn rfl) (c_X10_asks hn I14 J c_ (soN (sPhi τ) s_) ((sCl τ).2.2 c_) (by omega) (soN_lt hs1) ((hC0.2.2 c_ h_c_).2.2.sl hR14)) rfl rfl (Nat.le_of_ble_eq_true rfl) ⟨Nat.le_of_ble_eq_true rfl, Nat.le_of_ble_eq_true rfl⟩ ⟨Nat.zero_le _, Nat.zero_le _⟩ (fun r40 I40 J40 h40 => ?_)
      obtain ⟨e1_, hsk, e2_⟩ := h40
      have e1_ := e1_.symm
      have e2_ := e2_.symm
      subst e1_
      subst e2_
      refine r_isi C Z (dk oX10_holds 25 rfl) cl_X10_109 st_X10_one (c_X10_one _ J _) rfl rfl (Nat.le_of_ble_eq_true rfl) ⟨Nat.le_of_ble_eq_true rfl, Nat.le_of_ble_eq_true rfl⟩ ⟨Nat.zero_le _, Nat.zero_le _⟩ (fun r43 I43 J43 h43 => ?_)
      obtain ⟨h43, e1_, e2_⟩ := h43
      have e1_ := e1_.symm
      have e2_ := e2_.symm
      subst e1_
      subst e2_
      subst h43
      refine hret (dk oX10_holds 26 rfl) rfl ?_
      refine ⟨?_, hMM.r (hR14.tr hsk.r), fun k hk => by rw [hsk.1 k (by omega)]; exact hF14 k hk, rfl⟩
      unfold q_holds
      rw [if_pos ⟨vd_n h_c_ (by omega), hb25b⟩, cN_n (by omega), cN_n (by omega)]
    · refine r_ldcw C (dk oX10_holds 16 rfl) kn_X10_264 ?_
      refine hret (dk oX10_holds 17 rfl) rfl ?_
      refine ⟨?_, hMM.r hR14, hF14, rfl⟩
      exact (if_neg (fun q => hb25 q.2)).symm
  · rw [b32_0, decide_eq_false_iff_not] at hb5
    refine r_ldcw C (dk oX10_holds 4 rfl) kn_X10_264 ?_
    refine hret (dk oX10_holds 5 rfl) rfl ?_
    refine ⟨?_, hMM, fun _ _ => rfl, rfl⟩
    exact (if_neg (fun q => hb5 q.1)).symm

set_option maxHeartbeats 1000000 in
set_option maxRecDepth 100000 in
theorem c_X10_likely (hn : 148 ≤ n) (I : MI) (J : MJ) (τ : St) (hMM : MM I τ) (x : Int32) : Ci l n ad cA D z 4 yX10_likely cX10_likely 2 .int I J [.ref (ad 117), .int x] (fun r I' J' => r = q_likely τ x ∧ MM I' τ ∧ (∀ k, k < 117 → I' k = I k) ∧ J' = J) := by
  refine Ci.of (by decide) (Nat.le_of_ble_eq_true rfl) ?_
  intro p e s m args below meth c A C hin Z Q hret
  have hC0 := hMM.c0
  have hK0 := hMM.k0
  have hP0 := hMM.pap.zz
  have hok := hMM.ok
  have hnc : (sCl τ).1 ≤ 6 := hC0.1
  have hnp : (sPp τ).1 ≤ 10 := hP0.1
  have hnk : (sPk τ).1 ≤ 16 := hK0.1
  have hMT := hMM.2.2.2.1
  have hL := hMT.1
  have hop := @opN_lt (sPhi τ)
  have hB : brQ (sPk τ) < 65536 := brN_16 hnk
  refine r_iload_n C 1 (dk oX10_likely 0 rfl) rfl ?_
  refine r_isi C Z (dk oX10_likely 1 rfl) cl_X10_261 st_X10_isFact (c_X10_isFact I J x) rfl rfl (Nat.le_of_ble_eq_true rfl) ⟨Nat.le_of_ble_eq_true rfl, Nat.le_of_ble_eq_true rfl⟩ ⟨Nat.zero_le _, Nat.zero_le _⟩ (fun r1 I1 J1 h1 => ?_)
  obtain ⟨h1, e1_, e2_⟩ := h1
  have e1_ := e1_.symm
  have e2_ := e2_.symm
  subst e1_
  subst e2_
  subst h1
  refine r_if_ne (tgt := 11) C (dk oX10_likely 2 rfl) (by decide) (fun hb4 => ?_) (fun hb4 => ?_)
  · rw [b32_n, decide_eq_true_eq] at hb4
    obtain ⟨f_, h_f_, hx_f_⟩ := vd_of (by decide) hb4
    subst hx_f_
    refine r_aload_n C 0 (dk oX10_likely 5 rfl) rfl ?_
    refine r_iconst C (dk oX10_likely 6 rfl) (v := -1) (by decide) ?_
    refine r_ivv C Z (dk oX10_likely 7 rfl) cl_X10_247 ci_X10_hearAll rfl (km hn rfl) (c_X10_hear1 hn I J τ hMM) rfl rfl (Nat.le_of_ble_eq_true rfl) ⟨Nat.le_of_ble_eq_true rfl, Nat.le_of_ble_eq_true rfl⟩ ⟨Nat.zero_le _, Nat.zero_le _⟩ (fun I13 J13 h13 => ?_)
    obtain ⟨hM13, hSil13, hO13, e2_⟩ := h13
    have e2_ := e2_.symm
    subst e2_
    have hR13 := hO13.r
    have hF13 : ∀ k, k < 117 → I13 k = I k := fun k hk => hO13 k (by omega)
    refine r_aload_n C 0 (dk oX10_likely 8 rfl) rfl ?_
    refine r_ivi C Z (dk oX10_likely 9 rfl) cl_X10_278 ci_X10_openFacts rfl (km hn rfl) (c_X10_openFacts hn I13 J (sPhi τ) hM13 hok) rfl rfl (Nat.le_of_ble_eq_true rfl) ⟨Nat.le_of_ble_eq_true rfl, Nat.le_of_ble_eq_true rfl⟩ ⟨Nat.zero_le _, Nat.zero_le _⟩ (fun r17 I17 J17 h17 => ?_)
    obtain ⟨h17, e1_, e2_⟩ := h17
    have e1_ := e1_.symm
    have e2_ := e2_.symm
    subst e1_
    subst e2_
    subst h17
    refine r_iload_n C 1 (dk oX10_likely 10 rfl) rfl ?_
    refine r_isi C Z (dk oX10_likely 11 rfl) cl_X10_231 st_X10_has (c_X10_has I13 J (opN (sPhi τ)) (f_) (by omega) (by omega)) rfl rfl (Nat.le_of_ble_eq_true rfl) ⟨Nat.le_of_ble_eq_true rfl, Nat.le_of_ble_eq_true rfl⟩ ⟨Nat.zero_le _, Nat.zero_le _⟩ (fun r21 I21 J21 h21 => ?_)
    obtain ⟨h21, e1_, e2_⟩ := h21
    have e1_ := e1_.symm
    have e2_ := e2_.symm
    subst e1_
    subst e2_
    subst h21
    refine r_if_eq (tgt := 36) C (dk oX10_likely 12 rfl) (by decide) (fun hb24 => ?_) (fun hb24 => ?_)
    · rw [b32_0] at hb24
      refine r_ldc C (dk oX10_likely 18 rfl) kn_X10_221 ?_
      refine hret (dk oX10_likely 19 rfl) rfl ?_
      refine ⟨?_, hMM.r hR13, hF13, rfl⟩
      unfold q_likely
      rw [if_pos (vd_n h_f_ (by omega)), cN_n (by omega)]
      first
        | rw [if_pos hb24]
        | (rw [hb24, if_neg (by decide)])
    · rw [b32_n] at hb24
      refine r_aload_n C 0 (dk oX10_likely 13 rfl) rfl ?_
      refine r_iload_n C 1 (dk oX10_likely 14 rfl) rfl ?_
      refine r_iconst C (dk oX10_likely 15 rfl) (v := nI 0) (by decide) ?_
      refine r_ivi C Z (dk oX10_likely 16 rfl) cl_X10_313 ci_X10_likelyBy rfl (km hn rfl) (c_X10_likelyBy hn I13 J (sPhi τ) hM13 hok (sPk τ) (hK0.of (fun c a b => hO13 c (by omega))) f_ 0 h_f_ (by decide)) rfl rfl (Nat.le_of_ble_eq_true rfl) ⟨Nat.le_of_ble_eq_true rfl, Nat.le_of_ble_eq_true rfl⟩ ⟨Nat.zero_le _, Nat.zero_le _⟩ (fun r30 I30 J30 h30 => ?_)
      obtain ⟨h30, e1_, e2_⟩ := h30
      have e1_ := e1_.symm
      have e2_ := e2_.symm
      subst e1_
      subst e2_
      subst h30
      rw [Nat.or_zero]
      refine r_goto (tgt := 38) C (dk oX10_likely 17 rfl) (by decide) ?_
      refine hret (dk oX10_likely 19 rfl) rfl ?_
      refine ⟨?_, hMM.r hR13, hF13, rfl⟩
      unfold q_likely
      rw [if_pos (vd_n h_f_ (by omega)), cN_n (by omega)]
      first
        | rw [if_pos hb24]
        | (rw [hb24, if_neg (by decide)])
  · rw [b32_0, decide_eq_false_iff_not] at hb4
    refine r_ldcw C (dk oX10_likely 3 rfl) kn_X10_264 ?_
    refine hret (dk oX10_likely 4 rfl) rfl ?_
    refine ⟨?_, hMM, fun _ _ => rfl, rfl⟩
    exact (if_neg hb4).symm

set_option maxHeartbeats 1000000 in
set_option maxRecDepth 100000 in
theorem c_X10_chance (hn : 148 ≤ n) (I : MI) (J : MJ) (τ : St) (hMM : MM I τ) (x : Int32) : Ci l n ad cA D z 5 yX10_chance cX10_chance 2 .int I J [.ref (ad 117), .int x] (fun r I' J' => r = q_chance τ x ∧ MM I' τ ∧ (∀ k, k < 117 → I' k = I k) ∧ J' = J) := by
  refine Ci.of (by decide) (Nat.le_of_ble_eq_true rfl) ?_
  intro p e s m args below meth c A C hin Z Q hret
  have hC0 := hMM.c0
  have hK0 := hMM.k0
  have hP0 := hMM.pap.zz
  have hok := hMM.ok
  have hnc : (sCl τ).1 ≤ 6 := hC0.1
  have hnp : (sPp τ).1 ≤ 10 := hP0.1
  have hnk : (sPk τ).1 ≤ 16 := hK0.1
  have hMT := hMM.2.2.2.1
  have hL := hMT.1
  have hop := @opN_lt (sPhi τ)
  have hB : brQ (sPk τ) < 65536 := brN_16 hnk
  refine r_aload_n C 0 (dk oX10_chance 0 rfl) rfl ?_
  refine r_iload_n C 1 (dk oX10_chance 1 rfl) rfl ?_
  refine r_ivi C Z (dk oX10_chance 2 rfl) cl_X10_284 ci_X10_isClaim rfl (km hn rfl) (c_X10_isClaim hn I J (sCl τ).1 (by omega) hC0.2.1 x) rfl rfl (Nat.le_of_ble_eq_true rfl) ⟨Nat.le_of_ble_eq_true rfl, Nat.le_of_ble_eq_true rfl⟩ ⟨Nat.zero_le _, Nat.zero_le _⟩ (fun r2 I2 J2 h2 => ?_)
  obtain ⟨h2, e1_, e2_⟩ := h2
  have e1_ := e1_.symm
  have e2_ := e2_.symm
  subst e1_
  subst e2_
  subst h2
  refine r_if_ne (tgt := 12) C (dk oX10_chance 3 rfl) (by decide) (fun hb5 => ?_) (fun hb5 => ?_)
  · rw [b32_n, decide_eq_true_eq] at hb5
    obtain ⟨c_, h_c_, hx_c_⟩ := vd_of (by omega) hb5
    subst hx_c_
    refine r_aload_n C 0 (dk oX10_chance 6 rfl) rfl ?_
    refine r_iconst C (dk oX10_chance 7 rfl) (v := -1) (by decide) ?_
    refine r_ivv C Z (dk oX10_chance 8 rfl) cl_X10_247 ci_X10_hearAll rfl (km hn rfl) (c_X10_hear1 hn I J τ hMM) rfl rfl (Nat.le_of_ble_eq_true rfl) ⟨Nat.le_of_ble_eq_true rfl, Nat.le_of_ble_eq_true rfl⟩ ⟨Nat.zero_le _, Nat.zero_le _⟩ (fun I14 J14 h14 => ?_)
    obtain ⟨hM14, hSil14, hO14, e2_⟩ := h14
    have e2_ := e2_.symm
    subst e2_
    have hR14 := hO14.r
    have hF14 : ∀ k, k < 117 → I14 k = I k := fun k hk => hO14 k (by omega)
    refine r_aload_n C 0 (dk oX10_chance 9 rfl) rfl ?_
    refine r_iconst C (dk oX10_chance 10 rfl) (v := nI 0) (by decide) ?_
    refine r_ivv C Z (dk oX10_chance 11 rfl) cl_X10_318 ci_X10_findWays rfl (km hn rfl) (c_X10_findWays hn I14 J (sPhi τ) hM14 hok (sPk τ) (hK0.of (fun c a b => hO14 c (by omega))) 0 (by decide)) rfl rfl (Nat.le_of_ble_eq_true rfl) ⟨Nat.le_of_ble_eq_true rfl, Nat.le_of_ble_eq_true rfl⟩ ⟨Nat.zero_le _, Nat.zero_le _⟩ (fun I19 J19 h19 => ?_)
    obtain ⟨hW19, hO19, e2_⟩ := h19
    have e2_ := e2_.symm
    subst e2_
    refine r_aload_n C 0 (dk oX10_chance 12 rfl) rfl ?_
    refine r_iload_n C 1 (dk oX10_chance 13 rfl) rfl ?_
    refine r_ivi C Z (dk oX10_chance 14 rfl) cl_X10_321 ci_X10_chanceOf rfl (km hn rfl) (c_X10_chanceOf hn I19 J (sPhi τ) (hM14.of (fun c a b => hO19 c (by omega) (by omega))) hok c_ ((sCl τ).2.2 c_) (by omega) (((hC0.2.2 c_ h_c_).2.2.sl hR14).of (hO19 120 (by decide) (by decide)) (hO19 121 (by decide) (by decide))) (wyM (sPhi τ) (fun f => shQ (sPk τ) (sPhi τ) (brQ (sPk τ) ||| 0) f)) (fun s hs => ⟨hW19 s hs, wyM_le (fun f => shF_le)⟩)) rfl rfl (Nat.le_of_ble_eq_true rfl) ⟨Nat.le_of_ble_eq_true rfl, Nat.le_of_ble_eq_true rfl⟩ ⟨Nat.zero_le _, Nat.zero_le _⟩ (fun r24 I24 J24 h24 => ?_)
    obtain ⟨e1_, hsk, e2_⟩ := h24
    rw [chM_eq hok, Nat.or_zero] at e1_
    have e1_ := e1_.symm
    have e2_ := e2_.symm
    subst e1_
    subst e2_
    refine hret (dk oX10_chance 15 rfl) rfl ?_
    refine ⟨?_, hMM.r ((hR14.tr ⟨fun k a b => hO19 k (by omega) (by omega), hO19 141 (by decide) (by decide), fun i _ => by rw [hO19 117 (by decide) (by decide)]⟩).tr hsk.r), fun k hk => by rw [hsk.1 k (by omega), hO19 k (by omega) (by omega)]; exact hF14 k hk, rfl⟩
    unfold q_chance
    rw [if_pos (vd_n h_c_ (by omega)), cN_n (by omega)]
    rfl
  · rw [b32_0, decide_eq_false_iff_not] at hb5
    refine r_ldcw C (dk oX10_chance 4 rfl) kn_X10_264 ?_
    refine hret (dk oX10_chance 5 rfl) rfl ?_
    refine ⟨?_, hMM, fun _ _ => rfl, rfl⟩
    exact (if_neg hb5).symm

theorem wo_r {I I' : MI} (h1 : ∀ k, k ≠ 117 → k ≠ 145 → k ≠ 146 → I' k = I k) (h2 : ∀ i, i ≠ 39 → I' 117 i = I 117 i) : mQr I I' := ⟨fun k a b => h1 k b (by omega) (by omega), h1 141 (by decide) (by decide) (by decide), fun i a => h2 i (by omega)⟩
set_option maxHeartbeats 1000000 in
set_option maxRecDepth 100000 in
theorem c_X10_worth (hn : 148 ≤ n) (I : MI) (J : MJ) (τ : St) (hMM : MM I τ) (x : Int32) : Ci l n ad cA D z 7 yX10_worth cX10_worth 2 .int I J [.ref (ad 117), .int x] (fun r I' J' => r = q_worth τ x ∧ MM I' τ ∧ (∀ k, k < 117 → I' k = I k) ∧ J' = J) := by
  refine Ci.of (by decide) (Nat.le_of_ble_eq_true rfl) ?_
  intro p e s m args below meth c A C hin Z Q hret
  have hC0 := hMM.c0
  have hK0 := hMM.k0
  have hP0 := hMM.pap.zz
  have hok := hMM.ok
  have hnc : (sCl τ).1 ≤ 6 := hC0.1
  have hnp : (sPp τ).1 ≤ 10 := hP0.1
  have hnk : (sPk τ).1 ≤ 16 := hK0.1
  have hMT := hMM.2.2.2.1
  have hL := hMT.1
  have hop := @opN_lt (sPhi τ)
  have hB : brQ (sPk τ) < 65536 := brN_16 hnk
  refine r_iload_n C 1 (dk oX10_worth 0 rfl) rfl ?_
  refine r_isi C Z (dk oX10_worth 1 rfl) cl_X10_302 st_X10_isSide (c_X10_isSide I J x) rfl rfl (Nat.le_of_ble_eq_true rfl) ⟨Nat.le_of_ble_eq_true rfl, Nat.le_of_ble_eq_true rfl⟩ ⟨Nat.zero_le _, Nat.zero_le _⟩ (fun r1 I1 J1 h1 => ?_)
  obtain ⟨h1, e1_, e2_⟩ := h1
  have e1_ := e1_.symm
  have e2_ := e2_.symm
  subst e1_
  subst e2_
  subst h1
  refine r_if_ne (tgt := 11) C (dk oX10_worth 2 rfl) (by decide) (fun hb4 => ?_) (fun hb4 => ?_)
  · rw [b32_n, decide_eq_true_eq] at hb4
    obtain ⟨s_, h_s_, hx_s_⟩ := vd_of (by decide) hb4
    subst hx_s_
    refine r_aload_n C 0 (dk oX10_worth 5 rfl) rfl ?_
    refine r_iconst C (dk oX10_worth 6 rfl) (v := -1) (by decide) ?_
    refine r_ivv C Z (dk oX10_worth 7 rfl) cl_X10_247 ci_X10_hearAll rfl (km hn rfl) (c_X10_hear1 hn I J τ hMM) rfl rfl (Nat.le_of_ble_eq_true rfl) ⟨Nat.le_of_ble_eq_true rfl, Nat.le_of_ble_eq_true rfl⟩ ⟨Nat.zero_le _, Nat.zero_le _⟩ (fun I13 J13 h13 => ?_)
    obtain ⟨hM13, hSil13, hO13, e2_⟩ := h13
    have e2_ := e2_.symm
    subst e2_
    have hR13 := hO13.r
    have hF13 : ∀ k, k < 117 → I13 k = I k := fun k hk => hO13 k (by omega)
    refine r_aload_n C 0 (dk oX10_worth 8 rfl) rfl ?_
    refine r_iload_n C 1 (dk oX10_worth 9 rfl) rfl ?_
    refine r_iconst C (dk oX10_worth 10 rfl) (v := nI 0) (by decide) ?_
    refine r_ivi C Z (dk oX10_worth 11 rfl) cl_X10_327 ci_X10_worthTo rfl (km hn rfl) (c_X10_worthTo hn I13 J (sPhi τ) hM13 hok (sPk τ) (hK0.of (fun c a b => hO13 c (by omega))) (sCl τ) (hC0.of (fun c a b => hO13 c (by omega))) s_ 0 h_s_ (by decide)) rfl rfl (Nat.le_of_ble_eq_true rfl) ⟨Nat.le_of_ble_eq_true rfl, Nat.le_of_ble_eq_true rfl⟩ ⟨Nat.zero_le _, Nat.zero_le _⟩ (fun r19 I19 J19 h19 => ?_)
    obtain ⟨e1_, hq0, hq1, e2_⟩ := h19
    have e2_ := e2_.symm
    subst e2_
    refine hret (dk oX10_worth 12 rfl) rfl ?_
    refine ⟨?_, hMM.r (hR13.tr (wo_r hq0 hq1)), fun k hk => by rw [hq0 k (by omega) (by omega) (by omega)]; exact hF13 k hk, rfl⟩
    rw [e1_]
    unfold q_worth
    rw [if_pos (vd_n h_s_ (by omega)), cN_n (by omega)]
    unfold gnF
    have hcs : csN (sPk τ).2.2.2.2.1 0 (sPk τ).1 = 0 := by
      have : ∀ k, csN (sPk τ).2.2.2.2.1 0 k = 0 := fun k => by
        induction k with
        | zero => rfl
        | succ k ih =>
          show (if (0 : Nat).testBit k = true then _ else _) = 0
          rw [Nat.zero_testBit, if_neg (by decide)]
          exact ih
      exact this _
    rw [hcs, Nat.or_zero, Nat.or_zero, show nI 1000 * nI 0 = (0 : Int32) from by decide, Int32.sub_zero]
  · rw [b32_0, decide_eq_false_iff_not] at hb4
    refine r_ldcw C (dk oX10_worth 3 rfl) kn_X10_264 ?_
    refine hret (dk oX10_worth 4 rfl) rfl ?_
    refine ⟨?_, hMM, fun _ _ => rfl, rfl⟩
    exact (if_neg hb4).symm

set_option maxHeartbeats 1000000 in
set_option maxRecDepth 100000 in
theorem c_X10_without (hn : 148 ≤ n) (I : MI) (J : MJ) (τ : St) (hMM : MM I τ) (x : Int32) : Ci l n ad cA D z 7 yX10_without cX10_without 2 .int I J [.ref (ad 117), .int x] (fun r I' J' => r = q_without τ x ∧ MM I' τ ∧ (∀ k, k < 117 → I' k = I k) ∧ J' = J) := by
  refine Ci.of (by decide) (Nat.le_of_ble_eq_true rfl) ?_
  intro p e s m args below meth c A C hin Z Q hret
  have hC0 := hMM.c0
  have hK0 := hMM.k0
  have hP0 := hMM.pap.zz
  have hok := hMM.ok
  have hnc : (sCl τ).1 ≤ 6 := hC0.1
  have hnp : (sPp τ).1 ≤ 10 := hP0.1
  have hnk : (sPk τ).1 ≤ 16 := hK0.1
  have hMT := hMM.2.2.2.1
  have hL := hMT.1
  have hop := @opN_lt (sPhi τ)
  have hB : brQ (sPk τ) < 65536 := brN_16 hnk
  refine r_iload_n C 1 (dk oX10_without 0 rfl) rfl ?_
  refine r_i2l C (dk oX10_without 1 rfl) ?_
  refine r_lconst C (dk oX10_without 2 rfl) (v := 0) (by decide) ?_
  refine r_aload_n C 0 (dk oX10_without 3 rfl) rfl ?_
  refine r_getR C (dk oX10_without 4 rfl) fl_X10_22 rfl (km hn rfl) ?_
  refine r_iconst C (dk oX10_without 5 rfl) (v := nI 0) (by decide) ?_
  refine r_iald C 0 (dk oX10_without 6 rfl) rfl (km hn rfl) rfl (by decide) (by decide) ?_
  rw [hP0.2.1]
  refine r_iconst C (dk oX10_without 7 rfl) (v := nI 1) (by decide) ?_
  refine r_isub C (dk oX10_without 8 rfl) ?_
  refine r_i2l C (dk oX10_without 9 rfl) ?_
  refine r_isi C Z (dk oX10_without 10 rfl) cl_X10_131 st_X10_in (c_X10_in I J (x.toInt64) (0) ((nI (sPp τ).1 - nI 1).toInt64)) rfl rfl (Nat.le_of_ble_eq_true rfl) ⟨Nat.le_of_ble_eq_true rfl, Nat.le_of_ble_eq_true rfl⟩ ⟨Nat.zero_le _, Nat.zero_le _⟩ (fun r12 I12 J12 h12 => ?_)
  obtain ⟨h12, e1_, e2_⟩ := h12
  have e1_ := e1_.symm
  have e2_ := e2_.symm
  subst e1_
  subst e2_
  subst h12
  rw [show decide ((0 : Int64) ≤ x.toInt64 ∧ x.toInt64 ≤ (nI (sPp τ).1 - nI 1).toInt64) = decide (vdN x (sPp τ).1) from decide_eq_decide.mpr (in_vdm (by omega) rfl)]
  refine r_if_ne (tgt := 22) C (dk oX10_without 11 rfl) (by decide) (fun hb15 => ?_) (fun hb15 => ?_)
  · rw [b32_n, decide_eq_true_eq] at hb15
    refine r_aload_n C 0 (dk oX10_without 14 rfl) rfl ?_
    refine r_iload_n C 1 (dk oX10_without 15 rfl) rfl ?_
    refine r_ivv C Z (dk oX10_without 16 rfl) cl_X10_247 ci_X10_hearAll rfl (km hn rfl) (c_X10_hearAll hn I J (sPp τ).1 (sPp τ).2.1 (sPp τ).2.2.1 (sPp τ).2.2.2 hMM.pap x) rfl rfl (Nat.le_of_ble_eq_true rfl) ⟨Nat.le_of_ble_eq_true rfl, Nat.le_of_ble_eq_true rfl⟩ ⟨Nat.zero_le _, Nat.zero_le _⟩ (fun I24 J24 h24 => ?_)
    obtain ⟨hM24, _, hO24, e2_⟩ := h24
    have e2_ := e2_.symm
    subst e2_
    refine r_aload_n C 0 (dk oX10_without 17 rfl) rfl ?_
    refine r_iconst C (dk oX10_without 18 rfl) (v := nI 0) (by decide) ?_
    refine r_iconst C (dk oX10_without 19 rfl) (v := nI 0) (by decide) ?_
    refine r_ivi C Z (dk oX10_without 20 rfl) cl_X10_327 ci_X10_worthTo rfl (km hn rfl) (c_X10_worthTo hn I24 J (fun f => stF (sPp τ).2.2.2 (ltX (sPp τ).2.2.1 x) f (sPp τ).1) hM24 (fun f hf => fsOK_st2 _ (fun j hj => ((hP0.2.2 j hj).2.2.2 f hf).2)) (sPk τ) (hK0.of (fun c a b => hO24 c (by omega))) (sCl τ) (hC0.of (fun c a b => hO24 c (by omega))) 0 0 (by decide) (by decide)) rfl rfl (Nat.le_of_ble_eq_true rfl) ⟨Nat.le_of_ble_eq_true rfl, Nat.le_of_ble_eq_true rfl⟩ ⟨Nat.zero_le _, Nat.zero_le _⟩ (fun r30 I30 J30 h30 => ?_)
    obtain ⟨e1_, hq0, hq1, e2_⟩ := h30
    have e2_ := e2_.symm
    subst e2_
    refine hret (dk oX10_without 21 rfl) rfl ?_
    refine ⟨?_, hMM.r (hO24.r.tr (wo_r hq0 hq1)), fun k hk => by rw [hq0 k (by omega) (by omega) (by omega)]; exact hO24 k (by omega), rfl⟩
    rw [e1_, if_pos rfl, Nat.or_zero]
    exact (if_pos hb15).symm
  · rw [b32_0, decide_eq_false_iff_not] at hb15
    refine r_ldcw C (dk oX10_without 12 rfl) kn_X10_264 ?_
    refine hret (dk oX10_without 13 rfl) rfl ?_
    refine ⟨?_, hMM, fun _ _ => rfl, rfl⟩
    exact (if_neg hb15).symm

end MOD13
