section LAW2
variable {p : Program} {l : Launch} {e : Env} {s : State} {m : MethodId} {args : Array Value} {below : List Frame} {meth : Method} {c : Code} {Q : State → Prop} {D : va_G} {A : Nat → Prop} {ret : Option FieldType} {cA : Nat → ClassId} {cells slots : Nat} {ad : Nat → Nat} {z : Zw} {b L i : Nat} {xs : Nat → Int32}
set_option maxHeartbeats 1000000 in
set_option maxRecDepth 100000 in
theorem lw_c0 (C : fC p s m args meth c cL_law 4 RL ret D cA A) (Z : Str z A s s.heap) (hX : va_X b L xs s s.heap) (hbl : b < s.heap.size) (hbA : ¬ A b) (hL : L ≤ 2560) (hcs : cells ≤ room_1.cells ∧ slots ≤ room_1.slots) (hi : i + 5 ≤ L) (I : MI) (J : MJ) (τ : St) (hCS : CS I J τ) (hMM : MM I τ) (kk : ∀ (I' : MI) (J' : MJ) (τ' : St), CS I' J' τ' → MM I' τ' → V p l e room_1 s m args below meth c Q D A 4 cells slots 148 ad (mE cA ad I' J') 940 (lwL b ad i) []) : V p l e room_1 s m args below meth c Q D A 4 cells slots 148 ad (mE cA ad I J) 160 (lwL b ad i) [] := by
  refine r_aload_n C 2 (dk oL_law_0 22 rfl) rfl ?_
  refine r_arg C hX hbl hbA 1 (by omega) (by omega) (by decide) (dk oL_law_0 23 rfl) (dk oL_law_0 24 rfl) (dk oL_law_0 25 rfl) (dk oL_law_0 26 rfl) (dk oL_law_0 27 rfl) ?_
  refine r_arg C hX hbl hbA 2 (by omega) (by omega) (by decide) (dk oL_law_0 28 rfl) (dk oL_law_0 29 rfl) (dk oL_law_0 30 rfl) (dk oL_law_0 31 rfl) (dk oL_law_0 32 rfl) ?_
  refine r_i2l C (dk oL_law_0 33 rfl) ?_
  refine r_bipush C (dk oL_law_0 34 rfl) (v := nI 32) (by decide) ?_
  refine r_lshl C (dk oL_law_0 35 rfl) ?_
  refine r_arg C hX hbl hbA 3 (by omega) (by omega) (by decide) (dk oL_law_0 36 rfl) (dk oL_law_0 37 rfl) (dk oL_law_0 38 rfl) (dk oL_law_0 39 rfl) (dk oL_law_0 40 rfl) ?_
  refine r_i2l C (dk oL_law_0 41 rfl) ?_
  refine r_ldc2 C (dk oL_law_0 42 rfl) kn_L_13 ?_
  refine r_land C (dk oL_law_0 43 rfl) ?_
  refine r_lor C (dk oL_law_0 44 rfl) ?_
  refine r_ivi C Z (dk oL_law_0 45 rfl) cl_L_15 ci_X9_feed rfl (by decide) (c_X9_feed (by decide) I J τ hCS _ _) rfl rfl (Nat.le_of_ble_eq_true rfl) ⟨Nat.le_of_ble_eq_true rfl, Nat.le_of_ble_eq_true rfl⟩ hcs (fun r1 I1 J1 h1 => ?_)
  obtain ⟨e1, hC1, hF1⟩ := h1
  have hM1 := hMM.hi hF1.1
  refine r_aload_n C 1 (dk oL_law_0 46 rfl) rfl ?_
  refine r_arg C hX hbl hbA 1 (by omega) (by omega) (by decide) (dk oL_law_0 47 rfl) (dk oL_law_0 48 rfl) (dk oL_law_0 49 rfl) (dk oL_law_0 50 rfl) (dk oL_law_0 51 rfl) ?_
  refine r_arg C hX hbl hbA 2 (by omega) (by omega) (by decide) (dk oL_law_0 52 rfl) (dk oL_law_0 53 rfl) (dk oL_law_0 54 rfl) (dk oL_law_0 55 rfl) (dk oL_law_0 56 rfl) ?_
  refine r_i2l C (dk oL_law_0 57 rfl) ?_
  refine r_bipush C (dk oL_law_0 58 rfl) (v := nI 32) (by decide) ?_
  refine r_lshl C (dk oL_law_0 59 rfl) ?_
  refine r_arg C hX hbl hbA 3 (by omega) (by omega) (by decide) (dk oL_law_1 0 rfl) (dk oL_law_1 1 rfl) (dk oL_law_1 2 rfl) (dk oL_law_1 3 rfl) (dk oL_law_1 4 rfl) ?_
  refine r_i2l C (dk oL_law_1 5 rfl) ?_
  refine r_ldc2 C (dk oL_law_1 6 rfl) kn_L_13 ?_
  refine r_land C (dk oL_law_1 7 rfl) ?_
  refine r_lor C (dk oL_law_1 8 rfl) ?_
  refine r_ivi C Z (dk oL_law_1 9 rfl) cl_L_19 ci_X10_feed rfl (by decide) (c_X10_feed (by decide) I1 J1 τ hM1 _ _) rfl rfl (Nat.le_of_ble_eq_true rfl) ⟨Nat.le_of_ble_eq_true rfl, Nat.le_of_ble_eq_true rfl⟩ hcs (fun r2 I2 J2 h2 => ?_)
  obtain ⟨e2, hM2, hF2, e3⟩ := h2
  subst e3
  refine r_icmp_eq (tgt := 940) C (dk oL_law_1 10 rfl) (by decide) (fun _ => ?_) (fun h => absurd (e1.trans e2.symm) h)
  exact kk I2 _ _ (hC1.lo hF2) hM2
set_option maxHeartbeats 1000000 in
set_option maxRecDepth 100000 in
theorem lw_c1 (C : fC p s m args meth c cL_law 4 RL ret D cA A) (Z : Str z A s s.heap) (hX : va_X b L xs s s.heap) (hbl : b < s.heap.size) (hbA : ¬ A b) (hL : L ≤ 2560) (hcs : cells ≤ room_1.cells ∧ slots ≤ room_1.slots) (hi : i + 5 ≤ L) (I : MI) (J : MJ) (τ : St) (hCS : CS I J τ) (hMM : MM I τ) (kk : ∀ (I' : MI) (J' : MJ) (τ' : St), CS I' J' τ' → MM I' τ' → V p l e room_1 s m args below meth c Q D A 4 cells slots 148 ad (mE cA ad I' J') 940 (lwL b ad i) []) : V p l e room_1 s m args below meth c Q D A 4 cells slots 148 ad (mE cA ad I J) 223 (lwL b ad i) [] := by
  refine r_aload_n C 2 (dk oL_law_1 13 rfl) rfl ?_
  refine r_ivi C Z (dk oL_law_1 14 rfl) cl_L_20 ci_X9_claim rfl (by decide) (c_X9_claim (by decide) I J τ hCS ) rfl rfl (Nat.le_of_ble_eq_true rfl) ⟨Nat.le_of_ble_eq_true rfl, Nat.le_of_ble_eq_true rfl⟩ hcs (fun r1 I1 J1 h1 => ?_)
  obtain ⟨τ1, e1, hC1, hF1⟩ := h1
  have hM1 := hMM.hi hF1.1
  refine r_aload_n C 1 (dk oL_law_1 15 rfl) rfl ?_
  refine r_ivi C Z (dk oL_law_1 16 rfl) cl_L_24 ci_X10_claim rfl (by decide) (c_X10_claim (by decide) I1 J1 τ hM1 ) rfl rfl (Nat.le_of_ble_eq_true rfl) ⟨Nat.le_of_ble_eq_true rfl, Nat.le_of_ble_eq_true rfl⟩ hcs (fun r2 I2 J2 h2 => ?_)
  obtain ⟨τ2, e2, hM2, hF2, e3⟩ := h2
  subst e3
  obtain ⟨e4, e5⟩ := q_claim_u e1 e2
  subst e5
  refine r_icmp_eq (tgt := 940) C (dk oL_law_1 17 rfl) (by decide) (fun _ => ?_) (fun h => absurd e4 h)
  exact kk I2 _ _ (hC1.lo hF2) hM2
set_option maxHeartbeats 1000000 in
set_option maxRecDepth 100000 in
theorem lw_c2 (C : fC p s m args meth c cL_law 4 RL ret D cA A) (Z : Str z A s s.heap) (hX : va_X b L xs s s.heap) (hbl : b < s.heap.size) (hbA : ¬ A b) (hL : L ≤ 2560) (hcs : cells ≤ room_1.cells ∧ slots ≤ room_1.slots) (hi : i + 5 ≤ L) (I : MI) (J : MJ) (τ : St) (hCS : CS I J τ) (hMM : MM I τ) (kk : ∀ (I' : MI) (J' : MJ) (τ' : St), CS I' J' τ' → MM I' τ' → V p l e room_1 s m args below meth c Q D A 4 cells slots 148 ad (mE cA ad I' J') 940 (lwL b ad i) []) : V p l e room_1 s m args below meth c Q D A 4 cells slots 148 ad (mE cA ad I J) 236 (lwL b ad i) [] := by
  refine r_aload_n C 2 (dk oL_law_1 20 rfl) rfl ?_
  refine r_arg C hX hbl hbA 1 (by omega) (by omega) (by decide) (dk oL_law_1 21 rfl) (dk oL_law_1 22 rfl) (dk oL_law_1 23 rfl) (dk oL_law_1 24 rfl) (dk oL_law_1 25 rfl) ?_
  refine r_ivi C Z (dk oL_law_1 26 rfl) cl_L_25 ci_X9_paper rfl (by decide) (c_X9_paper (by decide) I J τ hCS _) rfl rfl (Nat.le_of_ble_eq_true rfl) ⟨Nat.le_of_ble_eq_true rfl, Nat.le_of_ble_eq_true rfl⟩ hcs (fun r1 I1 J1 h1 => ?_)
  obtain ⟨τ1, e1, hC1, hF1⟩ := h1
  have hM1 := hMM.hi hF1.1
  refine r_aload_n C 1 (dk oL_law_1 27 rfl) rfl ?_
  refine r_arg C hX hbl hbA 1 (by omega) (by omega) (by decide) (dk oL_law_1 28 rfl) (dk oL_law_1 29 rfl) (dk oL_law_1 30 rfl) (dk oL_law_1 31 rfl) (dk oL_law_1 32 rfl) ?_
  refine r_ivi C Z (dk oL_law_1 33 rfl) cl_L_29 ci_X10_paper rfl (by decide) (c_X10_paper (by decide) I1 J1 τ hM1 _) rfl rfl (Nat.le_of_ble_eq_true rfl) ⟨Nat.le_of_ble_eq_true rfl, Nat.le_of_ble_eq_true rfl⟩ hcs (fun r2 I2 J2 h2 => ?_)
  obtain ⟨τ2, e2, hM2, hF2, e3⟩ := h2
  subst e3
  obtain ⟨e4, e5⟩ := q_paper_u e1 e2
  subst e5
  refine r_icmp_eq (tgt := 940) C (dk oL_law_1 34 rfl) (by decide) (fun _ => ?_) (fun h => absurd e4 h)
  exact kk I2 _ _ (hC1.lo hF2) hM2
set_option maxHeartbeats 1000000 in
set_option maxRecDepth 100000 in
theorem lw_c3 (C : fC p s m args meth c cL_law 4 RL ret D cA A) (Z : Str z A s s.heap) (hX : va_X b L xs s s.heap) (hbl : b < s.heap.size) (hbA : ¬ A b) (hL : L ≤ 2560) (hcs : cells ≤ room_1.cells ∧ slots ≤ room_1.slots) (hi : i + 5 ≤ L) (I : MI) (J : MJ) (τ : St) (hCS : CS I J τ) (hMM : MM I τ) (kk : ∀ (I' : MI) (J' : MJ) (τ' : St), CS I' J' τ' → MM I' τ' → V p l e room_1 s m args below meth c Q D A 4 cells slots 148 ad (mE cA ad I' J') 940 (lwL b ad i) []) : V p l e room_1 s m args below meth c Q D A 4 cells slots 148 ad (mE cA ad I J) 259 (lwL b ad i) [] := by
  refine r_aload_n C 2 (dk oL_law_1 37 rfl) rfl ?_
  refine r_ivi C Z (dk oL_law_1 38 rfl) cl_L_30 ci_X9_fault rfl (by decide) (c_X9_fault (by decide) I J τ hCS ) rfl rfl (Nat.le_of_ble_eq_true rfl) ⟨Nat.le_of_ble_eq_true rfl, Nat.le_of_ble_eq_true rfl⟩ hcs (fun r1 I1 J1 h1 => ?_)
  obtain ⟨e1, hC1, hF1⟩ := h1
  have hM1 := hMM.hi hF1.1
  refine r_aload_n C 1 (dk oL_law_1 39 rfl) rfl ?_
  refine r_ivi C Z (dk oL_law_1 40 rfl) cl_L_33 ci_X10_fault rfl (by decide) (c_X10_fault (by decide) I1 J1 τ hM1 ) rfl rfl (Nat.le_of_ble_eq_true rfl) ⟨Nat.le_of_ble_eq_true rfl, Nat.le_of_ble_eq_true rfl⟩ hcs (fun r2 I2 J2 h2 => ?_)
  obtain ⟨e2, hM2, hF2, e3⟩ := h2
  subst e3
  refine r_icmp_eq (tgt := 940) C (dk oL_law_1 41 rfl) (by decide) (fun _ => ?_) (fun h => absurd (e1.trans e2.symm) h)
  exact kk I2 _ _ (hC1.lo hF2) hM2
set_option maxHeartbeats 1000000 in
set_option maxRecDepth 100000 in
theorem lw_c4 (C : fC p s m args meth c cL_law 4 RL ret D cA A) (Z : Str z A s s.heap) (hX : va_X b L xs s s.heap) (hbl : b < s.heap.size) (hbA : ¬ A b) (hL : L ≤ 2560) (hcs : cells ≤ room_1.cells ∧ slots ≤ room_1.slots) (hi : i + 5 ≤ L) (I : MI) (J : MJ) (τ : St) (hCS : CS I J τ) (hMM : MM I τ) (kk : ∀ (I' : MI) (J' : MJ) (τ' : St), CS I' J' τ' → MM I' τ' → V p l e room_1 s m args below meth c Q D A 4 cells slots 148 ad (mE cA ad I' J') 940 (lwL b ad i) []) : V p l e room_1 s m args below meth c Q D A 4 cells slots 148 ad (mE cA ad I J) 272 (lwL b ad i) [] := by
  refine r_aload_n C 2 (dk oL_law_1 44 rfl) rfl ?_
  refine r_arg C hX hbl hbA 1 (by omega) (by omega) (by decide) (dk oL_law_1 45 rfl) (dk oL_law_1 46 rfl) (dk oL_law_1 47 rfl) (dk oL_law_1 48 rfl) (dk oL_law_1 49 rfl) ?_
  refine r_ivi C Z (dk oL_law_1 50 rfl) cl_L_34 ci_X9_due rfl (by decide) (c_X9_due (by decide) I J τ hCS _) rfl rfl (Nat.le_of_ble_eq_true rfl) ⟨Nat.le_of_ble_eq_true rfl, Nat.le_of_ble_eq_true rfl⟩ hcs (fun r1 I1 J1 h1 => ?_)
  obtain ⟨e1, hC1, hF1⟩ := h1
  have hM1 := hMM.hi hF1.1
  refine r_aload_n C 1 (dk oL_law_1 51 rfl) rfl ?_
  refine r_arg C hX hbl hbA 1 (by omega) (by omega) (by decide) (dk oL_law_1 52 rfl) (dk oL_law_1 53 rfl) (dk oL_law_1 54 rfl) (dk oL_law_1 55 rfl) (dk oL_law_1 56 rfl) ?_
  refine r_ivi C Z (dk oL_law_1 57 rfl) cl_L_37 ci_X10_due rfl (by decide) (c_X10_due (by decide) I1 J1 τ hM1 _) rfl rfl (Nat.le_of_ble_eq_true rfl) ⟨Nat.le_of_ble_eq_true rfl, Nat.le_of_ble_eq_true rfl⟩ hcs (fun r2 I2 J2 h2 => ?_)
  obtain ⟨e2, hM2, hF2, e3⟩ := h2
  subst e3
  refine r_icmp_eq (tgt := 940) C (dk oL_law_1 58 rfl) (by decide) (fun _ => ?_) (fun h => absurd (e1.trans e2.symm) h)
  exact kk I2 _ _ (hC1.lo hF2) hM2
set_option maxHeartbeats 1000000 in
set_option maxRecDepth 100000 in
theorem lw_c5 (C : fC p s m args meth c cL_law 4 RL ret D cA A) (Z : Str z A s s.heap) (hX : va_X b L xs s s.heap) (hbl : b < s.heap.size) (hbA : ¬ A b) (hL : L ≤ 2560) (hcs : cells ≤ room_1.cells ∧ slots ≤ room_1.slots) (hi : i + 5 ≤ L) (I : MI) (J : MJ) (τ : St) (hCS : CS I J τ) (hMM : MM I τ) (kk : ∀ (I' : MI) (J' : MJ) (τ' : St), CS I' J' τ' → MM I' τ' → V p l e room_1 s m args below meth c Q D A 4 cells slots 148 ad (mE cA ad I' J') 940 (lwL b ad i) []) : V p l e room_1 s m args below meth c Q D A 4 cells slots 148 ad (mE cA ad I J) 295 (lwL b ad i) [] := by
  refine r_aload_n C 2 (dk oL_law_2 1 rfl) rfl ?_
  refine r_arg C hX hbl hbA 1 (by omega) (by omega) (by decide) (dk oL_law_2 2 rfl) (dk oL_law_2 3 rfl) (dk oL_law_2 4 rfl) (dk oL_law_2 5 rfl) (dk oL_law_2 6 rfl) ?_
  refine r_ivi C Z (dk oL_law_2 7 rfl) cl_L_38 ci_X9_count rfl (by decide) (c_X9_count (by decide) I J τ hCS _) rfl rfl (Nat.le_of_ble_eq_true rfl) ⟨Nat.le_of_ble_eq_true rfl, Nat.le_of_ble_eq_true rfl⟩ hcs (fun r1 I1 J1 h1 => ?_)
  obtain ⟨e1, hC1, hF1⟩ := h1
  have hM1 := hMM.hi hF1.1
  refine r_aload_n C 1 (dk oL_law_2 8 rfl) rfl ?_
  refine r_arg C hX hbl hbA 1 (by omega) (by omega) (by decide) (dk oL_law_2 9 rfl) (dk oL_law_2 10 rfl) (dk oL_law_2 11 rfl) (dk oL_law_2 12 rfl) (dk oL_law_2 13 rfl) ?_
  refine r_ivi C Z (dk oL_law_2 14 rfl) cl_L_41 ci_X10_count rfl (by decide) (c_X10_count (by decide) I1 J1 τ hM1 _) rfl rfl (Nat.le_of_ble_eq_true rfl) ⟨Nat.le_of_ble_eq_true rfl, Nat.le_of_ble_eq_true rfl⟩ hcs (fun r2 I2 J2 h2 => ?_)
  obtain ⟨e2, hM2, hF2, e3⟩ := h2
  subst e3
  refine r_icmp_eq (tgt := 940) C (dk oL_law_2 15 rfl) (by decide) (fun _ => ?_) (fun h => absurd (e1.trans e2.symm) h)
  exact kk I2 _ _ (hC1.lo hF2) hM2
set_option maxHeartbeats 1000000 in
set_option maxRecDepth 100000 in
theorem lw_c6 (C : fC p s m args meth c cL_law 4 RL ret D cA A) (Z : Str z A s s.heap) (hX : va_X b L xs s s.heap) (hbl : b < s.heap.size) (hbA : ¬ A b) (hL : L ≤ 2560) (hcs : cells ≤ room_1.cells ∧ slots ≤ room_1.slots) (hi : i + 5 ≤ L) (I : MI) (J : MJ) (τ : St) (hCS : CS I J τ) (hMM : MM I τ) (kk : ∀ (I' : MI) (J' : MJ) (τ' : St), CS I' J' τ' → MM I' τ' → V p l e room_1 s m args below meth c Q D A 4 cells slots 148 ad (mE cA ad I' J') 940 (lwL b ad i) []) : V p l e room_1 s m args below meth c Q D A 4 cells slots 148 ad (mE cA ad I J) 318 (lwL b ad i) [] := by
  refine r_aload_n C 2 (dk oL_law_2 18 rfl) rfl ?_
  refine r_arg C hX hbl hbA 1 (by omega) (by omega) (by decide) (dk oL_law_2 19 rfl) (dk oL_law_2 20 rfl) (dk oL_law_2 21 rfl) (dk oL_law_2 22 rfl) (dk oL_law_2 23 rfl) ?_
  refine r_arg C hX hbl hbA 2 (by omega) (by omega) (by decide) (dk oL_law_2 24 rfl) (dk oL_law_2 25 rfl) (dk oL_law_2 26 rfl) (dk oL_law_2 27 rfl) (dk oL_law_2 28 rfl) ?_
  refine r_ivi C Z (dk oL_law_2 29 rfl) cl_L_42 ci_X9_fact rfl (by decide) (c_X9_fact (by decide) I J τ hCS _ _) rfl rfl (Nat.le_of_ble_eq_true rfl) ⟨Nat.le_of_ble_eq_true rfl, Nat.le_of_ble_eq_true rfl⟩ hcs (fun r1 I1 J1 h1 => ?_)
  obtain ⟨e1, hC1, hF1⟩ := h1
  have hM1 := hMM.hi hF1.1
  refine r_aload_n C 1 (dk oL_law_2 30 rfl) rfl ?_
  refine r_arg C hX hbl hbA 1 (by omega) (by omega) (by decide) (dk oL_law_2 31 rfl) (dk oL_law_2 32 rfl) (dk oL_law_2 33 rfl) (dk oL_law_2 34 rfl) (dk oL_law_2 35 rfl) ?_
  refine r_arg C hX hbl hbA 2 (by omega) (by omega) (by decide) (dk oL_law_2 36 rfl) (dk oL_law_2 37 rfl) (dk oL_law_2 38 rfl) (dk oL_law_2 39 rfl) (dk oL_law_2 40 rfl) ?_
  refine r_ivi C Z (dk oL_law_2 41 rfl) cl_L_46 ci_X10_fact rfl (by decide) (c_X10_fact (by decide) I1 J1 τ hM1 _ _) rfl rfl (Nat.le_of_ble_eq_true rfl) ⟨Nat.le_of_ble_eq_true rfl, Nat.le_of_ble_eq_true rfl⟩ hcs (fun r2 I2 J2 h2 => ?_)
  obtain ⟨e2, hM2, hF2, e3⟩ := h2
  subst e3
  refine r_icmp_eq (tgt := 940) C (dk oL_law_2 42 rfl) (by decide) (fun _ => ?_) (fun h => absurd (e1.trans e2.symm) h)
  exact kk I2 _ _ (hC1.lo hF2) hM2
set_option maxHeartbeats 1000000 in
set_option maxRecDepth 100000 in
theorem lw_c7 (C : fC p s m args meth c cL_law 4 RL ret D cA A) (Z : Str z A s s.heap) (hX : va_X b L xs s s.heap) (hbl : b < s.heap.size) (hbA : ¬ A b) (hL : L ≤ 2560) (hcs : cells ≤ room_1.cells ∧ slots ≤ room_1.slots) (hi : i + 5 ≤ L) (I : MI) (J : MJ) (τ : St) (hCS : CS I J τ) (hMM : MM I τ) (kk : ∀ (I' : MI) (J' : MJ) (τ' : St), CS I' J' τ' → MM I' τ' → V p l e room_1 s m args below meth c Q D A 4 cells slots 148 ad (mE cA ad I' J') 940 (lwL b ad i) []) : V p l e room_1 s m args below meth c Q D A 4 cells slots 148 ad (mE cA ad I J) 351 (lwL b ad i) [] := by
  refine r_aload_n C 2 (dk oL_law_2 45 rfl) rfl ?_
  refine r_arg C hX hbl hbA 1 (by omega) (by omega) (by decide) (dk oL_law_2 46 rfl) (dk oL_law_2 47 rfl) (dk oL_law_2 48 rfl) (dk oL_law_2 49 rfl) (dk oL_law_2 50 rfl) ?_
  refine r_arg C hX hbl hbA 2 (by omega) (by omega) (by decide) (dk oL_law_2 51 rfl) (dk oL_law_2 52 rfl) (dk oL_law_2 53 rfl) (dk oL_law_2 54 rfl) (dk oL_law_2 55 rfl) ?_
  refine r_ivi C Z (dk oL_law_2 56 rfl) cl_L_47 ci_X9_told rfl (by decide) (c_X9_told (by decide) I J τ hCS _ _) rfl rfl (Nat.le_of_ble_eq_true rfl) ⟨Nat.le_of_ble_eq_true rfl, Nat.le_of_ble_eq_true rfl⟩ hcs (fun r1 I1 J1 h1 => ?_)
  obtain ⟨e1, hC1, hF1⟩ := h1
  have hM1 := hMM.hi hF1.1
  refine r_aload_n C 1 (dk oL_law_2 57 rfl) rfl ?_
  refine r_arg C hX hbl hbA 1 (by omega) (by omega) (by decide) (dk oL_law_2 58 rfl) (dk oL_law_2 59 rfl) (dk oL_law_3 0 rfl) (dk oL_law_3 1 rfl) (dk oL_law_3 2 rfl) ?_
  refine r_arg C hX hbl hbA 2 (by omega) (by omega) (by decide) (dk oL_law_3 3 rfl) (dk oL_law_3 4 rfl) (dk oL_law_3 5 rfl) (dk oL_law_3 6 rfl) (dk oL_law_3 7 rfl) ?_
  refine r_ivi C Z (dk oL_law_3 8 rfl) cl_L_50 ci_X10_told rfl (by decide) (c_X10_told (by decide) I1 J1 τ hM1 _ _) rfl rfl (Nat.le_of_ble_eq_true rfl) ⟨Nat.le_of_ble_eq_true rfl, Nat.le_of_ble_eq_true rfl⟩ hcs (fun r2 I2 J2 h2 => ?_)
  obtain ⟨e2, hM2, hF2, e3⟩ := h2
  subst e3
  refine r_icmp_eq (tgt := 940) C (dk oL_law_3 9 rfl) (by decide) (fun _ => ?_) (fun h => absurd (e1.trans e2.symm) h)
  exact kk I2 _ _ (hC1.lo hF2) hM2
set_option maxHeartbeats 1000000 in
set_option maxRecDepth 100000 in
theorem lw_c8 (C : fC p s m args meth c cL_law 4 RL ret D cA A) (Z : Str z A s s.heap) (hX : va_X b L xs s s.heap) (hbl : b < s.heap.size) (hbA : ¬ A b) (hL : L ≤ 2560) (hcs : cells ≤ room_1.cells ∧ slots ≤ room_1.slots) (hi : i + 5 ≤ L) (I : MI) (J : MJ) (τ : St) (hCS : CS I J τ) (hMM : MM I τ) (kk : ∀ (I' : MI) (J' : MJ) (τ' : St), CS I' J' τ' → MM I' τ' → V p l e room_1 s m args below meth c Q D A 4 cells slots 148 ad (mE cA ad I' J') 940 (lwL b ad i) []) : V p l e room_1 s m args below meth c Q D A 4 cells slots 148 ad (mE cA ad I J) 384 (lwL b ad i) [] := by
  refine r_aload_n C 2 (dk oL_law_3 12 rfl) rfl ?_
  refine r_arg C hX hbl hbA 1 (by omega) (by omega) (by decide) (dk oL_law_3 13 rfl) (dk oL_law_3 14 rfl) (dk oL_law_3 15 rfl) (dk oL_law_3 16 rfl) (dk oL_law_3 17 rfl) ?_
  refine r_arg C hX hbl hbA 2 (by omega) (by omega) (by decide) (dk oL_law_3 18 rfl) (dk oL_law_3 19 rfl) (dk oL_law_3 20 rfl) (dk oL_law_3 21 rfl) (dk oL_law_3 22 rfl) ?_
  refine r_ivi C Z (dk oL_law_3 23 rfl) cl_L_51 ci_X9_heard rfl (by decide) (c_X9_heard (by decide) I J τ hCS _ _) rfl rfl (Nat.le_of_ble_eq_true rfl) ⟨Nat.le_of_ble_eq_true rfl, Nat.le_of_ble_eq_true rfl⟩ hcs (fun r1 I1 J1 h1 => ?_)
  obtain ⟨e1, hC1, hF1⟩ := h1
  have hM1 := hMM.hi hF1.1
  refine r_aload_n C 1 (dk oL_law_3 24 rfl) rfl ?_
  refine r_arg C hX hbl hbA 1 (by omega) (by omega) (by decide) (dk oL_law_3 25 rfl) (dk oL_law_3 26 rfl) (dk oL_law_3 27 rfl) (dk oL_law_3 28 rfl) (dk oL_law_3 29 rfl) ?_
  refine r_arg C hX hbl hbA 2 (by omega) (by omega) (by decide) (dk oL_law_3 30 rfl) (dk oL_law_3 31 rfl) (dk oL_law_3 32 rfl) (dk oL_law_3 33 rfl) (dk oL_law_3 34 rfl) ?_
  refine r_ivi C Z (dk oL_law_3 35 rfl) cl_L_54 ci_X10_heard rfl (by decide) (c_X10_heard (by decide) I1 J1 τ hM1 _ _) rfl rfl (Nat.le_of_ble_eq_true rfl) ⟨Nat.le_of_ble_eq_true rfl, Nat.le_of_ble_eq_true rfl⟩ hcs (fun r2 I2 J2 h2 => ?_)
  obtain ⟨e2, hM2, hF2, e3⟩ := h2
  subst e3
  refine r_icmp_eq (tgt := 940) C (dk oL_law_3 36 rfl) (by decide) (fun _ => ?_) (fun h => absurd (e1.trans e2.symm) h)
  exact kk I2 _ _ (hC1.lo hF2) hM2
set_option maxHeartbeats 1000000 in
set_option maxRecDepth 100000 in
theorem lw_c9 (C : fC p s m args meth c cL_law 4 RL ret D cA A) (Z : Str z A s s.heap) (hX : va_X b L xs s s.heap) (hbl : b < s.heap.size) (hbA : ¬ A b) (hL : L ≤ 2560) (hcs : cells ≤ room_1.cells ∧ slots ≤ room_1.slots) (hi : i + 5 ≤ L) (I : MI) (J : MJ) (τ : St) (hCS : CS I J τ) (hMM : MM I τ) (kk : ∀ (I' : MI) (J' : MJ) (τ' : St), CS I' J' τ' → MM I' τ' → V p l e room_1 s m args below meth c Q D A 4 cells slots 148 ad (mE cA ad I' J') 940 (lwL b ad i) []) : V p l e room_1 s m args below meth c Q D A 4 cells slots 148 ad (mE cA ad I J) 417 (lwL b ad i) [] := by
  refine r_aload_n C 2 (dk oL_law_3 39 rfl) rfl ?_
  refine r_ivi C Z (dk oL_law_3 40 rfl) cl_L_55 ci_X9_strike rfl (by decide) (c_X9_strike (by decide) I J τ hCS ) rfl rfl (Nat.le_of_ble_eq_true rfl) ⟨Nat.le_of_ble_eq_true rfl, Nat.le_of_ble_eq_true rfl⟩ hcs (fun r1 I1 J1 h1 => ?_)
  obtain ⟨e1, hC1, hF1⟩ := h1
  have hM1 := hMM.hi hF1.1
  refine r_aload_n C 1 (dk oL_law_3 41 rfl) rfl ?_
  refine r_ivi C Z (dk oL_law_3 42 rfl) cl_L_58 ci_X10_strike rfl (by decide) (c_X10_strike (by decide) I1 J1 τ hM1 ) rfl rfl (Nat.le_of_ble_eq_true rfl) ⟨Nat.le_of_ble_eq_true rfl, Nat.le_of_ble_eq_true rfl⟩ hcs (fun r2 I2 J2 h2 => ?_)
  obtain ⟨e2, hM2, hF2, e3⟩ := h2
  subst e3
  refine r_icmp_eq (tgt := 940) C (dk oL_law_3 43 rfl) (by decide) (fun _ => ?_) (fun h => absurd (e1.trans e2.symm) h)
  exact kk I2 _ _ (hC1.lo hF2) hM2
set_option maxHeartbeats 1000000 in
set_option maxRecDepth 100000 in
theorem lw_c10 (C : fC p s m args meth c cL_law 4 RL ret D cA A) (Z : Str z A s s.heap) (hX : va_X b L xs s s.heap) (hbl : b < s.heap.size) (hbA : ¬ A b) (hL : L ≤ 2560) (hcs : cells ≤ room_1.cells ∧ slots ≤ room_1.slots) (hi : i + 5 ≤ L) (I : MI) (J : MJ) (τ : St) (hCS : CS I J τ) (hMM : MM I τ) (kk : ∀ (I' : MI) (J' : MJ) (τ' : St), CS I' J' τ' → MM I' τ' → V p l e room_1 s m args below meth c Q D A 4 cells slots 148 ad (mE cA ad I' J') 940 (lwL b ad i) []) : V p l e room_1 s m args below meth c Q D A 4 cells slots 148 ad (mE cA ad I J) 430 (lwL b ad i) [] := by
  refine r_aload_n C 2 (dk oL_law_3 46 rfl) rfl ?_
  refine r_ivi C Z (dk oL_law_3 47 rfl) cl_L_59 ci_X9_open rfl (by decide) (c_X9_open (by decide) I J τ hCS ) rfl rfl (Nat.le_of_ble_eq_true rfl) ⟨Nat.le_of_ble_eq_true rfl, Nat.le_of_ble_eq_true rfl⟩ hcs (fun r1 I1 J1 h1 => ?_)
  obtain ⟨e1, hC1, hF1⟩ := h1
  have hM1 := hMM.hi hF1.1
  refine r_aload_n C 1 (dk oL_law_3 48 rfl) rfl ?_
  refine r_ivi C Z (dk oL_law_3 49 rfl) cl_L_62 ci_X10_open rfl (by decide) (c_X10_open (by decide) I1 J1 τ hM1 ) rfl rfl (Nat.le_of_ble_eq_true rfl) ⟨Nat.le_of_ble_eq_true rfl, Nat.le_of_ble_eq_true rfl⟩ hcs (fun r2 I2 J2 h2 => ?_)
  obtain ⟨e2, hM2, hF2, e3⟩ := h2
  subst e3
  refine r_icmp_eq (tgt := 940) C (dk oL_law_3 50 rfl) (by decide) (fun _ => ?_) (fun h => absurd (e1.trans e2.symm) h)
  exact kk I2 _ _ (hC1.lo hF2) hM2
set_option maxHeartbeats 1000000 in
set_option maxRecDepth 100000 in
theorem lw_c11 (C : fC p s m args meth c cL_law 4 RL ret D cA A) (Z : Str z A s s.heap) (hX : va_X b L xs s s.heap) (hbl : b < s.heap.size) (hbA : ¬ A b) (hL : L ≤ 2560) (hcs : cells ≤ room_1.cells ∧ slots ≤ room_1.slots) (hi : i + 5 ≤ L) (I : MI) (J : MJ) (τ : St) (hCS : CS I J τ) (hMM : MM I τ) (kk : ∀ (I' : MI) (J' : MJ) (τ' : St), CS I' J' τ' → MM I' τ' → V p l e room_1 s m args below meth c Q D A 4 cells slots 148 ad (mE cA ad I' J') 940 (lwL b ad i) []) : V p l e room_1 s m args below meth c Q D A 4 cells slots 148 ad (mE cA ad I J) 443 (lwL b ad i) [] := by
  refine r_aload_n C 2 (dk oL_law_3 53 rfl) rfl ?_
  refine r_arg C hX hbl hbA 1 (by omega) (by omega) (by decide) (dk oL_law_3 54 rfl) (dk oL_law_3 55 rfl) (dk oL_law_3 56 rfl) (dk oL_law_3 57 rfl) (dk oL_law_3 58 rfl) ?_
  refine r_arg C hX hbl hbA 2 (by omega) (by omega) (by decide) (dk oL_law_3 59 rfl) (dk oL_law_4 0 rfl) (dk oL_law_4 1 rfl) (dk oL_law_4 2 rfl) (dk oL_law_4 3 rfl) ?_
  refine r_ivi C Z (dk oL_law_4 4 rfl) cl_L_63 ci_X9_holds rfl (by decide) (c_X9_holds (by decide) I J τ hCS _ _) rfl rfl (Nat.le_of_ble_eq_true rfl) ⟨Nat.le_of_ble_eq_true rfl, Nat.le_of_ble_eq_true rfl⟩ hcs (fun r1 I1 J1 h1 => ?_)
  obtain ⟨e1, hC1, hF1⟩ := h1
  have hM1 := hMM.hi hF1.1
  refine r_aload_n C 1 (dk oL_law_4 5 rfl) rfl ?_
  refine r_arg C hX hbl hbA 1 (by omega) (by omega) (by decide) (dk oL_law_4 6 rfl) (dk oL_law_4 7 rfl) (dk oL_law_4 8 rfl) (dk oL_law_4 9 rfl) (dk oL_law_4 10 rfl) ?_
  refine r_arg C hX hbl hbA 2 (by omega) (by omega) (by decide) (dk oL_law_4 11 rfl) (dk oL_law_4 12 rfl) (dk oL_law_4 13 rfl) (dk oL_law_4 14 rfl) (dk oL_law_4 15 rfl) ?_
  refine r_ivi C Z (dk oL_law_4 16 rfl) cl_L_66 ci_X10_holds rfl (by decide) (c_X10_holds (by decide) I1 J1 τ hM1 _ _) rfl rfl (Nat.le_of_ble_eq_true rfl) ⟨Nat.le_of_ble_eq_true rfl, Nat.le_of_ble_eq_true rfl⟩ hcs (fun r2 I2 J2 h2 => ?_)
  obtain ⟨e2, hM2, hF2, e3⟩ := h2
  subst e3
  refine r_icmp_eq (tgt := 940) C (dk oL_law_4 17 rfl) (by decide) (fun _ => ?_) (fun h => absurd (e1.trans e2.symm) h)
  exact kk I2 _ _ (hC1.lo hF2) hM2
set_option maxHeartbeats 1000000 in
set_option maxRecDepth 100000 in
theorem lw_c12 (C : fC p s m args meth c cL_law 4 RL ret D cA A) (Z : Str z A s s.heap) (hX : va_X b L xs s s.heap) (hbl : b < s.heap.size) (hbA : ¬ A b) (hL : L ≤ 2560) (hcs : cells ≤ room_1.cells ∧ slots ≤ room_1.slots) (hi : i + 5 ≤ L) (I : MI) (J : MJ) (τ : St) (hCS : CS I J τ) (hMM : MM I τ) (kk : ∀ (I' : MI) (J' : MJ) (τ' : St), CS I' J' τ' → MM I' τ' → V p l e room_1 s m args below meth c Q D A 4 cells slots 148 ad (mE cA ad I' J') 940 (lwL b ad i) []) : V p l e room_1 s m args below meth c Q D A 4 cells slots 148 ad (mE cA ad I J) 476 (lwL b ad i) [] := by
  refine r_aload_n C 2 (dk oL_law_4 20 rfl) rfl ?_
  refine r_arg C hX hbl hbA 1 (by omega) (by omega) (by decide) (dk oL_law_4 21 rfl) (dk oL_law_4 22 rfl) (dk oL_law_4 23 rfl) (dk oL_law_4 24 rfl) (dk oL_law_4 25 rfl) ?_
  refine r_ivi C Z (dk oL_law_4 26 rfl) cl_L_67 ci_X9_turns rfl (by decide) (c_X9_turns (by decide) I J τ hCS _) rfl rfl (Nat.le_of_ble_eq_true rfl) ⟨Nat.le_of_ble_eq_true rfl, Nat.le_of_ble_eq_true rfl⟩ hcs (fun r1 I1 J1 h1 => ?_)
  obtain ⟨e1, hC1, hF1⟩ := h1
  have hM1 := hMM.hi hF1.1
  refine r_aload_n C 1 (dk oL_law_4 27 rfl) rfl ?_
  refine r_arg C hX hbl hbA 1 (by omega) (by omega) (by decide) (dk oL_law_4 28 rfl) (dk oL_law_4 29 rfl) (dk oL_law_4 30 rfl) (dk oL_law_4 31 rfl) (dk oL_law_4 32 rfl) ?_
  refine r_ivi C Z (dk oL_law_4 33 rfl) cl_L_70 ci_X10_turns rfl (by decide) (c_X10_turns (by decide) I1 J1 τ hM1 _) rfl rfl (Nat.le_of_ble_eq_true rfl) ⟨Nat.le_of_ble_eq_true rfl, Nat.le_of_ble_eq_true rfl⟩ hcs (fun r2 I2 J2 h2 => ?_)
  obtain ⟨e2, hM2, hF2, e3⟩ := h2
  subst e3
  refine r_icmp_eq (tgt := 940) C (dk oL_law_4 34 rfl) (by decide) (fun _ => ?_) (fun h => absurd (e1.trans e2.symm) h)
  exact kk I2 _ _ (hC1.lo hF2) hM2
set_option maxHeartbeats 1000000 in
set_option maxRecDepth 100000 in
theorem lw_c13 (C : fC p s m args meth c cL_law 4 RL ret D cA A) (Z : Str z A s s.heap) (hX : va_X b L xs s s.heap) (hbl : b < s.heap.size) (hbA : ¬ A b) (hL : L ≤ 2560) (hcs : cells ≤ room_1.cells ∧ slots ≤ room_1.slots) (hi : i + 5 ≤ L) (I : MI) (J : MJ) (τ : St) (hCS : CS I J τ) (hMM : MM I τ) (kk : ∀ (I' : MI) (J' : MJ) (τ' : St), CS I' J' τ' → MM I' τ' → V p l e room_1 s m args below meth c Q D A 4 cells slots 148 ad (mE cA ad I' J') 940 (lwL b ad i) []) : V p l e room_1 s m args below meth c Q D A 4 cells slots 148 ad (mE cA ad I J) 499 (lwL b ad i) [] := by
  refine r_aload_n C 2 (dk oL_law_4 37 rfl) rfl ?_
  refine r_arg C hX hbl hbA 1 (by omega) (by omega) (by decide) (dk oL_law_4 38 rfl) (dk oL_law_4 39 rfl) (dk oL_law_4 40 rfl) (dk oL_law_4 41 rfl) (dk oL_law_4 42 rfl) ?_
  refine r_ivi C Z (dk oL_law_4 43 rfl) cl_L_71 ci_X9_enough rfl (by decide) (c_X9_enough (by decide) I J τ hCS _) rfl rfl (Nat.le_of_ble_eq_true rfl) ⟨Nat.le_of_ble_eq_true rfl, Nat.le_of_ble_eq_true rfl⟩ hcs (fun r1 I1 J1 h1 => ?_)
  obtain ⟨e1, hC1, hF1⟩ := h1
  have hM1 := hMM.hi hF1.1
  refine r_aload_n C 1 (dk oL_law_4 44 rfl) rfl ?_
  refine r_arg C hX hbl hbA 1 (by omega) (by omega) (by decide) (dk oL_law_4 45 rfl) (dk oL_law_4 46 rfl) (dk oL_law_4 47 rfl) (dk oL_law_4 48 rfl) (dk oL_law_4 49 rfl) ?_
  refine r_ivi C Z (dk oL_law_4 50 rfl) cl_L_74 ci_X10_enough rfl (by decide) (c_X10_enough (by decide) I1 J1 τ hM1 _) rfl rfl (Nat.le_of_ble_eq_true rfl) ⟨Nat.le_of_ble_eq_true rfl, Nat.le_of_ble_eq_true rfl⟩ hcs (fun r2 I2 J2 h2 => ?_)
  obtain ⟨e2, hM2, hF2, e3⟩ := h2
  subst e3
  refine r_icmp_eq (tgt := 940) C (dk oL_law_4 51 rfl) (by decide) (fun _ => ?_) (fun h => absurd (e1.trans e2.symm) h)
  exact kk I2 _ _ (hC1.lo hF2) hM2
set_option maxHeartbeats 1000000 in
set_option maxRecDepth 100000 in
theorem lw_c14 (C : fC p s m args meth c cL_law 4 RL ret D cA A) (Z : Str z A s s.heap) (hX : va_X b L xs s s.heap) (hbl : b < s.heap.size) (hbA : ¬ A b) (hL : L ≤ 2560) (hcs : cells ≤ room_1.cells ∧ slots ≤ room_1.slots) (hi : i + 5 ≤ L) (I : MI) (J : MJ) (τ : St) (hCS : CS I J τ) (hMM : MM I τ) (kk : ∀ (I' : MI) (J' : MJ) (τ' : St), CS I' J' τ' → MM I' τ' → V p l e room_1 s m args below meth c Q D A 4 cells slots 148 ad (mE cA ad I' J') 940 (lwL b ad i) []) : V p l e room_1 s m args below meth c Q D A 4 cells slots 148 ad (mE cA ad I J) 522 (lwL b ad i) [] := by
  refine r_aload_n C 2 (dk oL_law_4 54 rfl) rfl ?_
  refine r_arg C hX hbl hbA 1 (by omega) (by omega) (by decide) (dk oL_law_4 55 rfl) (dk oL_law_4 56 rfl) (dk oL_law_4 57 rfl) (dk oL_law_4 58 rfl) (dk oL_law_4 59 rfl) ?_
  refine r_arg C hX hbl hbA 2 (by omega) (by omega) (by decide) (dk oL_law_5 0 rfl) (dk oL_law_5 1 rfl) (dk oL_law_5 2 rfl) (dk oL_law_5 3 rfl) (dk oL_law_5 4 rfl) ?_
  refine r_ivi C Z (dk oL_law_5 5 rfl) cl_L_75 ci_X9_silence rfl (by decide) (c_X9_silence (by decide) I J τ hCS _ _) rfl rfl (Nat.le_of_ble_eq_true rfl) ⟨Nat.le_of_ble_eq_true rfl, Nat.le_of_ble_eq_true rfl⟩ hcs (fun r1 I1 J1 h1 => ?_)
  obtain ⟨e1, hC1, hF1⟩ := h1
  have hM1 := hMM.hi hF1.1
  refine r_aload_n C 1 (dk oL_law_5 6 rfl) rfl ?_
  refine r_arg C hX hbl hbA 1 (by omega) (by omega) (by decide) (dk oL_law_5 7 rfl) (dk oL_law_5 8 rfl) (dk oL_law_5 9 rfl) (dk oL_law_5 10 rfl) (dk oL_law_5 11 rfl) ?_
  refine r_arg C hX hbl hbA 2 (by omega) (by omega) (by decide) (dk oL_law_5 12 rfl) (dk oL_law_5 13 rfl) (dk oL_law_5 14 rfl) (dk oL_law_5 15 rfl) (dk oL_law_5 16 rfl) ?_
  refine r_ivi C Z (dk oL_law_5 17 rfl) cl_L_78 ci_X10_silence rfl (by decide) (c_X10_silence (by decide) I1 J1 τ hM1 _ _) rfl rfl (Nat.le_of_ble_eq_true rfl) ⟨Nat.le_of_ble_eq_true rfl, Nat.le_of_ble_eq_true rfl⟩ hcs (fun r2 I2 J2 h2 => ?_)
  obtain ⟨e2, hM2, hF2, e3⟩ := h2
  subst e3
  refine r_icmp_eq (tgt := 940) C (dk oL_law_5 18 rfl) (by decide) (fun _ => ?_) (fun h => absurd (e1.trans e2.symm) h)
  exact kk I2 _ _ (hC1.lo hF2) hM2
set_option maxHeartbeats 1000000 in
set_option maxRecDepth 100000 in
theorem lw_c15 (C : fC p s m args meth c cL_law 4 RL ret D cA A) (Z : Str z A s s.heap) (hX : va_X b L xs s s.heap) (hbl : b < s.heap.size) (hbA : ¬ A b) (hL : L ≤ 2560) (hcs : cells ≤ room_1.cells ∧ slots ≤ room_1.slots) (hi : i + 5 ≤ L) (I : MI) (J : MJ) (τ : St) (hCS : CS I J τ) (hMM : MM I τ) (kk : ∀ (I' : MI) (J' : MJ) (τ' : St), CS I' J' τ' → MM I' τ' → V p l e room_1 s m args below meth c Q D A 4 cells slots 148 ad (mE cA ad I' J') 940 (lwL b ad i) []) : V p l e room_1 s m args below meth c Q D A 4 cells slots 148 ad (mE cA ad I J) 555 (lwL b ad i) [] := by
  refine r_aload_n C 2 (dk oL_law_5 21 rfl) rfl ?_
  refine r_arg C hX hbl hbA 1 (by omega) (by omega) (by decide) (dk oL_law_5 22 rfl) (dk oL_law_5 23 rfl) (dk oL_law_5 24 rfl) (dk oL_law_5 25 rfl) (dk oL_law_5 26 rfl) ?_
  refine r_arg C hX hbl hbA 2 (by omega) (by omega) (by decide) (dk oL_law_5 27 rfl) (dk oL_law_5 28 rfl) (dk oL_law_5 29 rfl) (dk oL_law_5 30 rfl) (dk oL_law_5 31 rfl) ?_
  refine r_arg C hX hbl hbA 3 (by omega) (by omega) (by decide) (dk oL_law_5 32 rfl) (dk oL_law_5 33 rfl) (dk oL_law_5 34 rfl) (dk oL_law_5 35 rfl) (dk oL_law_5 36 rfl) ?_
  refine r_arg C hX hbl hbA 4 (by omega) (by omega) (by decide) (dk oL_law_5 37 rfl) (dk oL_law_5 38 rfl) (dk oL_law_5 39 rfl) (dk oL_law_5 40 rfl) (dk oL_law_5 41 rfl) ?_
  refine r_ivi C Z (dk oL_law_5 42 rfl) cl_L_79 ci_X9_proof rfl (by decide) (c_X9_proof (by decide) I J τ hCS _ _ _ _) rfl rfl (Nat.le_of_ble_eq_true rfl) ⟨Nat.le_of_ble_eq_true rfl, Nat.le_of_ble_eq_true rfl⟩ hcs (fun r1 I1 J1 h1 => ?_)
  obtain ⟨e1, hC1, hF1⟩ := h1
  have hM1 := hMM.hi hF1.1
  refine r_aload_n C 1 (dk oL_law_5 43 rfl) rfl ?_
  refine r_arg C hX hbl hbA 1 (by omega) (by omega) (by decide) (dk oL_law_5 44 rfl) (dk oL_law_5 45 rfl) (dk oL_law_5 46 rfl) (dk oL_law_5 47 rfl) (dk oL_law_5 48 rfl) ?_
  refine r_arg C hX hbl hbA 2 (by omega) (by omega) (by decide) (dk oL_law_5 49 rfl) (dk oL_law_5 50 rfl) (dk oL_law_5 51 rfl) (dk oL_law_5 52 rfl) (dk oL_law_5 53 rfl) ?_
  refine r_arg C hX hbl hbA 3 (by omega) (by omega) (by decide) (dk oL_law_5 54 rfl) (dk oL_law_5 55 rfl) (dk oL_law_5 56 rfl) (dk oL_law_5 57 rfl) (dk oL_law_5 58 rfl) ?_
  refine r_arg C hX hbl hbA 4 (by omega) (by omega) (by decide) (dk oL_law_5 59 rfl) (dk oL_law_6 0 rfl) (dk oL_law_6 1 rfl) (dk oL_law_6 2 rfl) (dk oL_law_6 3 rfl) ?_
  refine r_ivi C Z (dk oL_law_6 4 rfl) cl_L_83 ci_X10_proof rfl (by decide) (c_X10_proof (by decide) I1 J1 τ hM1 _ _ _ _) rfl rfl (Nat.le_of_ble_eq_true rfl) ⟨Nat.le_of_ble_eq_true rfl, Nat.le_of_ble_eq_true rfl⟩ hcs (fun r2 I2 J2 h2 => ?_)
  obtain ⟨e2, hM2, hF2, e3⟩ := h2
  subst e3
  refine r_icmp_eq (tgt := 940) C (dk oL_law_6 5 rfl) (by decide) (fun _ => ?_) (fun h => absurd (e1.trans e2.symm) h)
  exact kk I2 _ _ (hC1.lo hF2) hM2
set_option maxHeartbeats 1000000 in
set_option maxRecDepth 100000 in
theorem lw_c16 (C : fC p s m args meth c cL_law 4 RL ret D cA A) (Z : Str z A s s.heap) (hX : va_X b L xs s s.heap) (hbl : b < s.heap.size) (hbA : ¬ A b) (hL : L ≤ 2560) (hcs : cells ≤ room_1.cells ∧ slots ≤ room_1.slots) (hi : i + 5 ≤ L) (I : MI) (J : MJ) (τ : St) (hCS : CS I J τ) (hMM : MM I τ) (kk : ∀ (I' : MI) (J' : MJ) (τ' : St), CS I' J' τ' → MM I' τ' → V p l e room_1 s m args below meth c Q D A 4 cells slots 148 ad (mE cA ad I' J') 940 (lwL b ad i) []) : V p l e room_1 s m args below meth c Q D A 4 cells slots 148 ad (mE cA ad I J) 608 (lwL b ad i) [] := by
  by_cases h0 : xs (i + 2) = 0
  · refine r_aload_n C 2 (dk oL_law_6 8 rfl) rfl ?_
    refine r_arg C hX hbl hbA 1 (by omega) (by omega) (by decide) (dk oL_law_6 9 rfl) (dk oL_law_6 10 rfl) (dk oL_law_6 11 rfl) (dk oL_law_6 12 rfl) (dk oL_law_6 13 rfl) ?_
    refine r_arg C hX hbl hbA 2 (by omega) (by omega) (by decide) (dk oL_law_6 14 rfl) (dk oL_law_6 15 rfl) (dk oL_law_6 16 rfl) (dk oL_law_6 17 rfl) (dk oL_law_6 18 rfl) ?_
    refine r_if_eq (tgt := 626) C (dk oL_law_6 19 rfl) (by decide) (fun _ => ?_) (fun h => absurd h0 h)
    refine r_iconst C (dk oL_law_6 22 rfl) (v := b32 false) (by decide) ?_
    refine r_ivi C Z (dk oL_law_6 23 rfl) cl_L_84 ci_X9_bring rfl (by decide) (c_X9_bring (by decide) I J τ hCS _ _) rfl rfl (Nat.le_of_ble_eq_true rfl) ⟨Nat.le_of_ble_eq_true rfl, Nat.le_of_ble_eq_true rfl⟩ hcs (fun r1 I1 J1 h1 => ?_)
    obtain ⟨e1, hC1, hF1⟩ := h1
    have hM1 := hMM.hi hF1.1
    refine r_aload_n C 1 (dk oL_law_6 24 rfl) rfl ?_
    refine r_arg C hX hbl hbA 1 (by omega) (by omega) (by decide) (dk oL_law_6 25 rfl) (dk oL_law_6 26 rfl) (dk oL_law_6 27 rfl) (dk oL_law_6 28 rfl) (dk oL_law_6 29 rfl) ?_
    refine r_arg C hX hbl hbA 2 (by omega) (by omega) (by decide) (dk oL_law_6 30 rfl) (dk oL_law_6 31 rfl) (dk oL_law_6 32 rfl) (dk oL_law_6 33 rfl) (dk oL_law_6 34 rfl) ?_
    refine r_if_eq (tgt := 648) C (dk oL_law_6 35 rfl) (by decide) (fun _ => ?_) (fun h => absurd h0 h)
    refine r_iconst C (dk oL_law_6 38 rfl) (v := b32 false) (by decide) ?_
    refine r_ivi C Z (dk oL_law_6 39 rfl) cl_L_88 ci_X10_bring rfl (by decide) (c_X10_bring (by decide) I1 J1 τ hM1 _ _) rfl rfl (Nat.le_of_ble_eq_true rfl) ⟨Nat.le_of_ble_eq_true rfl, Nat.le_of_ble_eq_true rfl⟩ hcs (fun r2 I2 J2 h2 => ?_)
    obtain ⟨e2, hM2, hF2, e3⟩ := h2
    subst e3
    refine r_icmp_eq (tgt := 940) C (dk oL_law_6 40 rfl) (by decide) (fun _ => ?_) (fun h => absurd (e1.trans e2.symm) h)
    exact kk I2 _ _ (hC1.lo hF2) hM2
  · refine r_aload_n C 2 (dk oL_law_6 8 rfl) rfl ?_
    refine r_arg C hX hbl hbA 1 (by omega) (by omega) (by decide) (dk oL_law_6 9 rfl) (dk oL_law_6 10 rfl) (dk oL_law_6 11 rfl) (dk oL_law_6 12 rfl) (dk oL_law_6 13 rfl) ?_
    refine r_arg C hX hbl hbA 2 (by omega) (by omega) (by decide) (dk oL_law_6 14 rfl) (dk oL_law_6 15 rfl) (dk oL_law_6 16 rfl) (dk oL_law_6 17 rfl) (dk oL_law_6 18 rfl) ?_
    refine r_if_eq (tgt := 626) C (dk oL_law_6 19 rfl) (by decide) (fun h => absurd h h0) (fun _ => ?_)
    refine r_iconst C (dk oL_law_6 20 rfl) (v := b32 true) (by decide) ?_
    refine r_goto (tgt := 627) C (dk oL_law_6 21 rfl) (by decide) ?_
    refine r_ivi C Z (dk oL_law_6 23 rfl) cl_L_84 ci_X9_bring rfl (by decide) (c_X9_bring (by decide) I J τ hCS _ _) rfl rfl (Nat.le_of_ble_eq_true rfl) ⟨Nat.le_of_ble_eq_true rfl, Nat.le_of_ble_eq_true rfl⟩ hcs (fun r1 I1 J1 h1 => ?_)
    obtain ⟨e1, hC1, hF1⟩ := h1
    have hM1 := hMM.hi hF1.1
    refine r_aload_n C 1 (dk oL_law_6 24 rfl) rfl ?_
    refine r_arg C hX hbl hbA 1 (by omega) (by omega) (by decide) (dk oL_law_6 25 rfl) (dk oL_law_6 26 rfl) (dk oL_law_6 27 rfl) (dk oL_law_6 28 rfl) (dk oL_law_6 29 rfl) ?_
    refine r_arg C hX hbl hbA 2 (by omega) (by omega) (by decide) (dk oL_law_6 30 rfl) (dk oL_law_6 31 rfl) (dk oL_law_6 32 rfl) (dk oL_law_6 33 rfl) (dk oL_law_6 34 rfl) ?_
    refine r_if_eq (tgt := 648) C (dk oL_law_6 35 rfl) (by decide) (fun h => absurd h h0) (fun _ => ?_)
    refine r_iconst C (dk oL_law_6 36 rfl) (v := b32 true) (by decide) ?_
    refine r_goto (tgt := 649) C (dk oL_law_6 37 rfl) (by decide) ?_
    refine r_ivi C Z (dk oL_law_6 39 rfl) cl_L_88 ci_X10_bring rfl (by decide) (c_X10_bring (by decide) I1 J1 τ hM1 _ _) rfl rfl (Nat.le_of_ble_eq_true rfl) ⟨Nat.le_of_ble_eq_true rfl, Nat.le_of_ble_eq_true rfl⟩ hcs (fun r2 I2 J2 h2 => ?_)
    obtain ⟨e2, hM2, hF2, e3⟩ := h2
    subst e3
    refine r_icmp_eq (tgt := 940) C (dk oL_law_6 40 rfl) (by decide) (fun _ => ?_) (fun h => absurd (e1.trans e2.symm) h)
    exact kk I2 _ _ (hC1.lo hF2) hM2
set_option maxHeartbeats 1000000 in
set_option maxRecDepth 100000 in
theorem lw_c17 (C : fC p s m args meth c cL_law 4 RL ret D cA A) (Z : Str z A s s.heap) (hX : va_X b L xs s s.heap) (hbl : b < s.heap.size) (hbA : ¬ A b) (hL : L ≤ 2560) (hcs : cells ≤ room_1.cells ∧ slots ≤ room_1.slots) (hi : i + 5 ≤ L) (I : MI) (J : MJ) (τ : St) (hCS : CS I J τ) (hMM : MM I τ) (kk : ∀ (I' : MI) (J' : MJ) (τ' : St), CS I' J' τ' → MM I' τ' → V p l e room_1 s m args below meth c Q D A 4 cells slots 148 ad (mE cA ad I' J') 940 (lwL b ad i) []) : V p l e room_1 s m args below meth c Q D A 4 cells slots 148 ad (mE cA ad I J) 657 (lwL b ad i) [] := by
  refine r_aload_n C 2 (dk oL_law_6 43 rfl) rfl ?_
  refine r_arg C hX hbl hbA 1 (by omega) (by omega) (by decide) (dk oL_law_6 44 rfl) (dk oL_law_6 45 rfl) (dk oL_law_6 46 rfl) (dk oL_law_6 47 rfl) (dk oL_law_6 48 rfl) ?_
  refine r_arg C hX hbl hbA 2 (by omega) (by omega) (by decide) (dk oL_law_6 49 rfl) (dk oL_law_6 50 rfl) (dk oL_law_6 51 rfl) (dk oL_law_6 52 rfl) (dk oL_law_6 53 rfl) ?_
  refine r_ivi C Z (dk oL_law_6 54 rfl) cl_L_89 ci_X9_proved rfl (by decide) (c_X9_proved (by decide) I J τ hCS _ _) rfl rfl (Nat.le_of_ble_eq_true rfl) ⟨Nat.le_of_ble_eq_true rfl, Nat.le_of_ble_eq_true rfl⟩ hcs (fun r1 I1 J1 h1 => ?_)
  obtain ⟨e1, hC1, hF1⟩ := h1
  have hM1 := hMM.hi hF1.1
  refine r_aload_n C 1 (dk oL_law_6 55 rfl) rfl ?_
  refine r_arg C hX hbl hbA 1 (by omega) (by omega) (by decide) (dk oL_law_6 56 rfl) (dk oL_law_6 57 rfl) (dk oL_law_6 58 rfl) (dk oL_law_6 59 rfl) (dk oL_law_7 0 rfl) ?_
  refine r_arg C hX hbl hbA 2 (by omega) (by omega) (by decide) (dk oL_law_7 1 rfl) (dk oL_law_7 2 rfl) (dk oL_law_7 3 rfl) (dk oL_law_7 4 rfl) (dk oL_law_7 5 rfl) ?_
  refine r_ivi C Z (dk oL_law_7 6 rfl) cl_L_92 ci_X10_proved rfl (by decide) (c_X10_proved (by decide) I1 J1 τ hM1 _ _) rfl rfl (Nat.le_of_ble_eq_true rfl) ⟨Nat.le_of_ble_eq_true rfl, Nat.le_of_ble_eq_true rfl⟩ hcs (fun r2 I2 J2 h2 => ?_)
  obtain ⟨e2, hM2, hF2, e3⟩ := h2
  subst e3
  refine r_icmp_eq (tgt := 940) C (dk oL_law_7 7 rfl) (by decide) (fun _ => ?_) (fun h => absurd (e1.trans e2.symm) h)
  exact kk I2 _ _ (hC1.lo hF2) hM2
set_option maxHeartbeats 1000000 in
set_option maxRecDepth 100000 in
theorem lw_c18 (C : fC p s m args meth c cL_law 4 RL ret D cA A) (Z : Str z A s s.heap) (hX : va_X b L xs s s.heap) (hbl : b < s.heap.size) (hbA : ¬ A b) (hL : L ≤ 2560) (hcs : cells ≤ room_1.cells ∧ slots ≤ room_1.slots) (hi : i + 5 ≤ L) (I : MI) (J : MJ) (τ : St) (hCS : CS I J τ) (hMM : MM I τ) (kk : ∀ (I' : MI) (J' : MJ) (τ' : St), CS I' J' τ' → MM I' τ' → V p l e room_1 s m args below meth c Q D A 4 cells slots 148 ad (mE cA ad I' J') 940 (lwL b ad i) []) : V p l e room_1 s m args below meth c Q D A 4 cells slots 148 ad (mE cA ad I J) 690 (lwL b ad i) [] := by
  refine r_aload_n C 2 (dk oL_law_7 10 rfl) rfl ?_
  refine r_arg C hX hbl hbA 1 (by omega) (by omega) (by decide) (dk oL_law_7 11 rfl) (dk oL_law_7 12 rfl) (dk oL_law_7 13 rfl) (dk oL_law_7 14 rfl) (dk oL_law_7 15 rfl) ?_
  refine r_ivi C Z (dk oL_law_7 16 rfl) cl_L_93 ci_X9_likely rfl (by decide) (c_X9_likely (by decide) I J τ hCS _) rfl rfl (Nat.le_of_ble_eq_true rfl) ⟨Nat.le_of_ble_eq_true rfl, Nat.le_of_ble_eq_true rfl⟩ hcs (fun r1 I1 J1 h1 => ?_)
  obtain ⟨e1, hC1, hF1⟩ := h1
  have hM1 := hMM.hi hF1.1
  refine r_aload_n C 1 (dk oL_law_7 17 rfl) rfl ?_
  refine r_arg C hX hbl hbA 1 (by omega) (by omega) (by decide) (dk oL_law_7 18 rfl) (dk oL_law_7 19 rfl) (dk oL_law_7 20 rfl) (dk oL_law_7 21 rfl) (dk oL_law_7 22 rfl) ?_
  refine r_ivi C Z (dk oL_law_7 23 rfl) cl_L_96 ci_X10_likely rfl (by decide) (c_X10_likely (by decide) I1 J1 τ hM1 _) rfl rfl (Nat.le_of_ble_eq_true rfl) ⟨Nat.le_of_ble_eq_true rfl, Nat.le_of_ble_eq_true rfl⟩ hcs (fun r2 I2 J2 h2 => ?_)
  obtain ⟨e2, hM2, hF2, e3⟩ := h2
  subst e3
  refine r_icmp_eq (tgt := 940) C (dk oL_law_7 24 rfl) (by decide) (fun _ => ?_) (fun h => absurd (e1.trans e2.symm) h)
  exact kk I2 _ _ (hC1.lo hF2) hM2
set_option maxHeartbeats 1000000 in
set_option maxRecDepth 100000 in
theorem lw_c19 (C : fC p s m args meth c cL_law 4 RL ret D cA A) (Z : Str z A s s.heap) (hX : va_X b L xs s s.heap) (hbl : b < s.heap.size) (hbA : ¬ A b) (hL : L ≤ 2560) (hcs : cells ≤ room_1.cells ∧ slots ≤ room_1.slots) (hi : i + 5 ≤ L) (I : MI) (J : MJ) (τ : St) (hCS : CS I J τ) (hMM : MM I τ) (kk : ∀ (I' : MI) (J' : MJ) (τ' : St), CS I' J' τ' → MM I' τ' → V p l e room_1 s m args below meth c Q D A 4 cells slots 148 ad (mE cA ad I' J') 940 (lwL b ad i) []) : V p l e room_1 s m args below meth c Q D A 4 cells slots 148 ad (mE cA ad I J) 713 (lwL b ad i) [] := by
  refine r_aload_n C 2 (dk oL_law_7 27 rfl) rfl ?_
  refine r_arg C hX hbl hbA 1 (by omega) (by omega) (by decide) (dk oL_law_7 28 rfl) (dk oL_law_7 29 rfl) (dk oL_law_7 30 rfl) (dk oL_law_7 31 rfl) (dk oL_law_7 32 rfl) ?_
  refine r_ivi C Z (dk oL_law_7 33 rfl) cl_L_97 ci_X9_chance rfl (by decide) (c_X9_chance (by decide) I J τ hCS _) rfl rfl (Nat.le_of_ble_eq_true rfl) ⟨Nat.le_of_ble_eq_true rfl, Nat.le_of_ble_eq_true rfl⟩ hcs (fun r1 I1 J1 h1 => ?_)
  obtain ⟨e1, hC1, hF1⟩ := h1
  have hM1 := hMM.hi hF1.1
  refine r_aload_n C 1 (dk oL_law_7 34 rfl) rfl ?_
  refine r_arg C hX hbl hbA 1 (by omega) (by omega) (by decide) (dk oL_law_7 35 rfl) (dk oL_law_7 36 rfl) (dk oL_law_7 37 rfl) (dk oL_law_7 38 rfl) (dk oL_law_7 39 rfl) ?_
  refine r_ivi C Z (dk oL_law_7 40 rfl) cl_L_100 ci_X10_chance rfl (by decide) (c_X10_chance (by decide) I1 J1 τ hM1 _) rfl rfl (Nat.le_of_ble_eq_true rfl) ⟨Nat.le_of_ble_eq_true rfl, Nat.le_of_ble_eq_true rfl⟩ hcs (fun r2 I2 J2 h2 => ?_)
  obtain ⟨e2, hM2, hF2, e3⟩ := h2
  subst e3
  refine r_icmp_eq (tgt := 940) C (dk oL_law_7 41 rfl) (by decide) (fun _ => ?_) (fun h => absurd (e1.trans e2.symm) h)
  exact kk I2 _ _ (hC1.lo hF2) hM2
set_option maxHeartbeats 1000000 in
set_option maxRecDepth 100000 in
theorem lw_c20 (C : fC p s m args meth c cL_law 4 RL ret D cA A) (Z : Str z A s s.heap) (hX : va_X b L xs s s.heap) (hbl : b < s.heap.size) (hbA : ¬ A b) (hL : L ≤ 2560) (hcs : cells ≤ room_1.cells ∧ slots ≤ room_1.slots) (hi : i + 5 ≤ L) (I : MI) (J : MJ) (τ : St) (hCS : CS I J τ) (hMM : MM I τ) (kk : ∀ (I' : MI) (J' : MJ) (τ' : St), CS I' J' τ' → MM I' τ' → V p l e room_1 s m args below meth c Q D A 4 cells slots 148 ad (mE cA ad I' J') 940 (lwL b ad i) []) : V p l e room_1 s m args below meth c Q D A 4 cells slots 148 ad (mE cA ad I J) 736 (lwL b ad i) [] := by
  refine r_aload_n C 2 (dk oL_law_7 44 rfl) rfl ?_
  refine r_arg C hX hbl hbA 1 (by omega) (by omega) (by decide) (dk oL_law_7 45 rfl) (dk oL_law_7 46 rfl) (dk oL_law_7 47 rfl) (dk oL_law_7 48 rfl) (dk oL_law_7 49 rfl) ?_
  refine r_ivi C Z (dk oL_law_7 50 rfl) cl_L_101 ci_X9_worth rfl (by decide) (c_X9_worth (by decide) I J τ hCS _) rfl rfl (Nat.le_of_ble_eq_true rfl) ⟨Nat.le_of_ble_eq_true rfl, Nat.le_of_ble_eq_true rfl⟩ hcs (fun r1 I1 J1 h1 => ?_)
  obtain ⟨e1, hC1, hF1⟩ := h1
  have hM1 := hMM.hi hF1.1
  refine r_aload_n C 1 (dk oL_law_7 51 rfl) rfl ?_
  refine r_arg C hX hbl hbA 1 (by omega) (by omega) (by decide) (dk oL_law_7 52 rfl) (dk oL_law_7 53 rfl) (dk oL_law_7 54 rfl) (dk oL_law_7 55 rfl) (dk oL_law_7 56 rfl) ?_
  refine r_ivi C Z (dk oL_law_7 57 rfl) cl_L_104 ci_X10_worth rfl (by decide) (c_X10_worth (by decide) I1 J1 τ hM1 _) rfl rfl (Nat.le_of_ble_eq_true rfl) ⟨Nat.le_of_ble_eq_true rfl, Nat.le_of_ble_eq_true rfl⟩ hcs (fun r2 I2 J2 h2 => ?_)
  obtain ⟨e2, hM2, hF2, e3⟩ := h2
  subst e3
  refine r_icmp_eq (tgt := 940) C (dk oL_law_7 58 rfl) (by decide) (fun _ => ?_) (fun h => absurd (e1.trans e2.symm) h)
  exact kk I2 _ _ (hC1.lo hF2) hM2
set_option maxHeartbeats 1000000 in
set_option maxRecDepth 100000 in
theorem lw_c21 (C : fC p s m args meth c cL_law 4 RL ret D cA A) (Z : Str z A s s.heap) (hX : va_X b L xs s s.heap) (hbl : b < s.heap.size) (hbA : ¬ A b) (hL : L ≤ 2560) (hcs : cells ≤ room_1.cells ∧ slots ≤ room_1.slots) (hi : i + 5 ≤ L) (I : MI) (J : MJ) (τ : St) (hCS : CS I J τ) (hMM : MM I τ) (kk : ∀ (I' : MI) (J' : MJ) (τ' : St), CS I' J' τ' → MM I' τ' → V p l e room_1 s m args below meth c Q D A 4 cells slots 148 ad (mE cA ad I' J') 940 (lwL b ad i) []) : V p l e room_1 s m args below meth c Q D A 4 cells slots 148 ad (mE cA ad I J) 759 (lwL b ad i) [] := by
  refine r_aload_n C 2 (dk oL_law_8 1 rfl) rfl ?_
  refine r_arg C hX hbl hbA 1 (by omega) (by omega) (by decide) (dk oL_law_8 2 rfl) (dk oL_law_8 3 rfl) (dk oL_law_8 4 rfl) (dk oL_law_8 5 rfl) (dk oL_law_8 6 rfl) ?_
  refine r_arg C hX hbl hbA 2 (by omega) (by omega) (by decide) (dk oL_law_8 7 rfl) (dk oL_law_8 8 rfl) (dk oL_law_8 9 rfl) (dk oL_law_8 10 rfl) (dk oL_law_8 11 rfl) ?_
  refine r_arg C hX hbl hbA 3 (by omega) (by omega) (by decide) (dk oL_law_8 12 rfl) (dk oL_law_8 13 rfl) (dk oL_law_8 14 rfl) (dk oL_law_8 15 rfl) (dk oL_law_8 16 rfl) ?_
  refine r_ivi C Z (dk oL_law_8 17 rfl) cl_L_105 ci_X9_best rfl (by decide) (c_X9_best (by decide) I J τ hCS _ _ _) rfl rfl (Nat.le_of_ble_eq_true rfl) ⟨Nat.le_of_ble_eq_true rfl, Nat.le_of_ble_eq_true rfl⟩ hcs (fun r1 I1 J1 h1 => ?_)
  obtain ⟨e1, hC1, hF1⟩ := h1
  have hM1 := hMM.hi hF1.1
  refine r_aload_n C 1 (dk oL_law_8 18 rfl) rfl ?_
  refine r_arg C hX hbl hbA 1 (by omega) (by omega) (by decide) (dk oL_law_8 19 rfl) (dk oL_law_8 20 rfl) (dk oL_law_8 21 rfl) (dk oL_law_8 22 rfl) (dk oL_law_8 23 rfl) ?_
  refine r_arg C hX hbl hbA 2 (by omega) (by omega) (by decide) (dk oL_law_8 24 rfl) (dk oL_law_8 25 rfl) (dk oL_law_8 26 rfl) (dk oL_law_8 27 rfl) (dk oL_law_8 28 rfl) ?_
  refine r_arg C hX hbl hbA 3 (by omega) (by omega) (by decide) (dk oL_law_8 29 rfl) (dk oL_law_8 30 rfl) (dk oL_law_8 31 rfl) (dk oL_law_8 32 rfl) (dk oL_law_8 33 rfl) ?_
  refine r_ivi C Z (dk oL_law_8 34 rfl) cl_L_109 ci_X10_best rfl (by decide) (c_X10_best (by decide) I1 J1 τ hM1 _ _ _) rfl rfl (Nat.le_of_ble_eq_true rfl) ⟨Nat.le_of_ble_eq_true rfl, Nat.le_of_ble_eq_true rfl⟩ hcs (fun r2 I2 J2 h2 => ?_)
  obtain ⟨e2, hM2, hF2, e3⟩ := h2
  subst e3
  refine r_icmp_eq (tgt := 940) C (dk oL_law_8 35 rfl) (by decide) (fun _ => ?_) (fun h => absurd (e1.trans e2.symm) h)
  exact kk I2 _ _ (hC1.lo hF2) hM2
set_option maxHeartbeats 1000000 in
set_option maxRecDepth 100000 in
theorem lw_c22 (C : fC p s m args meth c cL_law 4 RL ret D cA A) (Z : Str z A s s.heap) (hX : va_X b L xs s s.heap) (hbl : b < s.heap.size) (hbA : ¬ A b) (hL : L ≤ 2560) (hcs : cells ≤ room_1.cells ∧ slots ≤ room_1.slots) (hi : i + 5 ≤ L) (I : MI) (J : MJ) (τ : St) (hCS : CS I J τ) (hMM : MM I τ) (kk : ∀ (I' : MI) (J' : MJ) (τ' : St), CS I' J' τ' → MM I' τ' → V p l e room_1 s m args below meth c Q D A 4 cells slots 148 ad (mE cA ad I' J') 940 (lwL b ad i) []) : V p l e room_1 s m args below meth c Q D A 4 cells slots 148 ad (mE cA ad I J) 802 (lwL b ad i) [] := by
  refine r_aload_n C 2 (dk oL_law_8 38 rfl) rfl ?_
  refine r_arg C hX hbl hbA 1 (by omega) (by omega) (by decide) (dk oL_law_8 39 rfl) (dk oL_law_8 40 rfl) (dk oL_law_8 41 rfl) (dk oL_law_8 42 rfl) (dk oL_law_8 43 rfl) ?_
  refine r_arg C hX hbl hbA 2 (by omega) (by omega) (by decide) (dk oL_law_8 44 rfl) (dk oL_law_8 45 rfl) (dk oL_law_8 46 rfl) (dk oL_law_8 47 rfl) (dk oL_law_8 48 rfl) ?_
  refine r_ivi C Z (dk oL_law_8 49 rfl) cl_L_110 ci_X9_game rfl (by decide) (c_X9_game (by decide) I J τ hCS _ _) rfl rfl (Nat.le_of_ble_eq_true rfl) ⟨Nat.le_of_ble_eq_true rfl, Nat.le_of_ble_eq_true rfl⟩ hcs (fun r1 I1 J1 h1 => ?_)
  obtain ⟨e1, hC1, hF1⟩ := h1
  have hM1 := hMM.hi hF1.1
  refine r_aload_n C 1 (dk oL_law_8 50 rfl) rfl ?_
  refine r_arg C hX hbl hbA 1 (by omega) (by omega) (by decide) (dk oL_law_8 51 rfl) (dk oL_law_8 52 rfl) (dk oL_law_8 53 rfl) (dk oL_law_8 54 rfl) (dk oL_law_8 55 rfl) ?_
  refine r_arg C hX hbl hbA 2 (by omega) (by omega) (by decide) (dk oL_law_8 56 rfl) (dk oL_law_8 57 rfl) (dk oL_law_8 58 rfl) (dk oL_law_8 59 rfl) (dk oL_law_9 0 rfl) ?_
  refine r_ivi C Z (dk oL_law_9 1 rfl) cl_L_113 ci_X10_game rfl (by decide) (c_X10_game (by decide) I1 J1 τ hM1 _ _) rfl rfl (Nat.le_of_ble_eq_true rfl) ⟨Nat.le_of_ble_eq_true rfl, Nat.le_of_ble_eq_true rfl⟩ hcs (fun r2 I2 J2 h2 => ?_)
  obtain ⟨e2, hM2, hF2, e3⟩ := h2
  subst e3
  refine r_icmp_eq (tgt := 940) C (dk oL_law_9 2 rfl) (by decide) (fun _ => ?_) (fun h => absurd (e1.trans e2.symm) h)
  exact kk I2 _ _ (hC1.lo hF2) hM2
set_option maxHeartbeats 1000000 in
set_option maxRecDepth 100000 in
theorem lw_c23 (C : fC p s m args meth c cL_law 4 RL ret D cA A) (Z : Str z A s s.heap) (hX : va_X b L xs s s.heap) (hbl : b < s.heap.size) (hbA : ¬ A b) (hL : L ≤ 2560) (hcs : cells ≤ room_1.cells ∧ slots ≤ room_1.slots) (hi : i + 5 ≤ L) (I : MI) (J : MJ) (τ : St) (hCS : CS I J τ) (hMM : MM I τ) (kk : ∀ (I' : MI) (J' : MJ) (τ' : St), CS I' J' τ' → MM I' τ' → V p l e room_1 s m args below meth c Q D A 4 cells slots 148 ad (mE cA ad I' J') 940 (lwL b ad i) []) : V p l e room_1 s m args below meth c Q D A 4 cells slots 148 ad (mE cA ad I J) 835 (lwL b ad i) [] := by
  refine r_aload_n C 2 (dk oL_law_9 5 rfl) rfl ?_
  refine r_arg C hX hbl hbA 1 (by omega) (by omega) (by decide) (dk oL_law_9 6 rfl) (dk oL_law_9 7 rfl) (dk oL_law_9 8 rfl) (dk oL_law_9 9 rfl) (dk oL_law_9 10 rfl) ?_
  refine r_ivi C Z (dk oL_law_9 11 rfl) cl_L_114 ci_X9_without rfl (by decide) (c_X9_without (by decide) I J τ hCS _) rfl rfl (Nat.le_of_ble_eq_true rfl) ⟨Nat.le_of_ble_eq_true rfl, Nat.le_of_ble_eq_true rfl⟩ hcs (fun r1 I1 J1 h1 => ?_)
  obtain ⟨e1, hC1, hF1⟩ := h1
  have hM1 := hMM.hi hF1.1
  refine r_aload_n C 1 (dk oL_law_9 12 rfl) rfl ?_
  refine r_arg C hX hbl hbA 1 (by omega) (by omega) (by decide) (dk oL_law_9 13 rfl) (dk oL_law_9 14 rfl) (dk oL_law_9 15 rfl) (dk oL_law_9 16 rfl) (dk oL_law_9 17 rfl) ?_
  refine r_ivi C Z (dk oL_law_9 18 rfl) cl_L_117 ci_X10_without rfl (by decide) (c_X10_without (by decide) I1 J1 τ hM1 _) rfl rfl (Nat.le_of_ble_eq_true rfl) ⟨Nat.le_of_ble_eq_true rfl, Nat.le_of_ble_eq_true rfl⟩ hcs (fun r2 I2 J2 h2 => ?_)
  obtain ⟨e2, hM2, hF2, e3⟩ := h2
  subst e3
  refine r_icmp_eq (tgt := 940) C (dk oL_law_9 19 rfl) (by decide) (fun _ => ?_) (fun h => absurd (e1.trans e2.symm) h)
  exact kk I2 _ _ (hC1.lo hF2) hM2
set_option maxHeartbeats 1000000 in
set_option maxRecDepth 100000 in
theorem lw_c24 (C : fC p s m args meth c cL_law 4 RL ret D cA A) (Z : Str z A s s.heap) (hX : va_X b L xs s s.heap) (hbl : b < s.heap.size) (hbA : ¬ A b) (hL : L ≤ 2560) (hcs : cells ≤ room_1.cells ∧ slots ≤ room_1.slots) (hi : i + 5 ≤ L) (I : MI) (J : MJ) (τ : St) (hCS : CS I J τ) (hMM : MM I τ) (kk : ∀ (I' : MI) (J' : MJ) (τ' : St), CS I' J' τ' → MM I' τ' → V p l e room_1 s m args below meth c Q D A 4 cells slots 148 ad (mE cA ad I' J') 940 (lwL b ad i) []) : V p l e room_1 s m args below meth c Q D A 4 cells slots 148 ad (mE cA ad I J) 858 (lwL b ad i) [] := by
  refine r_aload_n C 2 (dk oL_law_9 22 rfl) rfl ?_
  refine r_arg C hX hbl hbA 1 (by omega) (by omega) (by decide) (dk oL_law_9 23 rfl) (dk oL_law_9 24 rfl) (dk oL_law_9 25 rfl) (dk oL_law_9 26 rfl) (dk oL_law_9 27 rfl) ?_
  refine r_ivi C Z (dk oL_law_9 28 rfl) cl_L_118 ci_X9_seed rfl (by decide) (c_X9_seed (by decide) I J τ hCS _) rfl rfl (Nat.le_of_ble_eq_true rfl) ⟨Nat.le_of_ble_eq_true rfl, Nat.le_of_ble_eq_true rfl⟩ hcs (fun r1 I1 J1 h1 => ?_)
  obtain ⟨e1, hC1, hF1⟩ := h1
  have hM1 := hMM.hi hF1.1
  refine r_aload_n C 1 (dk oL_law_9 29 rfl) rfl ?_
  refine r_arg C hX hbl hbA 1 (by omega) (by omega) (by decide) (dk oL_law_9 30 rfl) (dk oL_law_9 31 rfl) (dk oL_law_9 32 rfl) (dk oL_law_9 33 rfl) (dk oL_law_9 34 rfl) ?_
  refine r_ivi C Z (dk oL_law_9 35 rfl) cl_L_121 ci_X10_seed rfl (by decide) (c_X10_seed (by decide) I1 J1 τ hM1 _) rfl rfl (Nat.le_of_ble_eq_true rfl) ⟨Nat.le_of_ble_eq_true rfl, Nat.le_of_ble_eq_true rfl⟩ hcs (fun r2 I2 J2 h2 => ?_)
  obtain ⟨e2, hM2, hF2, e3⟩ := h2
  subst e3
  refine r_icmp_eq (tgt := 940) C (dk oL_law_9 36 rfl) (by decide) (fun _ => ?_) (fun h => absurd (e1.trans e2.symm) h)
  exact kk I2 _ _ (hC1.lo hF2) hM2
set_option maxHeartbeats 1000000 in
set_option maxRecDepth 100000 in
theorem lw_c25 (C : fC p s m args meth c cL_law 4 RL ret D cA A) (Z : Str z A s s.heap) (hX : va_X b L xs s s.heap) (hbl : b < s.heap.size) (hbA : ¬ A b) (hL : L ≤ 2560) (hcs : cells ≤ room_1.cells ∧ slots ≤ room_1.slots) (hi : i + 5 ≤ L) (I : MI) (J : MJ) (τ : St) (hCS : CS I J τ) (hMM : MM I τ) (kk : ∀ (I' : MI) (J' : MJ) (τ' : St), CS I' J' τ' → MM I' τ' → V p l e room_1 s m args below meth c Q D A 4 cells slots 148 ad (mE cA ad I' J') 940 (lwL b ad i) []) : V p l e room_1 s m args below meth c Q D A 4 cells slots 148 ad (mE cA ad I J) 881 (lwL b ad i) [] := by
  refine r_aload_n C 2 (dk oL_law_9 39 rfl) rfl ?_
  refine r_ivi C Z (dk oL_law_9 40 rfl) cl_L_122 ci_X9_trial rfl (by decide) (c_X9_trial (by decide) I J τ hCS ) rfl rfl (Nat.le_of_ble_eq_true rfl) ⟨Nat.le_of_ble_eq_true rfl, Nat.le_of_ble_eq_true rfl⟩ hcs (fun r1 I1 J1 h1 => ?_)
  obtain ⟨e1, hC1, hF1⟩ := h1
  have hM1 := hMM.hi hF1.1
  refine r_aload_n C 1 (dk oL_law_9 41 rfl) rfl ?_
  refine r_ivi C Z (dk oL_law_9 42 rfl) cl_L_125 ci_X10_trial rfl (by decide) (c_X10_trial (by decide) I1 J1 τ hM1 ) rfl rfl (Nat.le_of_ble_eq_true rfl) ⟨Nat.le_of_ble_eq_true rfl, Nat.le_of_ble_eq_true rfl⟩ hcs (fun r2 I2 J2 h2 => ?_)
  obtain ⟨e2, hM2, hF2, e3⟩ := h2
  subst e3
  refine r_icmp_eq (tgt := 940) C (dk oL_law_9 43 rfl) (by decide) (fun _ => ?_) (fun h => absurd (e1.trans e2.symm) h)
  exact kk I2 _ _ (hC1.lo hF2) hM2
set_option maxHeartbeats 1000000 in
set_option maxRecDepth 100000 in
theorem lw_c26 (C : fC p s m args meth c cL_law 4 RL ret D cA A) (Z : Str z A s s.heap) (hX : va_X b L xs s s.heap) (hbl : b < s.heap.size) (hbA : ¬ A b) (hL : L ≤ 2560) (hcs : cells ≤ room_1.cells ∧ slots ≤ room_1.slots) (hi : i + 5 ≤ L) (I : MI) (J : MJ) (τ : St) (hCS : CS I J τ) (hMM : MM I τ) (kk : ∀ (I' : MI) (J' : MJ) (τ' : St), CS I' J' τ' → MM I' τ' → V p l e room_1 s m args below meth c Q D A 4 cells slots 148 ad (mE cA ad I' J') 940 (lwL b ad i) []) : V p l e room_1 s m args below meth c Q D A 4 cells slots 148 ad (mE cA ad I J) 894 (lwL b ad i) [] := by
  refine r_aload_n C 2 (dk oL_law_9 46 rfl) rfl ?_
  refine r_arg C hX hbl hbA 1 (by omega) (by omega) (by decide) (dk oL_law_9 47 rfl) (dk oL_law_9 48 rfl) (dk oL_law_9 49 rfl) (dk oL_law_9 50 rfl) (dk oL_law_9 51 rfl) ?_
  refine r_ivi C Z (dk oL_law_9 52 rfl) cl_L_126 ci_X9_keep rfl (by decide) (c_X9_keep (by decide) I J τ hCS _) rfl rfl (Nat.le_of_ble_eq_true rfl) ⟨Nat.le_of_ble_eq_true rfl, Nat.le_of_ble_eq_true rfl⟩ hcs (fun r1 I1 J1 h1 => ?_)
  obtain ⟨e1, hC1, hF1⟩ := h1
  have hM1 := hMM.hi hF1.1
  refine r_aload_n C 1 (dk oL_law_9 53 rfl) rfl ?_
  refine r_arg C hX hbl hbA 1 (by omega) (by omega) (by decide) (dk oL_law_9 54 rfl) (dk oL_law_9 55 rfl) (dk oL_law_9 56 rfl) (dk oL_law_9 57 rfl) (dk oL_law_9 58 rfl) ?_
  refine r_ivi C Z (dk oL_law_9 59 rfl) cl_L_129 ci_X10_keep rfl (by decide) (c_X10_keep (by decide) I1 J1 τ hM1 _) rfl rfl (Nat.le_of_ble_eq_true rfl) ⟨Nat.le_of_ble_eq_true rfl, Nat.le_of_ble_eq_true rfl⟩ hcs (fun r2 I2 J2 h2 => ?_)
  obtain ⟨e2, hM2, hF2, e3⟩ := h2
  subst e3
  refine r_icmp_eq (tgt := 940) C (dk oL_law_10 0 rfl) (by decide) (fun _ => ?_) (fun h => absurd (e1.trans e2.symm) h)
  exact kk I2 _ _ (hC1.lo hF2) hM2
set_option maxHeartbeats 1000000 in
set_option maxRecDepth 100000 in
theorem lw_c27 (C : fC p s m args meth c cL_law 4 RL ret D cA A) (Z : Str z A s s.heap) (hX : va_X b L xs s s.heap) (hbl : b < s.heap.size) (hbA : ¬ A b) (hL : L ≤ 2560) (hcs : cells ≤ room_1.cells ∧ slots ≤ room_1.slots) (hi : i + 5 ≤ L) (I : MI) (J : MJ) (τ : St) (hCS : CS I J τ) (hMM : MM I τ) (kk : ∀ (I' : MI) (J' : MJ) (τ' : St), CS I' J' τ' → MM I' τ' → V p l e room_1 s m args below meth c Q D A 4 cells slots 148 ad (mE cA ad I' J') 940 (lwL b ad i) []) : V p l e room_1 s m args below meth c Q D A 4 cells slots 148 ad (mE cA ad I J) 917 (lwL b ad i) [] := by
  refine r_aload_n C 2 (dk oL_law_10 3 rfl) rfl ?_
  refine r_arg C hX hbl hbA 1 (by omega) (by omega) (by decide) (dk oL_law_10 4 rfl) (dk oL_law_10 5 rfl) (dk oL_law_10 6 rfl) (dk oL_law_10 7 rfl) (dk oL_law_10 8 rfl) ?_
  refine r_ivi C Z (dk oL_law_10 9 rfl) cl_L_130 ci_X9_goBack rfl (by decide) (c_X9_goBack (by decide) I J τ hCS _) rfl rfl (Nat.le_of_ble_eq_true rfl) ⟨Nat.le_of_ble_eq_true rfl, Nat.le_of_ble_eq_true rfl⟩ hcs (fun r1 I1 J1 h1 => ?_)
  obtain ⟨e1, hC1, hF1⟩ := h1
  have hM1 := hMM.hi hF1.1
  refine r_aload_n C 1 (dk oL_law_10 10 rfl) rfl ?_
  refine r_arg C hX hbl hbA 1 (by omega) (by omega) (by decide) (dk oL_law_10 11 rfl) (dk oL_law_10 12 rfl) (dk oL_law_10 13 rfl) (dk oL_law_10 14 rfl) (dk oL_law_10 15 rfl) ?_
  refine r_ivi C Z (dk oL_law_10 16 rfl) cl_L_133 ci_X10_goBack rfl (by decide) (c_X10_goBack (by decide) I1 J1 τ hM1 _) rfl rfl (Nat.le_of_ble_eq_true rfl) ⟨Nat.le_of_ble_eq_true rfl, Nat.le_of_ble_eq_true rfl⟩ hcs (fun r2 I2 J2 h2 => ?_)
  obtain ⟨e2, hM2, hF2, e3⟩ := h2
  subst e3
  refine r_icmp_eq (tgt := 940) C (dk oL_law_10 17 rfl) (by decide) (fun _ => ?_) (fun h => absurd (e1.trans e2.symm) h)
  exact kk I2 _ _ (hC1.lo hF2) hM2
end LAW2
