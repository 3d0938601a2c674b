section LAW3
variable {p : Program} {l : Launch} {e : Env} {s : State} {m : MethodId} {args : Array Value} {below : List Frame} {meth : Method} {c : Code} {Q : State → Prop} {D : va_G} {A : Nat → Prop} {ret : Option FieldType} {cA : Nat → ClassId} {cells slots : Nat} {ad : Nat → Nat} {z : Zw} {b L i : Nat} {xs : Nat → Int32}
set_option maxHeartbeats 2000000 in
set_option maxRecDepth 100000 in
theorem law_loop (C : fC p s m args meth c cL_law 4 RL ret D cA A) (Z : Str z A s s.heap) (hX : va_X b L xs s s.heap) (hbl : b < s.heap.size) (hbA : ¬ A b) (hL : L ≤ 2560) (hcs : cells ≤ room_1.cells ∧ slots ≤ room_1.slots) (kend : ∀ (I : MI) (J : MJ) (i : Nat), V p l e room_1 s m args below meth c Q D A 4 cells slots 148 ad (mE cA ad I J) 946 (lwL b ad i) []) : ∀ (w i : Nat), L < i + w → i ≤ L → ∀ (I : MI) (J : MJ) (τ : St), CS I J τ → MM I τ → V p l e room_1 s m args below meth c Q D A 4 cells slots 148 ad (mE cA ad I J) 18 (lwL b ad i) []
  | 0, i, h1, h2, I, J, τ, hCS, hMM => absurd h1 (by omega)
  | w + 1, i, h1, h2, I, J, τ, hCS, hMM => by
    have ih := law_loop C Z hX hbl hbA hL hcs kend w
    refine r_iload_n C 0 (dk oL_law_0 10 rfl) rfl ?_
    refine r_aload_n C 3 (dk oL_law_0 11 rfl) rfl ?_
    refine r_slen C hX hbl hbA (dk oL_law_0 12 rfl) ?_
    refine r_iconst C (dk oL_law_0 13 rfl) (v := nI 5) (by decide) ?_
    refine r_isub C (dk oL_law_0 14 rfl) ?_
    refine r_icmp_gt (tgt := 946) C (dk oL_law_0 15 rfl) (by decide) (fun _ => kend I J i) (fun h => ?_)
    have h5 : i + 5 ≤ L := by
      have e1 : (nI L).toInt = (L : Int) := nI_toI (by omega)
      have e2 : (nI 5).toInt = 5 := by decide
      have e3 : (nI i).toInt = (i : Int) := nI_toI (by omega)
      have e4 : (nI L - nI 5).toInt = (L : Int) - 5 := by rw [fb_subI (x := nI L) (y := nI 5) (by rw [e1, e2]; omega) (by rw [e1, e2]; omega), e1, e2]
      rw [fa_lt, e4, e3] at h
      omega
    refine r_aload_n C 3 (dk oL_law_0 16 rfl) rfl ?_
    refine r_iload_n C 0 (dk oL_law_0 17 rfl) rfl ?_
    refine r_sld C hX hbl hbA i rfl (by omega) (by omega) (dk oL_law_0 18 rfl) ?_
    refine r_bipush C (dk oL_law_0 19 rfl) (v := nI 31) (by decide) ?_
    refine r_iand C (dk oL_law_0 20 rfl) ?_
    generalize xs i &&& nI 31 = y
    have step : ∀ (I' : MI) (J' : MJ) (τ' : St), CS I' J' τ' → MM I' τ' → V p l e room_1 s m args below meth c Q D A 4 cells slots 148 ad (mE cA ad I' J') 940 (lwL b ad i) [] := fun I' J' τ' g1 g2 => by
      refine r_iinc C 0 (dk oL_law_10 20 rfl) rfl (v := nI (i + 5)) (nI_add i 5) (by decide) rfl ?_
      refine r_goto (tgt := 18) C (dk oL_law_10 21 rfl) (by decide) ?_
      exact ih (i + 5) (by omega) h5 I' J' τ' g1 g2
    rcases sw_of (y := y) 27 (by decide) with ⟨k, hk, rfl⟩ | hy
    · rcases (by omega : k = 0 ∨ k = 1 ∨ k = 2 ∨ k = 3 ∨ k = 4 ∨ k = 5 ∨ k = 6 ∨ k = 7 ∨ k = 8 ∨ k = 9 ∨ k = 10 ∨ k = 11 ∨ k = 12 ∨ k = 13 ∨ k = 14 ∨ k = 15 ∨ k = 16 ∨ k = 17 ∨ k = 18 ∨ k = 19 ∨ k = 20 ∨ k = 21 ∨ k = 22 ∨ k = 23 ∨ k = 24 ∨ k = 25 ∨ k = 26 ∨ k = 27) with rfl | rfl | rfl | rfl | rfl | rfl | rfl | rfl | rfl | rfl | rfl | rfl | rfl | rfl | rfl | rfl | rfl | rfl | rfl | rfl | rfl | rfl | rfl | rfl | rfl | rfl | rfl | rfl
      · refine r_tabIn (off := 128) (tgt := 160) C (dk oL_law_0 21 rfl) (by decide) (by decide) (by decide) (by decide) ?_
        exact lw_c0 C Z hX hbl hbA hL hcs h5 I J τ hCS hMM step
      · refine r_tabIn (off := 191) (tgt := 223) C (dk oL_law_0 21 rfl) (by decide) (by decide) (by decide) (by decide) ?_
        exact lw_c1 C Z hX hbl hbA hL hcs h5 I J τ hCS hMM step
      · refine r_tabIn (off := 204) (tgt := 236) C (dk oL_law_0 21 rfl) (by decide) (by decide) (by decide) (by decide) ?_
        exact lw_c2 C Z hX hbl hbA hL hcs h5 I J τ hCS hMM step
      · refine r_tabIn (off := 227) (tgt := 259) C (dk oL_law_0 21 rfl) (by decide) (by decide) (by decide) (by decide) ?_
        exact lw_c3 C Z hX hbl hbA hL hcs h5 I J τ hCS hMM step
      · refine r_tabIn (off := 240) (tgt := 272) C (dk oL_law_0 21 rfl) (by decide) (by decide) (by decide) (by decide) ?_
        exact lw_c4 C Z hX hbl hbA hL hcs h5 I J τ hCS hMM step
      · refine r_tabIn (off := 263) (tgt := 295) C (dk oL_law_0 21 rfl) (by decide) (by decide) (by decide) (by decide) ?_
        exact lw_c5 C Z hX hbl hbA hL hcs h5 I J τ hCS hMM step
      · refine r_tabIn (off := 286) (tgt := 318) C (dk oL_law_0 21 rfl) (by decide) (by decide) (by decide) (by decide) ?_
        exact lw_c6 C Z hX hbl hbA hL hcs h5 I J τ hCS hMM step
      · refine r_tabIn (off := 319) (tgt := 351) C (dk oL_law_0 21 rfl) (by decide) (by decide) (by decide) (by decide) ?_
        exact lw_c7 C Z hX hbl hbA hL hcs h5 I J τ hCS hMM step
      · refine r_tabIn (off := 352) (tgt := 384) C (dk oL_law_0 21 rfl) (by decide) (by decide) (by decide) (by decide) ?_
        exact lw_c8 C Z hX hbl hbA hL hcs h5 I J τ hCS hMM step
      · refine r_tabIn (off := 385) (tgt := 417) C (dk oL_law_0 21 rfl) (by decide) (by decide) (by decide) (by decide) ?_
        exact lw_c9 C Z hX hbl hbA hL hcs h5 I J τ hCS hMM step
      · refine r_tabIn (off := 398) (tgt := 430) C (dk oL_law_0 21 rfl) (by decide) (by decide) (by decide) (by decide) ?_
        exact lw_c10 C Z hX hbl hbA hL hcs h5 I J τ hCS hMM step
      · refine r_tabIn (off := 411) (tgt := 443) C (dk oL_law_0 21 rfl) (by decide) (by decide) (by decide) (by decide) ?_
        exact lw_c11 C Z hX hbl hbA hL hcs h5 I J τ hCS hMM step
      · refine r_tabIn (off := 444) (tgt := 476) C (dk oL_law_0 21 rfl) (by decide) (by decide) (by decide) (by decide) ?_
        exact lw_c12 C Z hX hbl hbA hL hcs h5 I J τ hCS hMM step
      · refine r_tabIn (off := 467) (tgt := 499) C (dk oL_law_0 21 rfl) (by decide) (by decide) (by decide) (by decide) ?_
        exact lw_c13 C Z hX hbl hbA hL hcs h5 I J τ hCS hMM step
      · refine r_tabIn (off := 490) (tgt := 522) C (dk oL_law_0 21 rfl) (by decide) (by decide) (by decide) (by decide) ?_
        exact lw_c14 C Z hX hbl hbA hL hcs h5 I J τ hCS hMM step
      · refine r_tabIn (off := 523) (tgt := 555) C (dk oL_law_0 21 rfl) (by decide) (by decide) (by decide) (by decide) ?_
        exact lw_c15 C Z hX hbl hbA hL hcs h5 I J τ hCS hMM step
      · refine r_tabIn (off := 576) (tgt := 608) C (dk oL_law_0 21 rfl) (by decide) (by decide) (by decide) (by decide) ?_
        exact lw_c16 C Z hX hbl hbA hL hcs h5 I J τ hCS hMM step
      · refine r_tabIn (off := 625) (tgt := 657) C (dk oL_law_0 21 rfl) (by decide) (by decide) (by decide) (by decide) ?_
        exact lw_c17 C Z hX hbl hbA hL hcs h5 I J τ hCS hMM step
      · refine r_tabIn (off := 658) (tgt := 690) C (dk oL_law_0 21 rfl) (by decide) (by decide) (by decide) (by decide) ?_
        exact lw_c18 C Z hX hbl hbA hL hcs h5 I J τ hCS hMM step
      · refine r_tabIn (off := 681) (tgt := 713) C (dk oL_law_0 21 rfl) (by decide) (by decide) (by decide) (by decide) ?_
        exact lw_c19 C Z hX hbl hbA hL hcs h5 I J τ hCS hMM step
      · refine r_tabIn (off := 704) (tgt := 736) C (dk oL_law_0 21 rfl) (by decide) (by decide) (by decide) (by decide) ?_
        exact lw_c20 C Z hX hbl hbA hL hcs h5 I J τ hCS hMM step
      · refine r_tabIn (off := 727) (tgt := 759) C (dk oL_law_0 21 rfl) (by decide) (by decide) (by decide) (by decide) ?_
        exact lw_c21 C Z hX hbl hbA hL hcs h5 I J τ hCS hMM step
      · refine r_tabIn (off := 770) (tgt := 802) C (dk oL_law_0 21 rfl) (by decide) (by decide) (by decide) (by decide) ?_
        exact lw_c22 C Z hX hbl hbA hL hcs h5 I J τ hCS hMM step
      · refine r_tabIn (off := 803) (tgt := 835) C (dk oL_law_0 21 rfl) (by decide) (by decide) (by decide) (by decide) ?_
        exact lw_c23 C Z hX hbl hbA hL hcs h5 I J τ hCS hMM step
      · refine r_tabIn (off := 826) (tgt := 858) C (dk oL_law_0 21 rfl) (by decide) (by decide) (by decide) (by decide) ?_
        exact lw_c24 C Z hX hbl hbA hL hcs h5 I J τ hCS hMM step
      · refine r_tabIn (off := 849) (tgt := 881) C (dk oL_law_0 21 rfl) (by decide) (by decide) (by decide) (by decide) ?_
        exact lw_c25 C Z hX hbl hbA hL hcs h5 I J τ hCS hMM step
      · refine r_tabIn (off := 862) (tgt := 894) C (dk oL_law_0 21 rfl) (by decide) (by decide) (by decide) (by decide) ?_
        exact lw_c26 C Z hX hbl hbA hL hcs h5 I J τ hCS hMM step
      · refine r_tabIn (off := 885) (tgt := 917) C (dk oL_law_0 21 rfl) (by decide) (by decide) (by decide) (by decide) ?_
        exact lw_c27 C Z hX hbl hbA hL hcs h5 I J τ hCS hMM step
    · refine r_tabOut (tgt := 940) C (dk oL_law_0 21 rfl) hy (by decide) ?_
      exact step I J τ hCS hMM
theorem law_in1 {h0 : Nat} (hAD : AD h0 ad) (hst : ∀ k, k < 148 → ad (k + 1) = ad k + (liv k).toNat) (C : fC p s m args meth c cL_law 4 RL ret D cA (fun q => h0 ≤ q)) (Z : Str z (fun q => h0 ≤ q) s s.heap) (O : Ov s) (k : ∀ (H1 : Heap) (locs1 : List Loc) (ls : Array Slot) (I' : MI) (J' : MJ), CS I' J' s0 → va_P D vwCl (wsN 117 ad (mE cA ad I' J')) H1 → va_S (fun q => h0 ≤ q) s.heap H1 locs1 → lv_has ls 4 [(0, .ref b)] → W p l e room_1 s m args below meth c H1 locs1 114 2492 Q (F0 m 7 ls [.ref (ad 0)])) : VC p l e room_1 s m args below meth c Q D 4 0 0 h0 ad 0 (pE cA ad 0 iZ0 jZ) 0 [(0, .ref b)] [] := by
  refine k_new (cells' := 1) (slots' := 9) (fs := dfl_9) C (dk oL_law_0 0 rfl) kc_L_7 kp_X9 (ci := 9) rfl cw_9 tyX9 tyX9_ok (pE_new (fl := [some 1, some 3, some 6, some 8, some 38, some 45, some 52, some 55, some 116]) rfl rfl rfl) df_9 (hsl hst 0 (by decide) rfl) rfl rfl ⟨Nat.le_of_ble_eq_true rfl, Nat.le_of_ble_eq_true rfl⟩ ?_
  refine k_dup C (dk oL_law_0 1 rfl) rfl ?_
  exact k_run (cells' := 114) (slots' := 2492) hAD C Z O (dk oL_law_0 2 rfl) cl_L_9 ii_X9_init rfl (cc_X9_0 hAD hst) ⟨Nat.le_of_ble_eq_true rfl, Nat.le_of_ble_eq_true rfl⟩ (Nat.le_of_ble_eq_true rfl) rfl rfl ⟨Nat.le_of_ble_eq_true rfl, Nat.le_of_ble_eq_true rfl⟩ (fun H H1 locs1 ls U hU hB hz hS hl => by
    obtain ⟨I', J', h1, h2⟩ := hB
    rw [hU] at h2
    exact k H1 locs1 ls I' J' h1 h2 hS hl)
theorem law_in2 {h0 a0 : Nat} (hAD : AD h0 ad) (hst : ∀ k, 117 ≤ k → ad (k + 1) = ad k + 1) (C : fC p s m args meth c cL_law 4 RL ret D cA (fun q => h0 ≤ q)) (Z : Str z (fun q => h0 ≤ q) s s.heap) (O : Ov s) (ha : a0 = ad 0) (I : MI) (J : MJ) (hIz : ∀ k, 117 ≤ k → I k = fun _ => 0) (kk : V p l e room_1 s m args below meth c Q D (fun q => h0 ≤ q) 4 145 14045 148 ad (mE cA ad (up2 I 117 30 (-1)) J) 18 (lwL b ad 0) []) : VC p l e room_1 s m args below meth c Q D 4 114 2492 h0 ad 117 (pE cA ad 65 I J) 7 [(0, .ref b)] [.ref a0] := by
  subst ha
  refine k_astore_n C (dk oL_law_0 3 rfl) rfl (by decide) rfl ?_
  refine k_new (cells' := 115) (slots' := 2537) (fs := dfl_10) C (dk oL_law_0 4 rfl) kc_L_10 kp_X10 (ci := 10) rfl cw_10 tyX10 tyX10_ok (pE_new (fl := [some 118, some 119, some 120, some 121, some 122, some 123, some 124, some 125, some 126, some 127, some 128, some 129, some 130, some 131, some 132, some 133, some 134, none, some 135, some 136, some 137, some 138, some 139, some 140, some 141, none, none, none, none, none, none, some 142, none, none, some 143, none, none, none, some 144, none, some 145, some 146, some 147, none, none]) rfl rfl (hIz 117 (Nat.le_refl _))) df_10 (hst 117 (Nat.le_refl _)) rfl rfl ⟨Nat.le_of_ble_eq_true rfl, Nat.le_of_ble_eq_true rfl⟩ ?_
  refine k_dup C (dk oL_law_0 5 rfl) rfl ?_
  refine k_call (cells' := 145) (slots' := 14045) (n1 := 148) (E1 := pE cA ad 95 (up2 I 117 30 (-1)) J) hAD C Z O (dk oL_law_0 6 rfl) cl_L_12 ii_X10_init rfl (cc_X10_117 hAD hst I J hIz) ⟨Nat.le_of_ble_eq_true rfl, Nat.le_of_ble_eq_true rfl⟩ (Nat.le_of_ble_eq_true rfl) rfl rfl ⟨Nat.le_of_ble_eq_true rfl, Nat.le_of_ble_eq_true rfl⟩ ?_
  refine k_fin (Nat.le_refl _) hAD C (fun k hk => fullB_148 k hk) ?_
  refine r_astore_n C (dk oL_law_0 7 rfl) rfl (by decide) rfl ?_
  refine r_iconst C (dk oL_law_0 8 rfl) (v := nI 0) (by decide) ?_
  refine r_istore_n C (dk oL_law_0 9 rfl) rfl (by decide) rfl ?_
  exact kk
end LAW3
