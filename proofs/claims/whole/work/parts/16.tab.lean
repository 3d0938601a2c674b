section TAB
variable {l : Launch} {n : Nat} {ad : Nat → Nat} {cA : Nat → ClassId} {D : va_G} {z : Zw}
set_option maxHeartbeats 1000000 in
set_option maxRecDepth 100000 in
theorem c_X9_has (I : MI) (J : MJ) (a j : Nat) (ha : a < 2 ^ 31) (hj : j < 32) : Ci l n ad cA D z 0 yX9_has cX9_has 2 .boolean I J [.int (nI a), .int (nI j)] (fun r I' J' => r = b32 (a.testBit j) ∧ I' = I ∧ J' = J) := by
  refine Ci.of (by decide) (Nat.le_of_ble_eq_true rfl) ?_
  intro p e s m args below meth c A C hin Z Q hret
  refine r_iload_n C 0 (dk oX9_has 0 rfl) rfl ?_
  refine r_iload_n C 1 (dk oX9_has 1 rfl) rfl ?_
  refine r_ishr C (dk oX9_has 2 rfl) ?_
  refine r_iconst C (dk oX9_has 3 rfl) (v := nI 1) (by decide) ?_
  refine r_iand C (dk oX9_has 4 rfl) ?_
  rw [has_bit ha hj]
  refine r_if_eq (tgt := 12) C (dk oX9_has 5 rfl) (by decide) (fun hb5 => ?_) (fun hb5 => ?_)
  · rw [show nI (a.testBit j).toNat = b32 (a.testBit j) from rfl, b32_0] at hb5
    refine r_iconst C (dk oX9_has 8 rfl) (v := nI 0) (by decide) ?_
    refine hret (dk oX9_has 9 rfl) rfl ?_
    refine ⟨?_, rfl, rfl⟩
    rw [hb5]; rfl
  · rw [show nI (a.testBit j).toNat = b32 (a.testBit j) from rfl, b32_n] at hb5
    refine r_iconst C (dk oX9_has 6 rfl) (v := nI 1) (by decide) ?_
    refine r_goto (tgt := 13) C (dk oX9_has 7 rfl) (by decide) ?_
    refine hret (dk oX9_has 9 rfl) rfl ?_
    refine ⟨?_, rfl, rfl⟩
    rw [hb5]; rfl

set_option maxHeartbeats 1000000 in
set_option maxRecDepth 100000 in
theorem c_X9_isSide (I : MI) (J : MJ) (x : Int32) : Ci l n ad cA D z 0 yX9_isSide cX9_isSide 1 .boolean I J [.int x] (fun r I' J' => r = b32 (decide (0 ≤ x ∧ x < nI 2)) ∧ I' = I ∧ J' = J) := by
  refine Ci.of (by decide) (Nat.le_of_ble_eq_true rfl) ?_
  intro p e s m args below meth c A C hin Z Q hret
  refine r_iload_n C 0 (dk oX9_isSide 0 rfl) rfl ?_
  refine r_if_lt (tgt := 13) C (dk oX9_isSide 1 rfl) (by decide) (fun hb1 => ?_) (fun hb1 => ?_)
  · refine r_iconst C (dk oX9_isSide 7 rfl) (v := nI 0) (by decide) ?_
    refine hret (dk oX9_isSide 8 rfl) rfl ?_
    refine ⟨?_, rfl, rfl⟩
    first
      | (rw [decide_eq_false (fun q => fa_le 0 x |>.mp q.1 |> fun z => absurd hb1 (by rw [fa_lt]; omega))]; rfl)
      | (rw [decide_eq_false (fun q => by rw [fa_lt] at q; rw [fa_le] at hb6; omega)]; rfl)
      | (rw [decide_eq_true ⟨fa_of_nlt hb1, by rw [fa_lt]; rw [fa_le] at hb6; omega⟩]; rfl)
  · refine r_iload_n C 0 (dk oX9_isSide 2 rfl) rfl ?_
    refine r_iconst C (dk oX9_isSide 3 rfl) (v := nI 2) (by decide) ?_
    refine r_icmp_ge (tgt := 13) C (dk oX9_isSide 4 rfl) (by decide) (fun hb6 => ?_) (fun hb6 => ?_)
    · refine r_iconst C (dk oX9_isSide 7 rfl) (v := nI 0) (by decide) ?_
      refine hret (dk oX9_isSide 8 rfl) rfl ?_
      refine ⟨?_, rfl, rfl⟩
      first
        | (rw [decide_eq_false (fun q => fa_le 0 x |>.mp q.1 |> fun z => absurd hb1 (by rw [fa_lt]; omega))]; rfl)
        | (rw [decide_eq_false (fun q => by rw [fa_lt] at q; rw [fa_le] at hb6; omega)]; rfl)
        | (rw [decide_eq_true ⟨fa_of_nlt hb1, by rw [fa_lt]; rw [fa_le] at hb6; omega⟩]; rfl)
    · refine r_iconst C (dk oX9_isSide 5 rfl) (v := nI 1) (by decide) ?_
      refine r_goto (tgt := 14) C (dk oX9_isSide 6 rfl) (by decide) ?_
      refine hret (dk oX9_isSide 8 rfl) rfl ?_
      refine ⟨?_, rfl, rfl⟩
      first
        | (rw [decide_eq_false (fun q => fa_le 0 x |>.mp q.1 |> fun z => absurd hb1 (by rw [fa_lt]; omega))]; rfl)
        | (rw [decide_eq_false (fun q => by rw [fa_lt] at q; rw [fa_le] at hb6; omega)]; rfl)
        | (rw [decide_eq_true ⟨fa_of_nlt hb1, by rw [fa_lt]; rw [fa_le] at hb6; omega⟩]; rfl)

set_option maxHeartbeats 1000000 in
set_option maxRecDepth 100000 in
theorem c_X9_isFact (I : MI) (J : MJ) (x : Int32) : Ci l n ad cA D z 0 yX9_isFact cX9_isFact 1 .boolean I J [.int x] (fun r I' J' => r = b32 (decide (0 ≤ x ∧ x < nI 12)) ∧ I' = I ∧ J' = J) := by
  refine Ci.of (by decide) (Nat.le_of_ble_eq_true rfl) ?_
  intro p e s m args below meth c A C hin Z Q hret
  refine r_iload_n C 0 (dk oX9_isFact 0 rfl) rfl ?_
  refine r_if_lt (tgt := 14) C (dk oX9_isFact 1 rfl) (by decide) (fun hb1 => ?_) (fun hb1 => ?_)
  · refine r_iconst C (dk oX9_isFact 7 rfl) (v := nI 0) (by decide) ?_
    refine hret (dk oX9_isFact 8 rfl) rfl ?_
    refine ⟨?_, rfl, rfl⟩
    first
      | (rw [decide_eq_false (fun q => fa_le 0 x |>.mp q.1 |> fun z => absurd hb1 (by rw [fa_lt]; omega))]; rfl)
      | (rw [decide_eq_false (fun q => by rw [fa_lt] at q; rw [fa_le] at hb7; omega)]; rfl)
      | (rw [decide_eq_true ⟨fa_of_nlt hb1, by rw [fa_lt]; rw [fa_le] at hb7; omega⟩]; rfl)
  · refine r_iload_n C 0 (dk oX9_isFact 2 rfl) rfl ?_
    refine r_bipush C (dk oX9_isFact 3 rfl) (v := nI 12) (by decide) ?_
    refine r_icmp_ge (tgt := 14) C (dk oX9_isFact 4 rfl) (by decide) (fun hb7 => ?_) (fun hb7 => ?_)
    · refine r_iconst C (dk oX9_isFact 7 rfl) (v := nI 0) (by decide) ?_
      refine hret (dk oX9_isFact 8 rfl) rfl ?_
      refine ⟨?_, rfl, rfl⟩
      first
        | (rw [decide_eq_false (fun q => fa_le 0 x |>.mp q.1 |> fun z => absurd hb1 (by rw [fa_lt]; omega))]; rfl)
        | (rw [decide_eq_false (fun q => by rw [fa_lt] at q; rw [fa_le] at hb7; omega)]; rfl)
        | (rw [decide_eq_true ⟨fa_of_nlt hb1, by rw [fa_lt]; rw [fa_le] at hb7; omega⟩]; rfl)
    · refine r_iconst C (dk oX9_isFact 5 rfl) (v := nI 1) (by decide) ?_
      refine r_goto (tgt := 15) C (dk oX9_isFact 6 rfl) (by decide) ?_
      refine hret (dk oX9_isFact 8 rfl) rfl ?_
      refine ⟨?_, rfl, rfl⟩
      first
        | (rw [decide_eq_false (fun q => fa_le 0 x |>.mp q.1 |> fun z => absurd hb1 (by rw [fa_lt]; omega))]; rfl)
        | (rw [decide_eq_false (fun q => by rw [fa_lt] at q; rw [fa_le] at hb7; omega)]; rfl)
        | (rw [decide_eq_true ⟨fa_of_nlt hb1, by rw [fa_lt]; rw [fa_le] at hb7; omega⟩]; rfl)

set_option maxHeartbeats 1000000 in
set_option maxRecDepth 100000 in
theorem c_X9_isImage (I : MI) (J : MJ) (x : Int32) : Ci l n ad cA D z 0 yX9_isImage cX9_isImage 1 .boolean I J [.int x] (fun r I' J' => r = b32 (decide (0 ≤ x ∧ x < nI 2)) ∧ I' = I ∧ J' = J) := by
  refine Ci.of (by decide) (Nat.le_of_ble_eq_true rfl) ?_
  intro p e s m args below meth c A C hin Z Q hret
  refine r_iload_n C 0 (dk oX9_isImage 0 rfl) rfl ?_
  refine r_if_lt (tgt := 13) C (dk oX9_isImage 1 rfl) (by decide) (fun hb1 => ?_) (fun hb1 => ?_)
  · refine r_iconst C (dk oX9_isImage 7 rfl) (v := nI 0) (by decide) ?_
    refine hret (dk oX9_isImage 8 rfl) rfl ?_
    refine ⟨?_, rfl, rfl⟩
    first
      | (rw [decide_eq_false (fun q => fa_le 0 x |>.mp q.1 |> fun z => absurd hb1 (by rw [fa_lt]; omega))]; rfl)
      | (rw [decide_eq_false (fun q => by rw [fa_lt] at q; rw [fa_le] at hb6; omega)]; rfl)
      | (rw [decide_eq_true ⟨fa_of_nlt hb1, by rw [fa_lt]; rw [fa_le] at hb6; omega⟩]; rfl)
  · refine r_iload_n C 0 (dk oX9_isImage 2 rfl) rfl ?_
    refine r_iconst C (dk oX9_isImage 3 rfl) (v := nI 2) (by decide) ?_
    refine r_icmp_ge (tgt := 13) C (dk oX9_isImage 4 rfl) (by decide) (fun hb6 => ?_) (fun hb6 => ?_)
    · refine r_iconst C (dk oX9_isImage 7 rfl) (v := nI 0) (by decide) ?_
      refine hret (dk oX9_isImage 8 rfl) rfl ?_
      refine ⟨?_, rfl, rfl⟩
      first
        | (rw [decide_eq_false (fun q => fa_le 0 x |>.mp q.1 |> fun z => absurd hb1 (by rw [fa_lt]; omega))]; rfl)
        | (rw [decide_eq_false (fun q => by rw [fa_lt] at q; rw [fa_le] at hb6; omega)]; rfl)
        | (rw [decide_eq_true ⟨fa_of_nlt hb1, by rw [fa_lt]; rw [fa_le] at hb6; omega⟩]; rfl)
    · refine r_iconst C (dk oX9_isImage 5 rfl) (v := nI 1) (by decide) ?_
      refine r_goto (tgt := 14) C (dk oX9_isImage 6 rfl) (by decide) ?_
      refine hret (dk oX9_isImage 8 rfl) rfl ?_
      refine ⟨?_, rfl, rfl⟩
      first
        | (rw [decide_eq_false (fun q => fa_le 0 x |>.mp q.1 |> fun z => absurd hb1 (by rw [fa_lt]; omega))]; rfl)
        | (rw [decide_eq_false (fun q => by rw [fa_lt] at q; rw [fa_le] at hb6; omega)]; rfl)
        | (rw [decide_eq_true ⟨fa_of_nlt hb1, by rw [fa_lt]; rw [fa_le] at hb6; omega⟩]; rfl)

set_option maxHeartbeats 1000000 in
set_option maxRecDepth 100000 in
theorem c_J6_bitCount_0f7a4 (I : MI) (J : MJ) (a : Nat) (ha : a < 65536) : Ci l n ad cA D z 0 yJ6_bitCount_0f7a4 cJ6_bitCount_0f7a4 1 .int I J [.int (nI a)] (fun r I' J' => r = nI (pc a) ∧ I' = I ∧ J' = J) := by
  refine Ci.of (by decide) (Nat.le_of_ble_eq_true rfl) ?_
  intro p e s m args below meth c A C hin Z Q hret
  refine r_iload_n C 0 (dk oJ6_bitCount_0f7a4 0 rfl) rfl ?_
  refine r_iload_n C 0 (dk oJ6_bitCount_0f7a4 1 rfl) rfl ?_
  refine r_iconst C (dk oJ6_bitCount_0f7a4 2 rfl) (v := nI 1) (by decide) ?_
  refine r_iushr C (dk oJ6_bitCount_0f7a4 3 rfl) ?_
  rw [pk_ushrN (by omega) _ 1 (by decide)]
  refine r_ldcw C (dk oJ6_bitCount_0f7a4 4 rfl) kn_J6_265 ?_
  rw [show (1431655765 : Int32) = nI 1431655765 from rfl]
  refine r_iand C (dk oJ6_bitCount_0f7a4 5 rfl) ?_
  rw [fa_and]
  refine r_isub C (dk oJ6_bitCount_0f7a4 6 rfl) ?_
  rw [pk_sub (show a / 2 ^ 1 &&& 1431655765 ≤ a from Nat.le_trans Nat.and_le_left (by omega))]
  generalize e1_ : a - (a / 2 ^ 1 &&& 1431655765) = i1
  have h1_ : i1 ≤ a := by omega
  refine r_istore_n (lo' := [(0, _)]) C (dk oJ6_bitCount_0f7a4 7 rfl) rfl (by decide) rfl ?_
  refine r_iload_n C 0 (dk oJ6_bitCount_0f7a4 8 rfl) rfl ?_
  refine r_ldcw C (dk oJ6_bitCount_0f7a4 9 rfl) kn_J6_266 ?_
  rw [show (858993459 : Int32) = nI 858993459 from rfl]
  refine r_iand C (dk oJ6_bitCount_0f7a4 10 rfl) ?_
  rw [fa_and]
  refine r_iload_n C 0 (dk oJ6_bitCount_0f7a4 11 rfl) rfl ?_
  refine r_iconst C (dk oJ6_bitCount_0f7a4 12 rfl) (v := nI 2) (by decide) ?_
  refine r_iushr C (dk oJ6_bitCount_0f7a4 13 rfl) ?_
  rw [pk_ushrN (by omega) _ 2 (by decide)]
  refine r_ldcw C (dk oJ6_bitCount_0f7a4 14 rfl) kn_J6_266 ?_
  rw [show (858993459 : Int32) = nI 858993459 from rfl]
  refine r_iand C (dk oJ6_bitCount_0f7a4 15 rfl) ?_
  rw [fa_and]
  refine r_iadd C (dk oJ6_bitCount_0f7a4 16 rfl) ?_
  rw [nI_add]
  generalize e2_ : (i1 &&& 858993459) + (i1 / 2 ^ 2 &&& 858993459) = i2
  have h2_ : i2 ≤ i1 + i1 / 4 := by rw [← e2_]; exact Nat.add_le_add Nat.and_le_left Nat.and_le_left
  refine r_istore_n (lo' := [(0, _)]) C (dk oJ6_bitCount_0f7a4 17 rfl) rfl (by decide) rfl ?_
  refine r_iload_n C 0 (dk oJ6_bitCount_0f7a4 18 rfl) rfl ?_
  refine r_iload_n C 0 (dk oJ6_bitCount_0f7a4 19 rfl) rfl ?_
  refine r_iconst C (dk oJ6_bitCount_0f7a4 20 rfl) (v := nI 4) (by decide) ?_
  refine r_iushr C (dk oJ6_bitCount_0f7a4 21 rfl) ?_
  rw [pk_ushrN (by omega) _ 4 (by decide)]
  refine r_iadd C (dk oJ6_bitCount_0f7a4 22 rfl) ?_
  rw [nI_add]
  refine r_ldcw C (dk oJ6_bitCount_0f7a4 23 rfl) kn_J6_267 ?_
  rw [show (252645135 : Int32) = nI 252645135 from rfl]
  refine r_iand C (dk oJ6_bitCount_0f7a4 24 rfl) ?_
  rw [fa_and]
  generalize e3_ : i2 + i2 / 2 ^ 4 &&& 252645135 = i3
  have h3_ : i3 ≤ i2 + i2 / 16 := by rw [← e3_]; exact Nat.and_le_left
  refine r_istore_n (lo' := [(0, _)]) C (dk oJ6_bitCount_0f7a4 25 rfl) rfl (by decide) rfl ?_
  refine r_iload_n C 0 (dk oJ6_bitCount_0f7a4 26 rfl) rfl ?_
  refine r_iload_n C 0 (dk oJ6_bitCount_0f7a4 27 rfl) rfl ?_
  refine r_bipush C (dk oJ6_bitCount_0f7a4 28 rfl) (v := nI 8) (by decide) ?_
  refine r_iushr C (dk oJ6_bitCount_0f7a4 29 rfl) ?_
  rw [pk_ushrN (by omega) _ 8 (by decide)]
  refine r_iadd C (dk oJ6_bitCount_0f7a4 30 rfl) ?_
  rw [nI_add]
  generalize e4_ : i3 + i3 / 2 ^ 8 = i4
  refine r_istore_n (lo' := [(0, _)]) C (dk oJ6_bitCount_0f7a4 31 rfl) rfl (by decide) rfl ?_
  refine r_iload_n C 0 (dk oJ6_bitCount_0f7a4 32 rfl) rfl ?_
  refine r_iload_n C 0 (dk oJ6_bitCount_0f7a4 33 rfl) rfl ?_
  refine r_bipush C (dk oJ6_bitCount_0f7a4 34 rfl) (v := nI 16) (by decide) ?_
  refine r_iushr C (dk oJ6_bitCount_0f7a4 35 rfl) ?_
  rw [pk_ushrN (by omega) _ 16 (by decide)]
  refine r_iadd C (dk oJ6_bitCount_0f7a4 36 rfl) ?_
  rw [nI_add]
  refine r_istore_n (lo' := [(0, _)]) C (dk oJ6_bitCount_0f7a4 37 rfl) rfl (by decide) rfl ?_
  refine r_iload_n C 0 (dk oJ6_bitCount_0f7a4 38 rfl) rfl ?_
  refine r_bipush C (dk oJ6_bitCount_0f7a4 39 rfl) (v := nI 63) (by decide) ?_
  refine r_iand C (dk oJ6_bitCount_0f7a4 40 rfl) ?_
  rw [fa_and]
  refine hret (dk oJ6_bitCount_0f7a4 41 rfl) rfl ?_
  refine ⟨?_, rfl, rfl⟩
  rw [← bcN_pc ha, ← e4_, ← e3_, ← e2_, ← e1_]
  rfl

set_option maxHeartbeats 1000000 in
set_option maxRecDepth 100000 in
theorem c_X9_setsWithin (I : MI) (J : MJ) (a : Nat) (ha : a < 65536) : Ci l n ad cA D z 1 yX9_setsWithin cX9_setsWithin 1 .int I J [.int (nI a)] (fun r I' J' => r = nI (2 ^ pc a) ∧ I' = I ∧ J' = J) := by
  refine Ci.of (by decide) (Nat.le_of_ble_eq_true rfl) ?_
  intro p e s m args below meth c A C hin Z Q hret
  refine r_iconst C (dk oX9_setsWithin 0 rfl) (v := nI 1) (by decide) ?_
  refine r_iload_n C 0 (dk oX9_setsWithin 1 rfl) rfl ?_
  refine r_isi C Z (dk oX9_setsWithin 2 rfl) cl_X9_202 st_J6_bitCount_0f7a4 (c_J6_bitCount_0f7a4 I J a ha) rfl rfl (Nat.le_of_ble_eq_true rfl) ⟨Nat.le_of_ble_eq_true rfl, Nat.le_of_ble_eq_true rfl⟩ ⟨Nat.zero_le _, Nat.zero_le _⟩ (fun r2 I2 J2 h2 => ?_)
  obtain ⟨h2, e1_, e2_⟩ := h2
  have e1_ := e1_.symm
  have e2_ := e2_.symm
  subst e1_
  subst e2_
  subst h2
  refine r_ishl C (dk oX9_setsWithin 3 rfl) ?_
  refine hret (dk oX9_setsWithin 4 rfl) rfl ?_
  exact ⟨shl1 (by have := pc_le a; omega), rfl, rfl⟩

set_option maxHeartbeats 1000000 in
set_option maxRecDepth 100000 in
theorem c_X9_nextSet (I : MI) (J : MJ) (i w : Nat) (hw : w < 65536) : Ci l n ad cA D z 0 yX9_nextSet cX9_nextSet 2 .int I J [.int (nI (pd i w)), .int (nI w)] (fun r I' J' => r = nI (pd (i + 1) w) ∧ I' = I ∧ J' = J) := by
  refine Ci.of (by decide) (Nat.le_of_ble_eq_true rfl) ?_
  intro p e s m args below meth c A C hin Z Q hret
  refine r_iload_n C 0 (dk oX9_nextSet 0 rfl) rfl ?_
  refine r_iload_n C 1 (dk oX9_nextSet 1 rfl) rfl ?_
  refine r_isub C (dk oX9_nextSet 2 rfl) ?_
  refine r_iload_n C 1 (dk oX9_nextSet 3 rfl) rfl ?_
  refine r_iand C (dk oX9_nextSet 4 rfl) ?_
  refine hret (dk oX9_nextSet 5 rfl) rfl ?_
  exact ⟨pd_next hw, rfl, rfl⟩

set_option maxHeartbeats 1000000 in
set_option maxRecDepth 100000 in
theorem c_X9_isFewer (I : MI) (J : MJ) (a : Nat) (ha : a < 65536) (b : Nat) (x : Int32) (hx : x = -1 ∨ (x = nI b ∧ b < 65536)) : Ci l n ad cA D z 1 yX9_isFewer cX9_isFewer 2 .boolean I J [.int (nI a), .int x] (fun r I' J' => r = b32 (decide (x = -1 ∨ pc a < pc b)) ∧ I' = I ∧ J' = J) := by
  refine Ci.of (by decide) (Nat.le_of_ble_eq_true rfl) ?_
  intro p e s m args below meth c A C hin Z Q hret
  refine r_iload_n C 1 (dk oX9_isFewer 0 rfl) rfl ?_
  refine r_iconst C (dk oX9_isFewer 1 rfl) (v := -1) (by decide) ?_
  refine r_icmp_eq (tgt := 16) C (dk oX9_isFewer 2 rfl) (by decide) (fun hb2 => ?_) (fun hb2 => ?_)
  · refine r_iconst C (dk oX9_isFewer 8 rfl) (v := nI 1) (by decide) ?_
    refine r_goto (tgt := 21) C (dk oX9_isFewer 9 rfl) (by decide) ?_
    refine hret (dk oX9_isFewer 11 rfl) rfl ?_
    refine ⟨?_, rfl, rfl⟩
    first
      | (rw [decide_eq_true (Or.inl hb2)]; rfl)
      | (rw [decide_eq_true (Or.inr (by omega))]; rfl)
      | (rw [decide_eq_false (fun q => q.elim hb2 (fun q => by omega))]; rfl)
  · refine r_iload_n C 0 (dk oX9_isFewer 3 rfl) rfl ?_
    refine r_isi C Z (dk oX9_isFewer 4 rfl) cl_X9_202 st_J6_bitCount_0f7a4 (c_J6_bitCount_0f7a4 I J a ha) rfl rfl (Nat.le_of_ble_eq_true rfl) ⟨Nat.le_of_ble_eq_true rfl, Nat.le_of_ble_eq_true rfl⟩ ⟨Nat.zero_le _, Nat.zero_le _⟩ (fun r6 I6 J6 h6 => ?_)
    obtain ⟨h6, e1_, e2_⟩ := h6
    have e1_ := e1_.symm
    have e2_ := e2_.symm
    subst e1_
    subst e2_
    subst h6
    have hx := hx.resolve_left hb2
    rw [hx.1]
    refine r_iload_n C 1 (dk oX9_isFewer 5 rfl) rfl ?_
    refine r_isi C Z (dk oX9_isFewer 6 rfl) cl_X9_202 st_J6_bitCount_0f7a4 (c_J6_bitCount_0f7a4 I J b hx.2) rfl rfl (Nat.le_of_ble_eq_true rfl) ⟨Nat.le_of_ble_eq_true rfl, Nat.le_of_ble_eq_true rfl⟩ ⟨Nat.zero_le _, Nat.zero_le _⟩ (fun r10 I10 J10 h10 => ?_)
    obtain ⟨h10, e1_, e2_⟩ := h10
    have e1_ := e1_.symm
    have e2_ := e2_.symm
    subst e1_
    subst e2_
    subst h10
    have p1 := pc_le a
    have p2 := pc_le b
    refine r_icmp_ge (tgt := 20) C (dk oX9_isFewer 7 rfl) (by decide) (fun hb13 => ?_) (fun hb13 => ?_)
    · simp (disch := omega) only [nI_leI, nI_ltI, nI_eq, nI_eq0] at hb13
      refine r_iconst C (dk oX9_isFewer 10 rfl) (v := nI 0) (by decide) ?_
      refine hret (dk oX9_isFewer 11 rfl) rfl ?_
      refine ⟨?_, rfl, rfl⟩
      first
        | (rw [decide_eq_true (Or.inl hb2)]; rfl)
        | (rw [decide_eq_true (Or.inr (by omega))]; rfl)
        | (rw [decide_eq_false (fun q => q.elim hb2 (fun q => by omega))]; rfl)
    · simp (disch := omega) only [nI_leI, nI_ltI, nI_eq, nI_eq0] at hb13
      refine r_iconst C (dk oX9_isFewer 8 rfl) (v := nI 1) (by decide) ?_
      refine r_goto (tgt := 21) C (dk oX9_isFewer 9 rfl) (by decide) ?_
      refine hret (dk oX9_isFewer 11 rfl) rfl ?_
      refine ⟨?_, rfl, rfl⟩
      first
        | (rw [decide_eq_true (Or.inl hb2)]; rfl)
        | (rw [decide_eq_true (Or.inr (by omega))]; rfl)
        | (rw [decide_eq_false (fun q => q.elim hb2 (fun q => by omega))]; rfl)

set_option maxHeartbeats 1000000 in
set_option maxRecDepth 100000 in
theorem c_X0_factWord (I : MI) (J : MJ) (f w : Nat) (hf : f < 12) (hw : w < 64) : Cl l n ad cA D z 1 yX0_factWord cX0_factWord 2 I J [.int (nI f), .int (nI w)] (fun r I' J' => (∀ k, k < 64 → lb r k = (64 * w + k).testBit f) ∧ I' = I ∧ J' = J) := by
  refine Cl.of (by decide) (Nat.le_of_ble_eq_true rfl) ?_
  intro p e s m args below meth c A C hin Z Q hret
  refine r_iload_n C 0 (dk oX0_factWord 0 rfl) rfl ?_
  refine r_if_lt (tgt := 18) C (dk oX0_factWord 1 rfl) (by decide) (fun hb1 => absurd hb1 (nI_lt0 (by omega))) (fun hb1 => ?_)
  refine r_iload_n C 0 (dk oX0_factWord 2 rfl) rfl ?_
  refine r_gets C (dk oX0_factWord 3 rfl) kf_X0_105 Z.2.2.1 ?_
  refine r_tlen C (dk oX0_factWord 4 rfl) Z.2.2.2.1 ?_
  refine r_icmp_ge (tgt := 18) C (dk oX0_factWord 5 rfl) (by decide) (fun hb9 => ?_) (fun hb9 => ?_)
  · simp (disch := omega) only [nI_leI, nI_ltI, nI_eq, nI_eq0] at hb9
    refine r_iload_n C 1 (dk oX0_factWord 10 rfl) rfl ?_
    refine r_iload_n C 0 (dk oX0_factWord 11 rfl) rfl ?_
    refine r_gets C (dk oX0_factWord 12 rfl) kf_X0_105 Z.2.2.1 ?_
    refine r_tlen C (dk oX0_factWord 13 rfl) Z.2.2.2.1 ?_
    refine r_isub C (dk oX0_factWord 14 rfl) ?_
    rw [pk_sub (by omega)]
    refine r_isi C Z (dk oX0_factWord 15 rfl) cl_X0_108 st_X9_has (c_X9_has I J w (f - 6) (by omega) (by omega)) rfl rfl (Nat.le_of_ble_eq_true rfl) ⟨Nat.le_of_ble_eq_true rfl, Nat.le_of_ble_eq_true rfl⟩ ⟨Nat.zero_le _, Nat.zero_le _⟩ (fun r25 I25 J25 h25 => ?_)
    obtain ⟨h25, e1_, e2_⟩ := h25
    have e1_ := e1_.symm
    have e2_ := e2_.symm
    subst e1_
    subst e2_
    subst h25
    refine r_if_eq (tgt := 37) C (dk oX0_factWord 16 rfl) (by decide) (fun hb28 => ?_) (fun hb28 => ?_)
    · rw [b32_0] at hb28
      refine r_lconst C (dk oX0_factWord 19 rfl) (v := 0) (by decide) ?_
      refine hret (dk oX0_factWord 20 rfl) ?_
      refine ⟨fun k hk => ?_, rfl, rfl⟩
      rw [tb_hi hk (by omega), hb28]
      first | exact lb_0 k hk | exact lb_m1 k hk
    · rw [b32_n] at hb28
      refine r_ldc2 C (dk oX0_factWord 17 rfl) kn_X0_103 ?_
      refine r_goto (tgt := 38) C (dk oX0_factWord 18 rfl) (by decide) ?_
      refine hret (dk oX0_factWord 20 rfl) ?_
      refine ⟨fun k hk => ?_, rfl, rfl⟩
      rw [tb_hi hk (by omega), hb28]
      first | exact lb_0 k hk | exact lb_m1 k hk
  · simp (disch := omega) only [nI_leI, nI_ltI, nI_eq, nI_eq0] at hb9
    refine r_gets C (dk oX0_factWord 6 rfl) kf_X0_105 Z.2.2.1 ?_
    refine r_iload_n C 0 (dk oX0_factWord 7 rfl) rfl ?_
    refine r_tl C (dk oX0_factWord 8 rfl) Z.2.2.2.1 (by omega) (by decide) ?_
    refine hret (dk oX0_factWord 9 rfl) ?_
    exact ⟨fun k hk => by rw [tb_lo hk (by omega)]; exact lb_low f (by omega) k hk, rfl, rfl⟩

set_option maxHeartbeats 1000000 in
set_option maxRecDepth 100000 in
theorem c_X0_wordOf (hn : 117 ≤ n) (I : MI) (J : MJ) (w : Nat) (hw : w < 64) (C_ : List Nat) (hC : Cd I C_) (hd1 : dOK 20 C_ 0 1) (hlt : ∀ x ∈ C_, x < 15) : Cl l n ad cA D z 2 yX0_wordOf cX0_wordOf 7 I J [.ref (ad 3), .int (nI w)] (fun r I' J' => tbW C_ w r ∧ I' = I ∧ ∀ k, k ≠ 5 → J' k = J k) := by
  refine Cl.of (by decide) (Nat.le_of_ble_eq_true rfl) ?_
  intro p e s m args below meth c A C hin Z Q hret
  obtain ⟨c1, c2, c3, -⟩ := hC
  refine r_iconst C (dk oX0_wordOf 0 rfl) (v := nI 0) (by decide) ?_
  refine r_istore_n (lo' := [(2, _), (0, _), (1, _)]) C (dk oX0_wordOf 1 rfl) rfl (by decide) rfl ?_
  refine r_iconst C (dk oX0_wordOf 2 rfl) (v := nI 0) (by decide) ?_
  refine r_istore_n (lo' := [(3, _), (2, _), (0, _), (1, _)]) C (dk oX0_wordOf 3 rfl) rfl (by decide) rfl ?_
  have L4 : ∀ (d_ : Nat) (i top : Nat) (J1 : MJ) (F : Nat → Nat → Bool), C_.length - i < d_ → i ≤ C_.length → top ≤ 20 → dOK 20 (C_.drop i) top 1 → (∀ k, k < 64 → evC C_ (64 * w + k) = (evF (fun f => (64 * w + k).testBit f) (C_.drop i) top (F k)).2 0) → (∀ k j, k < 64 → j < top → lb (J1 5 j) k = F k j) → (∀ k, k ≠ 5 → J1 k = J k) → V p l e (rmL 2) s m args below meth c Q D A 7 0 0 n ad (mE cA ad I J1) 4 [(0, .ref (ad 3)), (1, .int (nI w)), (2, .int (nI top)), (3, .int (nI i))] [] := by
    intro d_
    induction d_ with
    | zero => intros; exact absurd (by assumption) (Nat.not_lt_zero _)
    | succ d_ ih => 
      intro i top J1 F hd_ hi ht hdo hev hbits hJ
      refine r_iload_n C 3 (dk oX0_wordOf 4 rfl) rfl ?_
      refine r_aload_n C 0 (dk oX0_wordOf 5 rfl) rfl ?_
      refine r_getI C (dk oX0_wordOf 6 rfl) fl_X0_19 rfl (kn hn rfl) ?_
      rw [c2]
      refine r_icmp_ge (tgt := 149) C (dk oX0_wordOf 7 rfl) (by decide) (fun hb9 => ?_) (fun hb9 => ?_)
      · simp (disch := omega) only [nI_leI, nI_ltI, nI_eq, nI_eq0] at hb9
        refine r_aload_n C 0 (dk oX0_wordOf 86 rfl) rfl ?_
        refine r_getR C (dk oX0_wordOf 87 rfl) fl_X0_15 rfl (kn hn rfl) ?_
        refine r_iconst C (dk oX0_wordOf 88 rfl) (v := nI 0) (by decide) ?_
        refine r_lald C _ (dk oX0_wordOf 89 rfl) rfl (kn hn rfl) rfl (by omega) (by decide) ?_
        refine hret (dk oX0_wordOf 90 rfl) ?_
        refine ⟨fun k hk => ?_, rfl, hJ⟩
        have e0 : C_.drop i = [] := List.drop_eq_nil_iff.mpr (by omega)
        rw [e0] at hdo
        have hdo : top = 1 := hdo
        subst hdo
        rw [hev k hk, e0, hbits k 0 hk (by omega)]
        rfl
      · simp (disch := omega) only [nI_leI, nI_ltI, nI_eq, nI_eq0] at hb9
        have hb9 : i < C_.length := by omega
        refine r_aload_n C 0 (dk oX0_wordOf 8 rfl) rfl ?_
        refine r_getR C (dk oX0_wordOf 9 rfl) fl_X0_9 rfl (kn hn rfl) ?_
        refine r_iload_n C 3 (dk oX0_wordOf 10 rfl) rfl ?_
        refine r_iald C _ (dk oX0_wordOf 11 rfl) rfl (kn hn rfl) rfl (by omega) (by decide) ?_
        have hx15 : C_.getD i 0 < 15 := hlt _ (getD_mem hb9)
        have hdr := drop_c hb9
        have hdq := hdo
        rw [hdr] at hdq
        have hdq : (if C_.getD i 0 < 12 then top + 1 ≤ 20 ∧ dOK 20 (C_.drop (i + 1)) (top + 1) 1 else if C_.getD i 0 = 12 then 1 ≤ top ∧ dOK 20 (C_.drop (i + 1)) top 1 else 2 ≤ top ∧ dOK 20 (C_.drop (i + 1)) (top - 1) 1) := hdq
        rw [c3 i hb9]
        refine r_istore (lo' := [(4, _), (0, _), (1, _), (2, _), (3, _)]) C (dk oX0_wordOf 12 rfl) (by decide) rfl ?_
        refine r_iload C 0 (dk oX0_wordOf 13 rfl) rfl ?_
        refine r_bipush C (dk oX0_wordOf 14 rfl) (v := nI 12) (by decide) ?_
        refine r_icmp_ge (tgt := 54) C (dk oX0_wordOf 15 rfl) (by decide) (fun hb24 => ?_) (fun hb24 => ?_)
        · simp (disch := omega) only [nI_leI, nI_ltI, nI_eq, nI_eq0] at hb24
          have hb24x : ¬ C_.getD i 0 < 12 := by omega
          rw [if_neg hb24x] at hdq
          refine r_iload C 0 (dk oX0_wordOf 30 rfl) rfl ?_
          refine r_bipush C (dk oX0_wordOf 31 rfl) (v := nI 12) (by decide) ?_
          refine r_icmp_ne (tgt := 89) C (dk oX0_wordOf 32 rfl) (by decide) (fun hb58 => ?_) (fun hb58 => ?_)
          · simp (disch := omega) only [nI_leI, nI_ltI, nI_eq, nI_eq0] at hb58
            rw [if_neg hb58] at hdq
            refine r_iload_n C 3 (dk oX0_wordOf 51 rfl) rfl ?_
            refine r_iconst C (dk oX0_wordOf 52 rfl) (v := nI 2) (by decide) ?_
            refine r_icmp_lt (tgt := 143) C (dk oX0_wordOf 53 rfl) (by decide) (fun hb91 => absurd hb91 (by rw [nI_ltI (by omega) (by omega)]; omega)) (fun hb91 => ?_)
            refine r_iinc (lo' := [(2, _), (4, _), (0, _), (1, _), (3, _)]) C 3 (dk oX0_wordOf 54 rfl) rfl (nI_dec (by omega)) (by decide) rfl ?_
            refine r_aload_n C 2 (dk oX0_wordOf 55 rfl) rfl ?_
            refine r_getR C (dk oX0_wordOf 56 rfl) fl_X0_15 rfl (kn hn rfl) ?_
            refine r_iload_n C 0 (dk oX0_wordOf 57 rfl) rfl ?_
            refine r_iconst C (dk oX0_wordOf 58 rfl) (v := nI 1) (by decide) ?_
            refine r_isub C (dk oX0_wordOf 59 rfl) ?_
            rw [pk_sub (by omega)]
            refine r_lald C _ (dk oX0_wordOf 60 rfl) rfl (kn hn rfl) rfl (by omega) (by decide) ?_
            refine r_lstore (lo' := [(5, _), (2, _), (4, _), (0, _), (1, _), (3, _)]) C (dk oX0_wordOf 61 rfl) (by decide) rfl ?_
            refine r_aload_n C 3 (dk oX0_wordOf 62 rfl) rfl ?_
            refine r_getR C (dk oX0_wordOf 63 rfl) fl_X0_15 rfl (kn hn rfl) ?_
            refine r_iload_n C 1 (dk oX0_wordOf 64 rfl) rfl ?_
            refine r_iconst C (dk oX0_wordOf 65 rfl) (v := nI 1) (by decide) ?_
            refine r_isub C (dk oX0_wordOf 66 rfl) ?_
            rw [pk_sub (by omega)]
            refine r_iload C 2 (dk oX0_wordOf 67 rfl) rfl ?_
            refine r_bipush C (dk oX0_wordOf 68 rfl) (v := nI 13) (by decide) ?_
            refine r_icmp_ne (tgt := 133) C (dk oX0_wordOf 69 rfl) (by decide) (fun hb118 => ?_) (fun hb118 => ?_)
            · simp (disch := omega) only [nI_leI, nI_ltI, nI_eq, nI_eq0] at hb118
              refine r_lload C 0 (dk oX0_wordOf 77 rfl) rfl ?_
              refine r_aload_n C 3 (dk oX0_wordOf 78 rfl) rfl ?_
              refine r_getR C (dk oX0_wordOf 79 rfl) fl_X0_15 rfl (kn hn rfl) ?_
              refine r_iload_n C 1 (dk oX0_wordOf 80 rfl) rfl ?_
              refine r_lald C _ (dk oX0_wordOf 81 rfl) rfl (kn hn rfl) rfl (by omega) (by decide) ?_
              refine r_lor C (dk oX0_wordOf 82 rfl) ?_
              refine r_last C _ (dk oX0_wordOf 83 rfl) rfl (kn hn rfl) rfl (by omega) (by decide) ?_
              refine r_iinc (lo' := [(3, _), (5, _), (2, _), (4, _), (0, _), (1, _)]) C 5 (dk oX0_wordOf 84 rfl) rfl (by first | exact nI_inc _ | rfl) (by decide) rfl ?_
              refine r_goto (tgt := 4) C (dk oX0_wordOf 85 rfl) (by decide) ?_
              refine V.sub [4, 5, 2, 0] rfl ?_
              have hdo2 := hdo
              rw [hdr] at hdo2
              have hdo2 : (if C_.getD i 0 < 12 then top + 1 ≤ 20 ∧ dOK 20 (C_.drop (i + 1)) (top + 1) 1 else if C_.getD i 0 = 12 then 1 ≤ top ∧ dOK 20 (C_.drop (i + 1)) top 1 else 2 ≤ top ∧ dOK 20 (C_.drop (i + 1)) (top - 1) 1) := hdo2
              first
                | (rw [if_pos hb24] at hdo2
                   refine ih (i + 1) (top + 1) _ (fun k j => if j = top then (64 * w + k).testBit (C_.getD i 0) else F k j) (by omega) (by omega) hdo2.1 hdo2.2 (fun k hk => ?_) (fun k j hk hj => ?_) (fun k hk => by rw [upL_ne hk]; exact hJ k hk)
                   · rw [hev k hk, hdr]
                     conv => lhs; unfold evF
                     rw [if_pos hb24]
                   · by_cases e : j = top
                     · subst e
                       rw [upL_at, if_pos rfl]
                       exact h44 k hk
                     · rw [upL_off e, if_neg e]
                       exact hbits k j hk (by omega))
                | (rw [if_neg hb24x, if_pos hb58] at hdo2
                   refine ih (i + 1) top _ (fun k j => if j = top - 1 then !(F k j) else F k j) (by omega) (by omega) ht hdo2.2 (fun k hk => ?_) (fun k j hk hj => ?_) (fun k hk => by rw [upL_ne hk]; exact hJ k hk)
                   · rw [hev k hk, hdr]
                     conv => lhs; unfold evF
                     rw [if_neg hb24x, if_pos hb58]
                   · by_cases e : j = top - 1
                     · rw [e, upL_at, if_pos rfl, lb_not _ k hk, hbits k _ hk (by omega)]
                     · rw [upL_off e, if_neg e]
                       exact hbits k j hk hj)
                | (rw [if_neg hb24x, if_neg hb58] at hdo2
                   refine ih (i + 1) (top - 1) _ (fun k j => if j = top - 2 then (if C_.getD i 0 = 13 then F k (top - 2) && F k (top - 1) else F k (top - 2) || F k (top - 1)) else F k j) (by omega) (by omega) (by omega) hdo2.2 (fun k hk => ?_) (fun k j hk hj => ?_) (fun k hk => by rw [upL_ne hk]; exact hJ k hk)
                   · rw [hev k hk, hdr]
                     conv => lhs; unfold evF
                     rw [if_neg hb24x, if_neg hb58]
                   · by_cases e : j = top - 2
                     · rw [e, show top - 1 - 1 = top - 2 by omega, upL_at, if_pos rfl]
                       first
                         | rw [if_pos hb118, lb_and, hbits k _ hk (by omega), hbits k _ hk (by omega)]
                         | rw [if_neg hb118, lb_or, hbits k _ hk (by omega), hbits k _ hk (by omega)]
                     · rw [show top - 1 - 1 = top - 2 by omega, upL_off e, if_neg e]
                       exact hbits k j hk (by omega))
            · simp (disch := omega) only [nI_leI, nI_ltI, nI_eq, nI_eq0] at hb118
              refine r_lload C 0 (dk oX0_wordOf 70 rfl) rfl ?_
              refine r_aload_n C 3 (dk oX0_wordOf 71 rfl) rfl ?_
              refine r_getR C (dk oX0_wordOf 72 rfl) fl_X0_15 rfl (kn hn rfl) ?_
              refine r_iload_n C 1 (dk oX0_wordOf 73 rfl) rfl ?_
              refine r_lald C _ (dk oX0_wordOf 74 rfl) rfl (kn hn rfl) rfl (by omega) (by decide) ?_
              refine r_land C (dk oX0_wordOf 75 rfl) ?_
              refine r_goto (tgt := 142) C (dk oX0_wordOf 76 rfl) (by decide) ?_
              refine r_last C _ (dk oX0_wordOf 83 rfl) rfl (kn hn rfl) rfl (by omega) (by decide) ?_
              refine r_iinc (lo' := [(3, _), (5, _), (2, _), (4, _), (0, _), (1, _)]) C 5 (dk oX0_wordOf 84 rfl) rfl (by first | exact nI_inc _ | rfl) (by decide) rfl ?_
              refine r_goto (tgt := 4) C (dk oX0_wordOf 85 rfl) (by decide) ?_
              refine V.sub [4, 5, 2, 0] rfl ?_
              have hdo2 := hdo
              rw [hdr] at hdo2
              have hdo2 : (if C_.getD i 0 < 12 then top + 1 ≤ 20 ∧ dOK 20 (C_.drop (i + 1)) (top + 1) 1 else if C_.getD i 0 = 12 then 1 ≤ top ∧ dOK 20 (C_.drop (i + 1)) top 1 else 2 ≤ top ∧ dOK 20 (C_.drop (i + 1)) (top - 1) 1) := hdo2
              first
                | (rw [if_pos hb24] at hdo2
                   refine ih (i + 1) (top + 1) _ (fun k j => if j = top then (64 * w + k).testBit (C_.getD i 0) else F k j) (by omega) (by omega) hdo2.1 hdo2.2 (fun k hk => ?_) (fun k j hk hj => ?_) (fun k hk => by rw [upL_ne hk]; exact hJ k hk)
                   · rw [hev k hk, hdr]
                     conv => lhs; unfold evF
                     rw [if_pos hb24]
                   · by_cases e : j = top
                     · subst e
                       rw [upL_at, if_pos rfl]
                       exact h44 k hk
                     · rw [upL_off e, if_neg e]
                       exact hbits k j hk (by omega))
                | (rw [if_neg hb24x, if_pos hb58] at hdo2
                   refine ih (i + 1) top _ (fun k j => if j = top - 1 then !(F k j) else F k j) (by omega) (by omega) ht hdo2.2 (fun k hk => ?_) (fun k j hk hj => ?_) (fun k hk => by rw [upL_ne hk]; exact hJ k hk)
                   · rw [hev k hk, hdr]
                     conv => lhs; unfold evF
                     rw [if_neg hb24x, if_pos hb58]
                   · by_cases e : j = top - 1
                     · rw [e, upL_at, if_pos rfl, lb_not _ k hk, hbits k _ hk (by omega)]
                     · rw [upL_off e, if_neg e]
                       exact hbits k j hk hj)
                | (rw [if_neg hb24x, if_neg hb58] at hdo2
                   refine ih (i + 1) (top - 1) _ (fun k j => if j = top - 2 then (if C_.getD i 0 = 13 then F k (top - 2) && F k (top - 1) else F k (top - 2) || F k (top - 1)) else F k j) (by omega) (by omega) (by omega) hdo2.2 (fun k hk => ?_) (fun k j hk hj => ?_) (fun k hk => by rw [upL_ne hk]; exact hJ k hk)
                   · rw [hev k hk, hdr]
                     conv => lhs; unfold evF
                     rw [if_neg hb24x, if_neg hb58]
                   · by_cases e : j = top - 2
                     · rw [e, show top - 1 - 1 = top - 2 by omega, upL_at, if_pos rfl]
                       first
                         | rw [if_pos hb118, lb_and, hbits k _ hk (by omega), hbits k _ hk (by omega)]
                         | rw [if_neg hb118, lb_or, hbits k _ hk (by omega), hbits k _ hk (by omega)]
                     · rw [show top - 1 - 1 = top - 2 by omega, upL_off e, if_neg e]
                       exact hbits k j hk (by omega))
          · simp (disch := omega) only [nI_leI, nI_ltI, nI_eq, nI_eq0] at hb58
            rw [if_pos hb58] at hdq
            refine r_iload_n C 3 (dk oX0_wordOf 33 rfl) rfl ?_
            refine r_iconst C (dk oX0_wordOf 34 rfl) (v := nI 1) (by decide) ?_
            refine r_icmp_lt (tgt := 143) C (dk oX0_wordOf 35 rfl) (by decide) (fun hb63 => absurd hb63 (by rw [nI_ltI (by omega) (by omega)]; omega)) (fun hb63 => ?_)
            refine r_aload_n C 1 (dk oX0_wordOf 36 rfl) rfl ?_
            refine r_getR C (dk oX0_wordOf 37 rfl) fl_X0_15 rfl (kn hn rfl) ?_
            refine r_iload_n C 3 (dk oX0_wordOf 38 rfl) rfl ?_
            refine r_iconst C (dk oX0_wordOf 39 rfl) (v := nI 1) (by decide) ?_
            refine r_isub C (dk oX0_wordOf 40 rfl) ?_
            rw [pk_sub (by omega)]
            refine r_aload_n C 1 (dk oX0_wordOf 41 rfl) rfl ?_
            refine r_getR C (dk oX0_wordOf 42 rfl) fl_X0_15 rfl (kn hn rfl) ?_
            refine r_iload_n C 3 (dk oX0_wordOf 43 rfl) rfl ?_
            refine r_iconst C (dk oX0_wordOf 44 rfl) (v := nI 1) (by decide) ?_
            refine r_isub C (dk oX0_wordOf 45 rfl) ?_
            rw [pk_sub (by omega)]
            refine r_lald C _ (dk oX0_wordOf 46 rfl) rfl (kn hn rfl) rfl (by omega) (by decide) ?_
            refine r_ldc2 C (dk oX0_wordOf 47 rfl) kn_X0_103 ?_
            refine r_lxor C (dk oX0_wordOf 48 rfl) ?_
            refine r_last C _ (dk oX0_wordOf 49 rfl) rfl (kn hn rfl) rfl (by omega) (by decide) ?_
            refine r_goto (tgt := 143) C (dk oX0_wordOf 50 rfl) (by decide) ?_
            refine r_iinc (lo' := [(3, _), (4, _), (0, _), (1, _), (2, _)]) C 4 (dk oX0_wordOf 84 rfl) rfl (by first | exact nI_inc _ | rfl) (by decide) rfl ?_
            refine r_goto (tgt := 4) C (dk oX0_wordOf 85 rfl) (by decide) ?_
            refine V.sub [2, 3, 4, 0] rfl ?_
            have hdo2 := hdo
            rw [hdr] at hdo2
            have hdo2 : (if C_.getD i 0 < 12 then top + 1 ≤ 20 ∧ dOK 20 (C_.drop (i + 1)) (top + 1) 1 else if C_.getD i 0 = 12 then 1 ≤ top ∧ dOK 20 (C_.drop (i + 1)) top 1 else 2 ≤ top ∧ dOK 20 (C_.drop (i + 1)) (top - 1) 1) := hdo2
            first
              | (rw [if_pos hb24] at hdo2
                 refine ih (i + 1) (top + 1) _ (fun k j => if j = top then (64 * w + k).testBit (C_.getD i 0) else F k j) (by omega) (by omega) hdo2.1 hdo2.2 (fun k hk => ?_) (fun k j hk hj => ?_) (fun k hk => by rw [upL_ne hk]; exact hJ k hk)
                 · rw [hev k hk, hdr]
                   conv => lhs; unfold evF
                   rw [if_pos hb24]
                 · by_cases e : j = top
                   · subst e
                     rw [upL_at, if_pos rfl]
                     exact h44 k hk
                   · rw [upL_off e, if_neg e]
                     exact hbits k j hk (by omega))
              | (rw [if_neg hb24x, if_pos hb58] at hdo2
                 refine ih (i + 1) top _ (fun k j => if j = top - 1 then !(F k j) else F k j) (by omega) (by omega) ht hdo2.2 (fun k hk => ?_) (fun k j hk hj => ?_) (fun k hk => by rw [upL_ne hk]; exact hJ k hk)
                 · rw [hev k hk, hdr]
                   conv => lhs; unfold evF
                   rw [if_neg hb24x, if_pos hb58]
                 · by_cases e : j = top - 1
                   · rw [e, upL_at, if_pos rfl, lb_not _ k hk, hbits k _ hk (by omega)]
                   · rw [upL_off e, if_neg e]
                     exact hbits k j hk hj)
              | (rw [if_neg hb24x, if_neg hb58] at hdo2
                 refine ih (i + 1) (top - 1) _ (fun k j => if j = top - 2 then (if C_.getD i 0 = 13 then F k (top - 2) && F k (top - 1) else F k (top - 2) || F k (top - 1)) else F k j) (by omega) (by omega) (by omega) hdo2.2 (fun k hk => ?_) (fun k j hk hj => ?_) (fun k hk => by rw [upL_ne hk]; exact hJ k hk)
                 · rw [hev k hk, hdr]
                   conv => lhs; unfold evF
                   rw [if_neg hb24x, if_neg hb58]
                 · by_cases e : j = top - 2
                   · rw [e, show top - 1 - 1 = top - 2 by omega, upL_at, if_pos rfl]
                     first
                       | rw [if_pos hb118, lb_and, hbits k _ hk (by omega), hbits k _ hk (by omega)]
                       | rw [if_neg hb118, lb_or, hbits k _ hk (by omega), hbits k _ hk (by omega)]
                   · rw [show top - 1 - 1 = top - 2 by omega, upL_off e, if_neg e]
                     exact hbits k j hk (by omega))
        · simp (disch := omega) only [nI_leI, nI_ltI, nI_eq, nI_eq0] at hb24
          have hb24 : C_.getD i 0 < 12 := by omega
          refine r_iload_n C 3 (dk oX0_wordOf 16 rfl) rfl ?_
          refine r_aload_n C 1 (dk oX0_wordOf 17 rfl) rfl ?_
          refine r_getR C (dk oX0_wordOf 18 rfl) fl_X0_15 rfl (kn hn rfl) ?_
          refine r_alen C (dk oX0_wordOf 19 rfl) rfl (by decide) (kn hn rfl) ?_
          refine r_icmp_ge (tgt := 143) C (dk oX0_wordOf 20 rfl) (by decide) (fun hb33 => absurd hb33 (by rw [nI_leI (by omega) (by omega)]; omega)) (fun hb33 => ?_)
          refine r_aload_n C 1 (dk oX0_wordOf 21 rfl) rfl ?_
          refine r_getR C (dk oX0_wordOf 22 rfl) fl_X0_15 rfl (kn hn rfl) ?_
          refine r_iload_n C 3 (dk oX0_wordOf 23 rfl) rfl ?_
          refine r_iload C 0 (dk oX0_wordOf 24 rfl) rfl ?_
          refine r_iload_n C 2 (dk oX0_wordOf 25 rfl) rfl ?_
          refine r_isl C Z (dk oX0_wordOf 26 rfl) cl_X0_99 st_X0_factWord (c_X0_factWord I J1 (C_.getD i 0) w hb24 hw) rfl rfl (Nat.le_of_ble_eq_true rfl) ⟨Nat.le_of_ble_eq_true rfl, Nat.le_of_ble_eq_true rfl⟩ ⟨Nat.zero_le _, Nat.zero_le _⟩ (fun r44 I44 J44 h44 => ?_)
          obtain ⟨h44, e1_, e2_⟩ := h44
          have e1_ := e1_.symm
          have e2_ := e2_.symm
          subst e1_
          subst e2_
          refine r_last C _ (dk oX0_wordOf 27 rfl) rfl (kn hn rfl) rfl (by omega) (by decide) ?_
          refine r_iinc (lo' := [(2, _), (4, _), (0, _), (1, _), (3, _)]) C 3 (dk oX0_wordOf 28 rfl) rfl (by first | exact nI_inc _ | rfl) (by decide) rfl ?_
          refine r_goto (tgt := 143) C (dk oX0_wordOf 29 rfl) (by decide) ?_
          refine r_iinc (lo' := [(3, _), (2, _), (4, _), (0, _), (1, _)]) C 4 (dk oX0_wordOf 84 rfl) rfl (by first | exact nI_inc _ | rfl) (by decide) rfl ?_
          refine r_goto (tgt := 4) C (dk oX0_wordOf 85 rfl) (by decide) ?_
          refine V.sub [3, 4, 1, 0] rfl ?_
          have hdo2 := hdo
          rw [hdr] at hdo2
          have hdo2 : (if C_.getD i 0 < 12 then top + 1 ≤ 20 ∧ dOK 20 (C_.drop (i + 1)) (top + 1) 1 else if C_.getD i 0 = 12 then 1 ≤ top ∧ dOK 20 (C_.drop (i + 1)) top 1 else 2 ≤ top ∧ dOK 20 (C_.drop (i + 1)) (top - 1) 1) := hdo2
          first
            | (rw [if_pos hb24] at hdo2
               refine ih (i + 1) (top + 1) _ (fun k j => if j = top then (64 * w + k).testBit (C_.getD i 0) else F k j) (by omega) (by omega) hdo2.1 hdo2.2 (fun k hk => ?_) (fun k j hk hj => ?_) (fun k hk => by rw [upL_ne hk]; exact hJ k hk)
               · rw [hev k hk, hdr]
                 conv => lhs; unfold evF
                 rw [if_pos hb24]
               · by_cases e : j = top
                 · subst e
                   rw [upL_at, if_pos rfl]
                   exact h44 k hk
                 · rw [upL_off e, if_neg e]
                   exact hbits k j hk (by omega))
            | (rw [if_neg hb24x, if_pos hb58] at hdo2
               refine ih (i + 1) top _ (fun k j => if j = top - 1 then !(F k j) else F k j) (by omega) (by omega) ht hdo2.2 (fun k hk => ?_) (fun k j hk hj => ?_) (fun k hk => by rw [upL_ne hk]; exact hJ k hk)
               · rw [hev k hk, hdr]
                 conv => lhs; unfold evF
                 rw [if_neg hb24x, if_pos hb58]
               · by_cases e : j = top - 1
                 · rw [e, upL_at, if_pos rfl, lb_not _ k hk, hbits k _ hk (by omega)]
                 · rw [upL_off e, if_neg e]
                   exact hbits k j hk hj)
            | (rw [if_neg hb24x, if_neg hb58] at hdo2
               refine ih (i + 1) (top - 1) _ (fun k j => if j = top - 2 then (if C_.getD i 0 = 13 then F k (top - 2) && F k (top - 1) else F k (top - 2) || F k (top - 1)) else F k j) (by omega) (by omega) (by omega) hdo2.2 (fun k hk => ?_) (fun k j hk hj => ?_) (fun k hk => by rw [upL_ne hk]; exact hJ k hk)
               · rw [hev k hk, hdr]
                 conv => lhs; unfold evF
                 rw [if_neg hb24x, if_neg hb58]
               · by_cases e : j = top - 2
                 · rw [e, show top - 1 - 1 = top - 2 by omega, upL_at, if_pos rfl]
                   first
                     | rw [if_pos hb118, lb_and, hbits k _ hk (by omega), hbits k _ hk (by omega)]
                     | rw [if_neg hb118, lb_or, hbits k _ hk (by omega), hbits k _ hk (by omega)]
                 · rw [show top - 1 - 1 = top - 2 by omega, upL_off e, if_neg e]
                   exact hbits k j hk (by omega))
  refine V.sub [2, 3, 1, 0] rfl ?_
  exact L4 (C_.length + 1) 0 0 J (fun _ _ => false) (by omega) (by omega) (by omega) hd1 (fun k hk => rfl) (fun k j hk hj => absurd hj (Nat.not_lt_zero _)) (fun k hk => rfl)

set_option maxHeartbeats 1000000 in
set_option maxRecDepth 100000 in
theorem c_X0_fillTable (hn : 117 ≤ n) (I : MI) (J : MJ) (c_ : Nat) (hc : c_ < 6) (C_ : List Nat) (hC : Cd I C_) (hd1 : dOK 20 C_ 0 1) (hlt : ∀ x ∈ C_, x < 15) : Cv l n ad cA D z 3 yX0_fillTable cX0_fillTable 3 I J [.ref (ad 3), .ref (ad (13 + c_))] (fun I' J' => I' = I ∧ (∀ k, k ≠ 5 → k ≠ 13 + c_ → J' k = J k) ∧ ∀ w, w < 64 → tbW C_ w (J' (13 + c_) w)) := by
  refine Cv.of (by decide) (Nat.le_of_ble_eq_true rfl) ?_
  intro p e s m args below meth c A C hin Z Q hret
  refine r_iconst C (dk oX0_fillTable 0 rfl) (v := nI 0) (by decide) ?_
  refine r_istore_n (lo' := [(2, _), (0, _), (1, _)]) C (dk oX0_fillTable 1 rfl) rfl (by decide) rfl ?_
  have L2 : ∀ (d_ : Nat) (w : Nat) (J1 : MJ), 64 - w < d_ → w ≤ 64 → (∀ k, k ≠ 5 → k ≠ 13 + c_ → J1 k = J k) → (∀ v, v < w → tbW C_ v (J1 (13 + c_) v)) → V p l e (rmL 3) s m args below meth c Q D A 3 0 0 n ad (mE cA ad I J1) 2 [(0, .ref (ad 3)), (1, .ref (ad (13 + c_))), (2, .int (nI w))] [] := by
    intro d_
    induction d_ with
    | zero => intros; exact absurd (by assumption) (Nat.not_lt_zero _)
    | succ d_ ih => 
      intro w J1 hd_ hw hJ hT
      refine r_iload_n C 2 (dk oX0_fillTable 2 rfl) rfl ?_
      refine r_aload_n C 1 (dk oX0_fillTable 3 rfl) rfl ?_
      refine r_alen C (dk oX0_fillTable 4 rfl) (shA_tab c_ hc).2 (by decide) (by omega) ?_
      refine r_icmp_ge (tgt := 22) C (dk oX0_fillTable 5 rfl) (by decide) (fun hb5 => ?_) (fun hb5 => ?_)
      · simp (disch := omega) only [nI_leI, nI_ltI, nI_eq, nI_eq0] at hb5
        refine hret (dk oX0_fillTable 14 rfl) ?_
        exact ⟨rfl, hJ, fun w hw => hT w (by omega)⟩
      · simp (disch := omega) only [nI_leI, nI_ltI, nI_eq, nI_eq0] at hb5
        refine r_aload_n C 1 (dk oX0_fillTable 6 rfl) rfl ?_
        refine r_iload_n C 2 (dk oX0_fillTable 7 rfl) rfl ?_
        refine r_aload_n C 0 (dk oX0_fillTable 8 rfl) rfl ?_
        refine r_iload_n C 2 (dk oX0_fillTable 9 rfl) rfl ?_
        refine r_ivl C Z (dk oX0_fillTable 10 rfl) cl_X0_95 ci_X0_wordOf rfl (kn hn rfl) (c_X0_wordOf hn I J1 w (by omega) C_ hC hd1 hlt) rfl rfl (Nat.le_of_ble_eq_true rfl) ⟨Nat.le_of_ble_eq_true rfl, Nat.le_of_ble_eq_true rfl⟩ ⟨Nat.zero_le _, Nat.zero_le _⟩ (fun r12 I12 J12 h12 => ?_)
        obtain ⟨h12, e1_, h12J⟩ := h12
        have e1_ := e1_.symm
        subst e1_
        refine r_last C _ (dk oX0_fillTable 11 rfl) (shA_tab c_ hc).1 (by omega) rfl (by omega) (by decide) ?_
        refine r_iinc (lo' := [(2, _), (0, _), (1, _)]) C 2 (dk oX0_fillTable 12 rfl) rfl (by first | exact nI_inc _ | rfl) (by decide) rfl ?_
        refine r_goto (tgt := 2) C (dk oX0_fillTable 13 rfl) (by decide) ?_
        refine V.sub [1, 2, 0] rfl ?_
        refine ih (w + 1) _ (by omega) (by omega) (fun k a b => by rw [upL_ne b, h12J k a]; exact hJ k a b) (fun v hv => ?_)
        by_cases e : v = w
        · subst e; rw [upL_at]; exact h12
        · rw [upL_off e, h12J _ (by omega)]; exact hT v (by omega)
  refine V.sub [1, 2, 0] rfl ?_
  exact L2 65 0 J (by omega) (by omega) (fun k _ _ => rfl) (fun v hv => absurd hv (Nat.not_lt_zero _))

set_option maxHeartbeats 1000000 in
set_option maxRecDepth 100000 in
theorem c_X1_add (hn : 117 ≤ n) (I : MI) (J : MJ) (nc : Nat) (hnc : nc < 6) (h9 : I 9 0 = nI nc) (C_ : List Nat) (hC : Cd I C_) (hd1 : dOK 20 C_ 0 1) (hlt : ∀ x ∈ C_, x < 15) : Ci l n ad cA D z 4 yX1_add cX1_add 2 .int I J [.ref (ad 9), .ref (ad 3)] (fun r I' J' => r = nI nc ∧ I' = up2 (up2 (up2 I 10 nc (I 3 3)) 11 nc (nI (fsN C_))) 9 0 (nI (nc + 1)) ∧ (∀ k, k ≠ 5 → k ≠ 13 + nc → J' k = J k) ∧ ∀ w, w < 64 → tbW C_ w (J' (13 + nc) w)) := by
  refine Ci.of (by decide) (Nat.le_of_ble_eq_true rfl) ?_
  intro p e s m args below meth c A C hin Z Q hret
  refine r_aload_n C 0 (dk oX1_add 0 rfl) rfl ?_
  refine r_getI C (dk oX1_add 1 rfl) fl_X1_23 rfl (kn hn rfl) ?_
  rw [h9]
  refine r_bipush C (dk oX1_add 2 rfl) (v := nI 6) (by decide) ?_
  refine r_icmp_lt (tgt := 12) C (dk oX1_add 3 rfl) (by decide) (fun hb6 => ?_) (fun hb6 => absurd (nI_lt hnc (by decide)) hb6)
  refine r_aload_n C 0 (dk oX1_add 6 rfl) rfl ?_
  refine r_getR C (dk oX1_add 7 rfl) fl_X1_9 rfl (kn hn rfl) ?_
  refine r_aload_n C 0 (dk oX1_add 8 rfl) rfl ?_
  refine r_getI C (dk oX1_add 9 rfl) fl_X1_23 rfl (kn hn rfl) ?_
  rw [h9]
  refine r_aload_n C 1 (dk oX1_add 10 rfl) rfl ?_
  refine r_getI C (dk oX1_add 11 rfl) fl_X1_28 rfl (kn hn rfl) ?_
  refine r_iast C _ (dk oX1_add 12 rfl) rfl (kn hn rfl) rfl (by omega) (by decide) ?_
  refine r_aload_n C 0 (dk oX1_add 13 rfl) rfl ?_
  refine r_getR C (dk oX1_add 14 rfl) fl_X1_15 rfl (kn hn rfl) ?_
  refine r_aload_n C 0 (dk oX1_add 15 rfl) rfl ?_
  refine r_getI C (dk oX1_add 16 rfl) fl_X1_23 rfl (kn hn rfl) ?_
  rw [up2_ne (by decide), h9]
  refine r_aload_n C 1 (dk oX1_add 17 rfl) rfl ?_
  refine r_getI C (dk oX1_add 18 rfl) fl_X1_32 rfl (kn hn rfl) ?_
  rw [up2_ne (by decide), hC.2.2.2]
  refine r_iast C _ (dk oX1_add 19 rfl) rfl (kn hn rfl) rfl (by omega) (by decide) ?_
  refine r_aload_n C 1 (dk oX1_add 20 rfl) rfl ?_
  refine r_aload_n C 0 (dk oX1_add 21 rfl) rfl ?_
  refine r_getR C (dk oX1_add 22 rfl) fl_X1_20 rfl (kn hn rfl) ?_
  refine r_aload_n C 0 (dk oX1_add 23 rfl) rfl ?_
  refine r_getI C (dk oX1_add 24 rfl) fl_X1_23 rfl (kn hn rfl) ?_
  rw [up2_ne (by decide), up2_ne (by decide), h9]
  refine r_aald C _ (dk oX1_add 25 rfl) rfl (by decide) (kn hn rfl) rfl (by omega) (by decide) ?_
  rw [Nat.one_mul]
  refine r_ivv C Z (dk oX1_add 26 rfl) cl_X1_35 ci_X0_fillTable rfl (kn hn rfl) (c_X0_fillTable hn _ J nc hnc C_ ⟨hC.1, by rw [up2_ne (by decide), up2_ne (by decide)]; exact hC.2.1, fun j hj => by rw [up2_ne (by decide), up2_ne (by decide)]; exact hC.2.2.1 j hj, by rw [up2_ne (by decide), up2_ne (by decide)]; exact hC.2.2.2⟩ hd1 hlt) rfl rfl (Nat.le_of_ble_eq_true rfl) ⟨Nat.le_of_ble_eq_true rfl, Nat.le_of_ble_eq_true rfl⟩ ⟨Nat.zero_le _, Nat.zero_le _⟩ (fun I48 J48 h48 => ?_)
  obtain ⟨e1_, h48a, h48b⟩ := h48
  have e1_ := e1_.symm
  subst e1_
  refine r_aload_n C 0 (dk oX1_add 27 rfl) rfl ?_
  refine r_dup C (dk oX1_add 28 rfl) rfl ?_
  refine r_getI C (dk oX1_add 29 rfl) fl_X1_23 rfl (kn hn rfl) ?_
  rw [up2_ne (by decide), up2_ne (by decide), h9]
  refine r_iconst C (dk oX1_add 30 rfl) (v := nI 1) (by decide) ?_
  refine r_iadd C (dk oX1_add 31 rfl) ?_
  rw [nI_add]
  refine r_putI C (dk oX1_add 32 rfl) fl_X1_23 ft_1_0 rfl (kn hn rfl) ?_
  refine r_aload_n C 0 (dk oX1_add 33 rfl) rfl ?_
  refine r_getI C (dk oX1_add 34 rfl) fl_X1_23 rfl (kn hn rfl) ?_
  rw [up2_at]
  refine r_iconst C (dk oX1_add 35 rfl) (v := nI 1) (by decide) ?_
  refine r_isub C (dk oX1_add 36 rfl) ?_
  rw [pk_sub (by omega), Nat.add_sub_cancel]
  refine hret (dk oX1_add 37 rfl) rfl ?_
  exact ⟨rfl, rfl, h48a, h48b⟩

set_option maxHeartbeats 1000000 in
set_option maxRecDepth 100000 in
theorem c_X1_isOwed (hn : 117 ≤ n) (I : MI) (J : MJ) (c_ so : Nat) (C_ : List Nat) (hc : c_ < 6) (hso : so < 4096) (hT : ∀ w, w < 64 → tbW C_ w (J (13 + c_) w)) : Ci l n ad cA D z 0 yX1_isOwed cX1_isOwed 3 .boolean I J [.ref (ad 9), .int (nI c_), .int (nI so)] (fun r I' J' => r = b32 (evC C_ so) ∧ I' = I ∧ J' = J) := by
  refine Ci.of (by decide) (Nat.le_of_ble_eq_true rfl) ?_
  intro p e s m args below meth c A C hin Z Q hret
  have hE : lb (J (13 + c_) (so / 64)) (so % 64) = evC C_ so := by rw [hT (so / 64) (by omega) (so % 64) (by omega), show 64 * (so / 64) + so % 64 = so by omega]
  refine r_aload_n C 0 (dk oX1_isOwed 0 rfl) rfl ?_
  refine r_getR C (dk oX1_isOwed 1 rfl) fl_X1_20 rfl (kn hn rfl) ?_
  refine r_iload_n C 1 (dk oX1_isOwed 2 rfl) rfl ?_
  refine r_aald C _ (dk oX1_isOwed 3 rfl) rfl (by decide) (kn hn rfl) rfl (by omega) (by decide) ?_
  rw [Nat.one_mul]
  refine r_iload_n C 2 (dk oX1_isOwed 4 rfl) rfl ?_
  refine r_bipush C (dk oX1_isOwed 5 rfl) (v := nI 6) (by decide) ?_
  refine r_ishr C (dk oX1_isOwed 6 rfl) ?_
  refine r_bipush C (dk oX1_isOwed 7 rfl) (v := nI 63) (by decide) ?_
  refine r_iand C (dk oX1_isOwed 8 rfl) ?_
  rw [(so_split hso).1]
  refine r_lald C _ (dk oX1_isOwed 9 rfl) (shA_tab c_ hc).1 (by omega) rfl (by omega) (by decide) ?_
  refine r_iload_n C 2 (dk oX1_isOwed 10 rfl) rfl ?_
  refine r_bipush C (dk oX1_isOwed 11 rfl) (v := nI 63) (by decide) ?_
  refine r_iand C (dk oX1_isOwed 12 rfl) ?_
  rw [(so_split hso).2]
  refine r_lushr C (dk oX1_isOwed 13 rfl) ?_
  refine r_lconst C (dk oX1_isOwed 14 rfl) (v := 1) (by decide) ?_
  refine r_land C (dk oX1_isOwed 15 rfl) ?_
  refine r_lconst C (dk oX1_isOwed 16 rfl) (v := 0) (by decide) ?_
  refine r_lcmp C (dk oX1_isOwed 17 rfl) ?_
  refine r_if_eq (tgt := 30) C (dk oX1_isOwed 18 rfl) (by decide) (fun hb23 => ?_) (fun hb23 => ?_)
  · rw [cmp_bit (by omega)] at hb23
    refine r_iconst C (dk oX1_isOwed 21 rfl) (v := nI 0) (by decide) ?_
    refine hret (dk oX1_isOwed 22 rfl) rfl ?_
    refine ⟨?_, rfl, rfl⟩
    rw [hE] at hb23
    first | (rw [hb23]; rfl) | (rw [show evC C_ so = true from by cases h : evC C_ so with | true => rfl | false => exact absurd h hb23]; rfl)
  · rw [cmp_bit (by omega)] at hb23
    refine r_iconst C (dk oX1_isOwed 19 rfl) (v := nI 1) (by decide) ?_
    refine r_goto (tgt := 31) C (dk oX1_isOwed 20 rfl) (by decide) ?_
    refine hret (dk oX1_isOwed 22 rfl) rfl ?_
    refine ⟨?_, rfl, rfl⟩
    rw [hE] at hb23
    first | (rw [hb23]; rfl) | (rw [show evC C_ so = true from by cases h : evC C_ so with | true => rfl | false => exact absurd h hb23]; rfl)

set_option maxHeartbeats 1000000 in
set_option maxRecDepth 100000 in
theorem c_X1_coinsOwed (hn : 117 ≤ n) (I : MI) (J : MJ) (so : Nat) (hso : so < 4096) (nc : Nat) (co : Nat → Int32) (cd : Nat → List Nat) (hc : CClm I J 8 nc co cd) : Ci l n ad cA D z 1 yX1_coinsOwed cX1_coinsOwed 4 .int I J [.ref (ad 9), .int (nI so)] (fun r I' J' => r = owS co cd so nc ∧ I' = I ∧ J' = J) := by
  refine Ci.of (by decide) (Nat.le_of_ble_eq_true rfl) ?_
  intro p e s m args below meth c A C hin Z Q hret
  obtain ⟨c1, c2, c3⟩ := hc
  refine r_iconst C (dk oX1_coinsOwed 0 rfl) (v := nI 0) (by decide) ?_
  refine r_istore_n (lo' := [(2, _), (0, _), (1, _)]) C (dk oX1_coinsOwed 1 rfl) rfl (by decide) rfl ?_
  refine r_iconst C (dk oX1_coinsOwed 2 rfl) (v := nI 0) (by decide) ?_
  refine r_istore_n (lo' := [(3, _), (2, _), (0, _), (1, _)]) C (dk oX1_coinsOwed 3 rfl) rfl (by decide) rfl ?_
  have L4 : ∀ (d_ : Nat) (c_ : Nat), nc - c_ < d_ → c_ ≤ nc → V p l e (rmL 1) s m args below meth c Q D A 4 0 0 n ad (mE cA ad I J) 4 [(0, .ref (ad 9)), (1, .int (nI so)), (2, .int (owS co cd so c_)), (3, .int (nI c_))] [] := by
    intro d_
    induction d_ with
    | zero => intros; exact absurd (by assumption) (Nat.not_lt_zero _)
    | succ d_ ih => 
      intro c_ hd_ hcn
      refine r_iload_n C 3 (dk oX1_coinsOwed 4 rfl) rfl ?_
      refine r_aload_n C 0 (dk oX1_coinsOwed 5 rfl) rfl ?_
      refine r_getI C (dk oX1_coinsOwed 6 rfl) fl_X1_23 rfl (kn hn rfl) ?_
      rw [c2]
      refine r_icmp_ge (tgt := 36) C (dk oX1_coinsOwed 7 rfl) (by decide) (fun hb9 => ?_) (fun hb9 => ?_)
      · simp (disch := omega) only [nI_leI, nI_ltI, nI_eq, nI_eq0] at hb9
        refine r_iload_n C 2 (dk oX1_coinsOwed 22 rfl) rfl ?_
        refine hret (dk oX1_coinsOwed 23 rfl) rfl ?_
        refine ⟨?_, rfl, rfl⟩
        rw [show c_ = nc by omega]
      · simp (disch := omega) only [nI_leI, nI_ltI, nI_eq, nI_eq0] at hb9
        refine r_aload_n C 0 (dk oX1_coinsOwed 8 rfl) rfl ?_
        refine r_iload_n C 3 (dk oX1_coinsOwed 9 rfl) rfl ?_
        refine r_iload_n C 1 (dk oX1_coinsOwed 10 rfl) rfl ?_
        refine r_ivi C Z (dk oX1_coinsOwed 11 rfl) cl_X1_39 ci_X1_isOwed rfl (kn hn rfl) (c_X1_isOwed hn I J c_ so (cd c_) (by omega) hso (c3 c_ (by omega)).2.2.2) rfl rfl (Nat.le_of_ble_eq_true rfl) ⟨Nat.le_of_ble_eq_true rfl, Nat.le_of_ble_eq_true rfl⟩ ⟨Nat.zero_le _, Nat.zero_le _⟩ (fun r15 I15 J15 h15 => ?_)
        obtain ⟨h15, e1_, e2_⟩ := h15
        have e1_ := e1_.symm
        have e2_ := e2_.symm
        subst e1_
        subst e2_
        subst h15
        refine r_if_eq (tgt := 30) C (dk oX1_coinsOwed 12 rfl) (by decide) (fun hb18 => ?_) (fun hb18 => ?_)
        · rw [b32_0] at hb18
          refine r_iinc (lo' := [(3, _), (0, _), (1, _), (2, _)]) C 3 (dk oX1_coinsOwed 20 rfl) rfl (by first | exact nI_inc _ | rfl) (by decide) rfl ?_
          refine r_goto (tgt := 4) C (dk oX1_coinsOwed 21 rfl) (by decide) ?_
          refine V.sub [1, 2, 3, 0] rfl ?_
          have eS : owS co cd so (c_ + 1) = if evC (cd c_) so = true then owS co cd so c_ + co c_ else owS co cd so c_ := rfl
          have hR := ih (c_ + 1) (by omega) (by omega)
          rw [eS] at hR
          first
            | (rw [if_pos hb18] at hR; exact hR)
            | (rw [if_neg (by rw [hb18]; decide)] at hR; exact hR)
        · rw [b32_n] at hb18
          refine r_iload_n C 2 (dk oX1_coinsOwed 13 rfl) rfl ?_
          refine r_aload_n C 0 (dk oX1_coinsOwed 14 rfl) rfl ?_
          refine r_getR C (dk oX1_coinsOwed 15 rfl) fl_X1_9 rfl (kn hn rfl) ?_
          refine r_iload_n C 3 (dk oX1_coinsOwed 16 rfl) rfl ?_
          refine r_iald C _ (dk oX1_coinsOwed 17 rfl) rfl (kn hn rfl) rfl (by omega) (by decide) ?_
          rw [(c3 c_ (by omega)).1]
          refine r_iadd C (dk oX1_coinsOwed 18 rfl) ?_
          refine r_istore_n (lo' := [(2, _), (0, _), (1, _), (3, _)]) C (dk oX1_coinsOwed 19 rfl) rfl (by decide) rfl ?_
          refine r_iinc (lo' := [(3, _), (2, _), (0, _), (1, _)]) C 3 (dk oX1_coinsOwed 20 rfl) rfl (by first | exact nI_inc _ | rfl) (by decide) rfl ?_
          refine r_goto (tgt := 4) C (dk oX1_coinsOwed 21 rfl) (by decide) ?_
          refine V.sub [2, 3, 1, 0] rfl ?_
          have eS : owS co cd so (c_ + 1) = if evC (cd c_) so = true then owS co cd so c_ + co c_ else owS co cd so c_ := rfl
          have hR := ih (c_ + 1) (by omega) (by omega)
          rw [eS] at hR
          first
            | (rw [if_pos hb18] at hR; exact hR)
            | (rw [if_neg (by rw [hb18]; decide)] at hR; exact hR)
  refine V.sub [2, 3, 1, 0] rfl ?_
  exact L4 (nc + 1) 0 (by omega) (by omega)

end TAB
