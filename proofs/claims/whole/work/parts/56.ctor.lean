section CT2
variable {l : Launch} {n : Nat} {ad : Nat → Nat} {cA : Nat → ClassId} {D : va_G} {z : Zw} {h0 : Nat}
theorem ahs {ad : Nat → Nat} (hst : ∀ k, k < 148 → ad (k + 1) = ad k + (liv k).toNat) (n i : Nat) (h : n + i < 148) (hl : ∀ j, j < i + 1 → liv (n + j) = true) : ad (n + 1 + i) = ad n + 1 + i := by
  induction i with
  | zero => exact hsl hst n (by omega) (hl 0 (by omega))
  | succ i ih =>
    have h2 := hl (i + 1) (by omega)
    rw [show n + (i + 1) = n + 1 + i by omega] at h2
    rw [show n + 1 + (i + 1) = (n + 1 + i) + 1 by omega, hsl hst _ (by omega) h2, ih (by omega) (fun j hj => hl j (by omega))]
    omega
theorem ObjW_ok : ObjW := ⟨tin.of 24 (by decide +kernel) rfl, tin.of 25 (by decide +kernel) rfl⟩
theorem ko_X0 : tin (.methodLink RX0 3 objectInit) := tin.of 63 (by decide +kernel) rfl
theorem ko_X1 : tin (.methodLink RX1 3 objectInit) := tin.of 108 (by decide +kernel) rfl
theorem ko_X10 : tin (.methodLink RX10 1 objectInit) := tin.of 821 (by decide +kernel) rfl
theorem ko_X2 : tin (.methodLink RX2 3 objectInit) := tin.of 219 (by decide +kernel) rfl
theorem ko_X3 : tin (.methodLink RX3 3 objectInit) := tin.of 88 (by decide +kernel) rfl
theorem ko_X4 : tin (.methodLink RX4 3 objectInit) := tin.of 134 (by decide +kernel) rfl
theorem ko_X5 : tin (.methodLink RX5 3 objectInit) := tin.of 161 (by decide +kernel) rfl
theorem ko_X6 : tin (.methodLink RX6 3 objectInit) := tin.of 261 (by decide +kernel) rfl
theorem ko_X7 : tin (.methodLink RX7 3 objectInit) := tin.of 102 (by decide +kernel) rfl
theorem ko_X8 : tin (.methodLink RX8 3 objectInit) := tin.of 31 (by decide +kernel) rfl
theorem ko_X9 : tin (.methodLink RX9 1 objectInit) := tin.of 23 (by decide +kernel) rfl
def dfl_0 : List Value := [.null, .null, .int 0, .int 0, .int 0]
theorem df_0 : ∀ j, j < 5 → defaultValue (tyX0 j) = vp_V dfl_0 j := fun j hj => match j, hj with
  | 0, _ => rfl
  | 1, _ => rfl
  | 2, _ => rfl
  | 3, _ => rfl
  | 4, _ => rfl
  | _ + 5, h => absurd h (by omega)
def dfl_1 : List Value := [.int 0, .null, .null, .null]
theorem df_1 : ∀ j, j < 4 → defaultValue (tyX1 j) = vp_V dfl_1 j := fun j hj => match j, hj with
  | 0, _ => rfl
  | 1, _ => rfl
  | 2, _ => rfl
  | 3, _ => rfl
  | _ + 4, h => absurd h (by omega)
def dfl_2 : List Value := [.null, .null, .null, .null, .null, .null, .int 0, .int 0, .int 0]
theorem df_2 : ∀ j, j < 9 → defaultValue (tyX2 j) = vp_V dfl_2 j := fun j hj => match j, hj with
  | 0, _ => rfl
  | 1, _ => rfl
  | 2, _ => rfl
  | 3, _ => rfl
  | 4, _ => rfl
  | 5, _ => rfl
  | 6, _ => rfl
  | 7, _ => rfl
  | 8, _ => rfl
  | _ + 9, h => absurd h (by omega)
def dfl_3 : List Value := [.null, .int 0]
theorem df_3 : ∀ j, j < 2 → defaultValue (tyX3 j) = vp_V dfl_3 j := fun j hj => match j, hj with
  | 0, _ => rfl
  | 1, _ => rfl
  | _ + 2, h => absurd h (by omega)
def dfl_4 : List Value := [.int 0, .int 0, .null, .null]
theorem df_4 : ∀ j, j < 4 → defaultValue (tyX4 j) = vp_V dfl_4 j := fun j hj => match j, hj with
  | 0, _ => rfl
  | 1, _ => rfl
  | 2, _ => rfl
  | 3, _ => rfl
  | _ + 4, h => absurd h (by omega)
def dfl_5 : List Value := [.int 0, .int 0, .null, .null, .null, .null]
theorem df_5 : ∀ j, j < 6 → defaultValue (tyX5 j) = vp_V dfl_5 j := fun j hj => match j, hj with
  | 0, _ => rfl
  | 1, _ => rfl
  | 2, _ => rfl
  | 3, _ => rfl
  | 4, _ => rfl
  | 5, _ => rfl
  | _ + 6, h => absurd h (by omega)
def dfl_6 : List Value := [.null, .null]
theorem df_6 : ∀ j, j < 2 → defaultValue (tyX6 j) = vp_V dfl_6 j := fun j hj => match j, hj with
  | 0, _ => rfl
  | 1, _ => rfl
  | _ + 2, h => absurd h (by omega)
def dfl_7 : List Value := [.null, .null, .null, .int 0, .int 0]
theorem df_7 : ∀ j, j < 5 → defaultValue (tyX7 j) = vp_V dfl_7 j := fun j hj => match j, hj with
  | 0, _ => rfl
  | 1, _ => rfl
  | 2, _ => rfl
  | 3, _ => rfl
  | 4, _ => rfl
  | _ + 5, h => absurd h (by omega)
def dfl_8 : List Value := [.null, .int 0, .int 0, .int 0, .int 0, .int 0, .int 0]
theorem df_8 : ∀ j, j < 7 → defaultValue (tyX8 j) = vp_V dfl_8 j := fun j hj => match j, hj with
  | 0, _ => rfl
  | 1, _ => rfl
  | 2, _ => rfl
  | 3, _ => rfl
  | 4, _ => rfl
  | 5, _ => rfl
  | 6, _ => rfl
  | _ + 7, h => absurd h (by omega)
def dfl_9 : List Value := [.null, .null, .null, .null, .null, .null, .null, .null, .null]
theorem df_9 : ∀ j, j < 9 → defaultValue (tyX9 j) = vp_V dfl_9 j := fun j hj => match j, hj with
  | 0, _ => rfl
  | 1, _ => rfl
  | 2, _ => rfl
  | 3, _ => rfl
  | 4, _ => rfl
  | 5, _ => rfl
  | 6, _ => rfl
  | 7, _ => rfl
  | 8, _ => rfl
  | _ + 9, h => absurd h (by omega)
def dfl_10 : List Value := [.null, .null, .null, .null, .null, .null, .null, .null, .null, .null, .null, .null, .null, .null, .null, .null, .null, .int 0, .null, .null, .null, .null, .null, .null, .null, .int 0, .int 0, .int 0, .int 0, .int 0, .int 0, .null, .int 0, .int 0, .null, .int 0, .int 0, .int 0, .null, .int 0, .null, .null, .null, .int 0, .int 0]
theorem df_10 : ∀ j, j < 45 → defaultValue (tyX10 j) = vp_V dfl_10 j := fun j hj => match j, hj with
  | 0, _ => rfl
  | 1, _ => rfl
  | 2, _ => rfl
  | 3, _ => rfl
  | 4, _ => rfl
  | 5, _ => rfl
  | 6, _ => rfl
  | 7, _ => rfl
  | 8, _ => rfl
  | 9, _ => rfl
  | 10, _ => rfl
  | 11, _ => rfl
  | 12, _ => rfl
  | 13, _ => rfl
  | 14, _ => rfl
  | 15, _ => rfl
  | 16, _ => rfl
  | 17, _ => rfl
  | 18, _ => rfl
  | 19, _ => rfl
  | 20, _ => rfl
  | 21, _ => rfl
  | 22, _ => rfl
  | 23, _ => rfl
  | 24, _ => rfl
  | 25, _ => rfl
  | 26, _ => rfl
  | 27, _ => rfl
  | 28, _ => rfl
  | 29, _ => rfl
  | 30, _ => rfl
  | 31, _ => rfl
  | 32, _ => rfl
  | 33, _ => rfl
  | 34, _ => rfl
  | 35, _ => rfl
  | 36, _ => rfl
  | 37, _ => rfl
  | 38, _ => rfl
  | 39, _ => rfl
  | 40, _ => rfl
  | 41, _ => rfl
  | 42, _ => rfl
  | 43, _ => rfl
  | 44, _ => rfl
  | _ + 45, h => absurd h (by omega)
def iZ0 : MI := fun _ _ => 0
def jZ : MJ := fun _ _ => 0
theorem fp_X8_9 : FP RX8 9 8 0 := ⟨RX8, TX8, 7, .array (.int), rfl, by decide, cw_8, ⟨tyX8, tyX8_ok, nmX8⟩, tin.of 32 (by decide +kernel) rfl, rfl, rfl, by decide +kernel, fun v => ⟨rfl, rfl⟩⟩
theorem fi_X8_15 : FI RX8 15 8 6 := ⟨RX8, TX8, 7, rfl, by decide, cw_8, ⟨tyX8, tyX8_ok, nmX8⟩, tin.of 40 (by decide +kernel) rfl, rfl, by decide +kernel⟩
def iZ1 : MI := up2 iZ0 1 6 (-1)
theorem fp_X9_10 : FP RX9 10 9 0 := ⟨RX9, TX9, 9, .object "PleaPapers$Text", rfl, by decide, cw_9, ⟨tyX9, tyX9_ok, nmX9⟩, tin.of 311 (by decide +kernel) rfl, rfl, rfl, by decide +kernel, fun v => ⟨rfl, rfl⟩⟩
theorem fp_X0_9 : FP RX0 9 0 0 := ⟨RX0, TX0, 5, .array (.int), rfl, by decide, cw_0, ⟨tyX0, tyX0_ok, nmX0⟩, tin.of 64 (by decide +kernel) rfl, rfl, rfl, by decide +kernel, fun v => ⟨rfl, rfl⟩⟩
theorem fp_X0_15 : FP RX0 15 0 1 := ⟨RX0, TX0, 5, .array (.long), rfl, by decide, cw_0, ⟨tyX0, tyX0_ok, nmX0⟩, tin.of 65 (by decide +kernel) rfl, rfl, rfl, by decide +kernel, fun v => ⟨rfl, rfl⟩⟩
theorem fp_X9_19 : FP RX9 19 9 1 := ⟨RX9, TX9, 9, .object "PleaPapers$ClaimReader", rfl, by decide, cw_9, ⟨tyX9, tyX9_ok, nmX9⟩, tin.of 312 (by decide +kernel) rfl, rfl, rfl, by decide +kernel, fun v => ⟨rfl, rfl⟩⟩
theorem fp_X3_9 : FP RX3 9 3 0 := ⟨RX3, TX3, 2, .array (.int), rfl, by decide, cw_3, ⟨tyX3, tyX3_ok, nmX3⟩, tin.of 89 (by decide +kernel) rfl, rfl, rfl, by decide +kernel, fun v => ⟨rfl, rfl⟩⟩
theorem fp_X9_26 : FP RX9 26 9 2 := ⟨RX9, TX9, 9, .object "PleaPapers$PaperReader", rfl, by decide, cw_9, ⟨tyX9, tyX9_ok, nmX9⟩, tin.of 313 (by decide +kernel) rfl, rfl, rfl, by decide +kernel, fun v => ⟨rfl, rfl⟩⟩
theorem fp_X1_9 : FP RX1 9 1 1 := ⟨RX1, TX1, 4, .array (.int), rfl, by decide, cw_1, ⟨tyX1, tyX1_ok, nmX1⟩, tin.of 114 (by decide +kernel) rfl, rfl, rfl, by decide +kernel, fun v => ⟨rfl, rfl⟩⟩
theorem fp_X1_15 : FP RX1 15 1 2 := ⟨RX1, TX1, 4, .array (.int), rfl, by decide, cw_1, ⟨tyX1, tyX1_ok, nmX1⟩, tin.of 117 (by decide +kernel) rfl, rfl, rfl, by decide +kernel, fun v => ⟨rfl, rfl⟩⟩
theorem fp_X1_20 : FP RX1 20 1 3 := ⟨RX1, TX1, 4, .array (.array (.long)), rfl, by decide, cw_1, ⟨tyX1, tyX1_ok, nmX1⟩, tin.of 119 (by decide +kernel) rfl, rfl, rfl, by decide +kernel, fun v => ⟨rfl, rfl⟩⟩
theorem fp_X7_12 : FP RX7 12 7 0 := ⟨RX7, TX7, 5, .object "PleaPapers$Claims", rfl, by decide, cw_7, ⟨tyX7, tyX7_ok, nmX7⟩, tin.of 191 (by decide +kernel) rfl, rfl, rfl, by decide +kernel, fun v => ⟨rfl, rfl⟩⟩
theorem fp_X4_9 : FP RX4 9 4 2 := ⟨RX4, TX4, 4, .array (.int), rfl, by decide, cw_4, ⟨tyX4, tyX4_ok, nmX4⟩, tin.of 143 (by decide +kernel) rfl, rfl, rfl, by decide +kernel, fun v => ⟨rfl, rfl⟩⟩
theorem fp_X4_17 : FP RX4 17 4 3 := ⟨RX4, TX4, 4, .array (.array (.int)), rfl, by decide, cw_4, ⟨tyX4, tyX4_ok, nmX4⟩, tin.of 145 (by decide +kernel) rfl, rfl, rfl, by decide +kernel, fun v => ⟨rfl, rfl⟩⟩
theorem fp_X7_21 : FP RX7 21 7 1 := ⟨RX7, TX7, 5, .object "PleaPapers$Papers", rfl, by decide, cw_7, ⟨tyX7, tyX7_ok, nmX7⟩, tin.of 194 (by decide +kernel) rfl, rfl, rfl, by decide +kernel, fun v => ⟨rfl, rfl⟩⟩
theorem fp_X5_9 : FP RX5 9 5 2 := ⟨RX5, TX5, 6, .array (.int), rfl, by decide, cw_5, ⟨tyX5, tyX5_ok, nmX5⟩, tin.of 167 (by decide +kernel) rfl, rfl, rfl, by decide +kernel, fun v => ⟨rfl, rfl⟩⟩
theorem fp_X5_15 : FP RX5 15 5 3 := ⟨RX5, TX5, 6, .array (.int), rfl, by decide, cw_5, ⟨tyX5, tyX5_ok, nmX5⟩, tin.of 170 (by decide +kernel) rfl, rfl, rfl, by decide +kernel, fun v => ⟨rfl, rfl⟩⟩
theorem fp_X5_18 : FP RX5 18 5 4 := ⟨RX5, TX5, 6, .array (.int), rfl, by decide, cw_5, ⟨tyX5, tyX5_ok, nmX5⟩, tin.of 173 (by decide +kernel) rfl, rfl, rfl, by decide +kernel, fun v => ⟨rfl, rfl⟩⟩
theorem fp_X5_21 : FP RX5 21 5 5 := ⟨RX5, TX5, 6, .array (.int), rfl, by decide, cw_5, ⟨tyX5, tyX5_ok, nmX5⟩, tin.of 176 (by decide +kernel) rfl, rfl, rfl, by decide +kernel, fun v => ⟨rfl, rfl⟩⟩
theorem fp_X7_28 : FP RX7 28 7 2 := ⟨RX7, TX7, 5, .object "PleaPapers$Proofs", rfl, by decide, cw_7, ⟨tyX7, tyX7_ok, nmX7⟩, tin.of 196 (by decide +kernel) rfl, rfl, rfl, by decide +kernel, fun v => ⟨rfl, rfl⟩⟩
theorem fi_X7_32 : FI RX7 32 7 3 := ⟨RX7, TX7, 5, rfl, by decide, cw_7, ⟨tyX7, tyX7_ok, nmX7⟩, tin.of 199 (by decide +kernel) rfl, rfl, by decide +kernel⟩
def iZ2 : MI := up2 iZ1 8 3 (nI 20)
theorem fp_X9_33 : FP RX9 33 9 3 := ⟨RX9, TX9, 9, .object "PleaPapers$Suit", rfl, by decide, cw_9, ⟨tyX9, tyX9_ok, nmX9⟩, tin.of 314 (by decide +kernel) rfl, rfl, rfl, by decide +kernel, fun v => ⟨rfl, rfl⟩⟩
theorem fp_X2_9 : FP RX2 9 2 0 := ⟨RX2, TX2, 9, .array (.int), rfl, by decide, cw_2, ⟨tyX2, tyX2_ok, nmX2⟩, tin.of 220 (by decide +kernel) rfl, rfl, rfl, by decide +kernel, fun v => ⟨rfl, rfl⟩⟩
theorem fp_X2_15 : FP RX2 15 2 1 := ⟨RX2, TX2, 9, .array (.int), rfl, by decide, cw_2, ⟨tyX2, tyX2_ok, nmX2⟩, tin.of 222 (by decide +kernel) rfl, rfl, rfl, by decide +kernel, fun v => ⟨rfl, rfl⟩⟩
theorem fp_X2_18 : FP RX2 18 2 2 := ⟨RX2, TX2, 9, .array (.int), rfl, by decide, cw_2, ⟨tyX2, tyX2_ok, nmX2⟩, tin.of 224 (by decide +kernel) rfl, rfl, rfl, by decide +kernel, fun v => ⟨rfl, rfl⟩⟩
theorem fp_X2_21 : FP RX2 21 2 3 := ⟨RX2, TX2, 9, .array (.int), rfl, by decide, cw_2, ⟨tyX2, tyX2_ok, nmX2⟩, tin.of 226 (by decide +kernel) rfl, rfl, rfl, by decide +kernel, fun v => ⟨rfl, rfl⟩⟩
theorem fp_X2_24 : FP RX2 24 2 4 := ⟨RX2, TX2, 9, .array (.int), rfl, by decide, cw_2, ⟨tyX2, tyX2_ok, nmX2⟩, tin.of 228 (by decide +kernel) rfl, rfl, rfl, by decide +kernel, fun v => ⟨rfl, rfl⟩⟩
theorem fp_X2_27 : FP RX2 27 2 5 := ⟨RX2, TX2, 9, .array (.int), rfl, by decide, cw_2, ⟨tyX2, tyX2_ok, nmX2⟩, tin.of 230 (by decide +kernel) rfl, rfl, rfl, by decide +kernel, fun v => ⟨rfl, rfl⟩⟩
theorem fp_X9_40 : FP RX9 40 9 4 := ⟨RX9, TX9, 9, .object "PleaPapers$Facts", rfl, by decide, cw_9, ⟨tyX9, tyX9_ok, nmX9⟩, tin.of 315 (by decide +kernel) rfl, rfl, rfl, by decide +kernel, fun v => ⟨rfl, rfl⟩⟩
theorem fp_X9_44 : FP RX9 44 9 5 := ⟨RX9, TX9, 9, .object "PleaPapers$Facts", rfl, by decide, cw_9, ⟨tyX9, tyX9_ok, nmX9⟩, tin.of 316 (by decide +kernel) rfl, rfl, rfl, by decide +kernel, fun v => ⟨rfl, rfl⟩⟩
theorem fp_X6_9 : FP RX6 9 6 0 := ⟨RX6, TX6, 2, .array (.int), rfl, by decide, cw_6, ⟨tyX6, tyX6_ok, nmX6⟩, tin.of 262 (by decide +kernel) rfl, rfl, rfl, by decide +kernel, fun v => ⟨rfl, rfl⟩⟩
theorem fp_X6_15 : FP RX6 15 6 1 := ⟨RX6, TX6, 2, .array (.int), rfl, by decide, cw_6, ⟨tyX6, tyX6_ok, nmX6⟩, tin.of 264 (by decide +kernel) rfl, rfl, rfl, by decide +kernel, fun v => ⟨rfl, rfl⟩⟩
theorem fp_X9_50 : FP RX9 50 9 6 := ⟨RX9, TX9, 9, .object "PleaPapers$Scale", rfl, by decide, cw_9, ⟨tyX9, tyX9_ok, nmX9⟩, tin.of 317 (by decide +kernel) rfl, rfl, rfl, by decide +kernel, fun v => ⟨rfl, rfl⟩⟩
def iZ3 : MI := up2 iZ2 56 3 (nI 20)
def iZ4 : MI := up2 iZ3 86 3 (nI 20)
theorem fp_X9_54 : FP RX9 54 9 7 := ⟨RX9, TX9, 9, .array (.object "PleaPapers$Suit"), rfl, by decide, cw_9, ⟨tyX9, tyX9_ok, nmX9⟩, tin.of 318 (by decide +kernel) rfl, rfl, rfl, by decide +kernel, fun v => ⟨rfl, rfl⟩⟩
theorem fp_X9_58 : FP RX9 58 9 8 := ⟨RX9, TX9, 9, .array (.boolean), rfl, by decide, cw_9, ⟨tyX9, tyX9_ok, nmX9⟩, tin.of 319 (by decide +kernel) rfl, rfl, rfl, by decide +kernel, fun v => ⟨rfl, rfl⟩⟩
theorem fp_X10_7 : FP RX10 7 10 0 := ⟨RX10, TX10, 45, .array (.int), rfl, by decide, cw_10, ⟨tyX10, tyX10_ok, nmX10⟩, tin.of 822 (by decide +kernel) rfl, rfl, rfl, by decide +kernel, fun v => ⟨rfl, rfl⟩⟩
theorem fp_X10_13 : FP RX10 13 10 1 := ⟨RX10, TX10, 45, .array (.int), rfl, by decide, cw_10, ⟨tyX10, tyX10_ok, nmX10⟩, tin.of 823 (by decide +kernel) rfl, rfl, rfl, by decide +kernel, fun v => ⟨rfl, rfl⟩⟩
theorem fp_X10_16 : FP RX10 16 10 2 := ⟨RX10, TX10, 45, .array (.int), rfl, by decide, cw_10, ⟨tyX10, tyX10_ok, nmX10⟩, tin.of 824 (by decide +kernel) rfl, rfl, rfl, by decide +kernel, fun v => ⟨rfl, rfl⟩⟩
theorem fp_X10_19 : FP RX10 19 10 3 := ⟨RX10, TX10, 45, .array (.int), rfl, by decide, cw_10, ⟨tyX10, tyX10_ok, nmX10⟩, tin.of 825 (by decide +kernel) rfl, rfl, rfl, by decide +kernel, fun v => ⟨rfl, rfl⟩⟩
theorem fp_X10_22 : FP RX10 22 10 4 := ⟨RX10, TX10, 45, .array (.int), rfl, by decide, cw_10, ⟨tyX10, tyX10_ok, nmX10⟩, tin.of 826 (by decide +kernel) rfl, rfl, rfl, by decide +kernel, fun v => ⟨rfl, rfl⟩⟩
theorem fp_X10_25 : FP RX10 25 10 5 := ⟨RX10, TX10, 45, .array (.int), rfl, by decide, cw_10, ⟨tyX10, tyX10_ok, nmX10⟩, tin.of 827 (by decide +kernel) rfl, rfl, rfl, by decide +kernel, fun v => ⟨rfl, rfl⟩⟩
theorem fp_X10_28 : FP RX10 28 10 6 := ⟨RX10, TX10, 45, .array (.boolean), rfl, by decide, cw_10, ⟨tyX10, tyX10_ok, nmX10⟩, tin.of 828 (by decide +kernel) rfl, rfl, rfl, by decide +kernel, fun v => ⟨rfl, rfl⟩⟩
theorem fp_X10_32 : FP RX10 32 10 7 := ⟨RX10, TX10, 45, .array (.int), rfl, by decide, cw_10, ⟨tyX10, tyX10_ok, nmX10⟩, tin.of 829 (by decide +kernel) rfl, rfl, rfl, by decide +kernel, fun v => ⟨rfl, rfl⟩⟩
theorem fp_X10_35 : FP RX10 35 10 8 := ⟨RX10, TX10, 45, .array (.int), rfl, by decide, cw_10, ⟨tyX10, tyX10_ok, nmX10⟩, tin.of 830 (by decide +kernel) rfl, rfl, rfl, by decide +kernel, fun v => ⟨rfl, rfl⟩⟩
theorem fp_X10_38 : FP RX10 38 10 9 := ⟨RX10, TX10, 45, .array (.int), rfl, by decide, cw_10, ⟨tyX10, tyX10_ok, nmX10⟩, tin.of 831 (by decide +kernel) rfl, rfl, rfl, by decide +kernel, fun v => ⟨rfl, rfl⟩⟩
theorem fp_X10_41 : FP RX10 41 10 10 := ⟨RX10, TX10, 45, .array (.int), rfl, by decide, cw_10, ⟨tyX10, tyX10_ok, nmX10⟩, tin.of 832 (by decide +kernel) rfl, rfl, rfl, by decide +kernel, fun v => ⟨rfl, rfl⟩⟩
theorem fp_X10_44 : FP RX10 44 10 11 := ⟨RX10, TX10, 45, .array (.int), rfl, by decide, cw_10, ⟨tyX10, tyX10_ok, nmX10⟩, tin.of 833 (by decide +kernel) rfl, rfl, rfl, by decide +kernel, fun v => ⟨rfl, rfl⟩⟩
theorem fp_X10_47 : FP RX10 47 10 12 := ⟨RX10, TX10, 45, .array (.int), rfl, by decide, cw_10, ⟨tyX10, tyX10_ok, nmX10⟩, tin.of 834 (by decide +kernel) rfl, rfl, rfl, by decide +kernel, fun v => ⟨rfl, rfl⟩⟩
theorem fp_X10_50 : FP RX10 50 10 13 := ⟨RX10, TX10, 45, .array (.boolean), rfl, by decide, cw_10, ⟨tyX10, tyX10_ok, nmX10⟩, tin.of 835 (by decide +kernel) rfl, rfl, rfl, by decide +kernel, fun v => ⟨rfl, rfl⟩⟩
theorem fp_X10_53 : FP RX10 53 10 14 := ⟨RX10, TX10, 45, .array (.int), rfl, by decide, cw_10, ⟨tyX10, tyX10_ok, nmX10⟩, tin.of 836 (by decide +kernel) rfl, rfl, rfl, by decide +kernel, fun v => ⟨rfl, rfl⟩⟩
theorem fp_X10_56 : FP RX10 56 10 15 := ⟨RX10, TX10, 45, .array (.int), rfl, by decide, cw_10, ⟨tyX10, tyX10_ok, nmX10⟩, tin.of 837 (by decide +kernel) rfl, rfl, rfl, by decide +kernel, fun v => ⟨rfl, rfl⟩⟩
theorem fp_X10_59 : FP RX10 59 10 16 := ⟨RX10, TX10, 45, .array (.boolean), rfl, by decide, cw_10, ⟨tyX10, tyX10_ok, nmX10⟩, tin.of 838 (by decide +kernel) rfl, rfl, rfl, by decide +kernel, fun v => ⟨rfl, rfl⟩⟩
theorem fp_X10_62 : FP RX10 62 10 18 := ⟨RX10, TX10, 45, .array (.int), rfl, by decide, cw_10, ⟨tyX10, tyX10_ok, nmX10⟩, tin.of 840 (by decide +kernel) rfl, rfl, rfl, by decide +kernel, fun v => ⟨rfl, rfl⟩⟩
theorem fp_X10_65 : FP RX10 65 10 19 := ⟨RX10, TX10, 45, .array (.int), rfl, by decide, cw_10, ⟨tyX10, tyX10_ok, nmX10⟩, tin.of 841 (by decide +kernel) rfl, rfl, rfl, by decide +kernel, fun v => ⟨rfl, rfl⟩⟩
theorem fp_X10_68 : FP RX10 68 10 20 := ⟨RX10, TX10, 45, .array (.int), rfl, by decide, cw_10, ⟨tyX10, tyX10_ok, nmX10⟩, tin.of 842 (by decide +kernel) rfl, rfl, rfl, by decide +kernel, fun v => ⟨rfl, rfl⟩⟩
theorem fp_X10_71 : FP RX10 71 10 21 := ⟨RX10, TX10, 45, .array (.int), rfl, by decide, cw_10, ⟨tyX10, tyX10_ok, nmX10⟩, tin.of 843 (by decide +kernel) rfl, rfl, rfl, by decide +kernel, fun v => ⟨rfl, rfl⟩⟩
theorem fp_X10_74 : FP RX10 74 10 22 := ⟨RX10, TX10, 45, .array (.int), rfl, by decide, cw_10, ⟨tyX10, tyX10_ok, nmX10⟩, tin.of 844 (by decide +kernel) rfl, rfl, rfl, by decide +kernel, fun v => ⟨rfl, rfl⟩⟩
theorem fp_X10_77 : FP RX10 77 10 23 := ⟨RX10, TX10, 45, .array (.int), rfl, by decide, cw_10, ⟨tyX10, tyX10_ok, nmX10⟩, tin.of 845 (by decide +kernel) rfl, rfl, rfl, by decide +kernel, fun v => ⟨rfl, rfl⟩⟩
theorem fp_X10_80 : FP RX10 80 10 24 := ⟨RX10, TX10, 45, .array (.int), rfl, by decide, cw_10, ⟨tyX10, tyX10_ok, nmX10⟩, tin.of 846 (by decide +kernel) rfl, rfl, rfl, by decide +kernel, fun v => ⟨rfl, rfl⟩⟩
theorem fi_X10_83 : FI RX10 83 10 30 := ⟨RX10, TX10, 45, rfl, by decide, cw_10, ⟨tyX10, tyX10_ok, nmX10⟩, tin.of 852 (by decide +kernel) rfl, rfl, by decide +kernel⟩
theorem fp_X10_87 : FP RX10 87 10 31 := ⟨RX10, TX10, 45, .array (.int), rfl, by decide, cw_10, ⟨tyX10, tyX10_ok, nmX10⟩, tin.of 853 (by decide +kernel) rfl, rfl, rfl, by decide +kernel, fun v => ⟨rfl, rfl⟩⟩
theorem fp_X10_90 : FP RX10 90 10 34 := ⟨RX10, TX10, 45, .array (.int), rfl, by decide, cw_10, ⟨tyX10, tyX10_ok, nmX10⟩, tin.of 856 (by decide +kernel) rfl, rfl, rfl, by decide +kernel, fun v => ⟨rfl, rfl⟩⟩
theorem fp_X10_93 : FP RX10 93 10 38 := ⟨RX10, TX10, 45, .array (.boolean), rfl, by decide, cw_10, ⟨tyX10, tyX10_ok, nmX10⟩, tin.of 860 (by decide +kernel) rfl, rfl, rfl, by decide +kernel, fun v => ⟨rfl, rfl⟩⟩
theorem fp_X10_96 : FP RX10 96 10 40 := ⟨RX10, TX10, 45, .array (.int), rfl, by decide, cw_10, ⟨tyX10, tyX10_ok, nmX10⟩, tin.of 862 (by decide +kernel) rfl, rfl, rfl, by decide +kernel, fun v => ⟨rfl, rfl⟩⟩
theorem fp_X10_99 : FP RX10 99 10 41 := ⟨RX10, TX10, 45, .array (.int), rfl, by decide, cw_10, ⟨tyX10, tyX10_ok, nmX10⟩, tin.of 863 (by decide +kernel) rfl, rfl, rfl, by decide +kernel, fun v => ⟨rfl, rfl⟩⟩
theorem fp_X10_102 : FP RX10 102 10 42 := ⟨RX10, TX10, 45, .array (.int), rfl, by decide, cw_10, ⟨tyX10, tyX10_ok, nmX10⟩, tin.of 864 (by decide +kernel) rfl, rfl, rfl, by decide +kernel, fun v => ⟨rfl, rfl⟩⟩
/-- all references of cell k are set at time t, and lie below B -/
def fullB (t B k : Nat) : Bool := match shT k with
  | .inl (_, fl) => (List.range fl.length).all (fun i => match fl[i]? with
    | some (some j) => ctM t k i && decide (j < B)
    | _ => true)
  | .inr (t', len, b, sp) => decide (t' < 3) || (List.range len).all (fun i => (!(t' == 3) || ctM t k i) && decide (b + sp * i < B))
theorem pE_mE {ad ad' : Nat → Nat} {t k B : Nat} {I I' : MI} {J J' : MJ} {H : Heap} {cl : List vw_C} (hf : fullB t B k = true) (ha : ad k = ad' k) (hB : ∀ j, j < B → ad j = ad' j) (hI : I k = I' k) (hJ : J k = J' k) : va_at D cl (ad k, pE cA ad t I J k) H ↔ va_at D cl (ad' k, mE cA ad' I' J' k) H := by
  unfold fullB at hf
  unfold pE mE
  cases hsh : shT k with
  | inl q =>
    obtain ⟨ci, fl⟩ := q
    rw [hsh] at hf
    have hf : (List.range fl.length).all (fun i => match fl[i]? with
      | some (some j) => ctM t k i && decide (j < B)
      | _ => true) = true := hf
    rw [List.all_eq_true] at hf
    rw [ha]
    show va_at D cl (ad' k, .inr (ci, _)) H ↔ va_at D cl (ad' k, .inr (ci, _)) H
    have e : fl.mapIdx (fun i x => match x with
      | none => Value.int (I k i)
      | some j => if ctM t k i = true then .ref (ad j) else .null) = fl.mapIdx (fun i x => fV ad' I' k i x) := by
      apply List.ext_getElem?
      intro i
      rw [List.getElem?_mapIdx, List.getElem?_mapIdx]
      by_cases hi : i < fl.length
      · have h2 := hf i (List.mem_range.mpr hi)
        cases hx : fl[i]? with
        | none => rfl
        | some x =>
          rw [hx] at h2
          cases x with
          | none => simp [fV, hI]
          | some j =>
            have h2 : (ctM t k i && decide (j < B)) = true := h2
            rw [Bool.and_eq_true, decide_eq_true_eq] at h2
            simp [fV, h2.1, hB j h2.2]
      · rw [List.getElem?_eq_none (by omega)]; rfl
    exact Iff.of_eq (congrArg (fun w : List Value => va_at D cl (ad' k, .inr (ci, w)) H) e)
  | inr q =>
    obtain ⟨t', len, b, sp⟩ := q
    rw [hsh] at hf
    have hf : (decide (t' < 3) || (List.range len).all (fun i => (!(t' == 3) || ctM t k i) && decide (b + sp * i < B))) = true := hf
    rw [ha]
    by_cases h0 : t' = 0
    · simp only [h0, if_true, hI]
    · by_cases h1 : t' = 1
      · subst h1
        simp only [hJ]
        exact Iff.rfl
      · by_cases h2 : t' = 2
        · subst h2
          simp only [hI]
          exact Iff.rfl
        · rw [decide_eq_false (by omega), Bool.false_or, List.all_eq_true] at hf
          simp only [h0, h1, h2, if_false]
          show (H[ad' k]? = some (vp_cell (cA t') (len, .inr (.inr (.inr (.inr _)))))) ↔ (H[ad' k]? = some (vp_cell (cA t') (len, .inr (.inr (.inr (.inr _))))))
          rw [vp_cell_q, vp_cell_q]
          rw [show arrV (cA t') len (fun j => va_rf (if t' = 3 ∧ ctM t k j = false then none else some (ad (b + sp * j)))) = arrV (cA t') len (fun j => va_rf (some (ad' (b + sp * j)))) from arrV_cong (fun j hj => by
            have h4 := hf j (List.mem_range.mpr hj)
            rw [Bool.and_eq_true, decide_eq_true_eq] at h4
            rw [if_neg (fun q => by rw [q.1, q.2] at h4; simp at h4), hB _ h4.2])]
section CT3
variable {p : Program} {e : Env} {R : Room} {s : State} {m : MethodId} {args : Array Value} {below : List Frame} {meth : Method} {c : Code} {Q : State → Prop} {nL : Nat} {cc : ByteArray} {own : String} {ret : Option FieldType} {cells slots : Nat} {I : MI} {J : MJ} {pc : Nat} {lo : List (Nat × Value)} {st : List Value} {t : Nat}
theorem k_fin {B : Nat} (hn : n ≤ B) (hAD : AD h0 ad) (C : fC p s m args meth c cc nL own ret D cA (fun q => h0 ≤ q)) (hf : ∀ k, k < n → fullB t B k = true) (k : V p l e R s m args below meth c Q D (fun q => h0 ≤ q) nL cells slots n ad (mE cA ad I J) pc lo st) : VC p l e R s m args below meth c Q D nL cells slots h0 ad n (pE cA ad t I J) pc lo st := fun H locs ls hz hP hS hl => k H locs ls (wsN_P.mpr (fun q hq hl => (pE_mE (hf q hq) rfl (fun _ _ => rfl) rfl rfl).mp (wsN_P.mp hP q hq hl))) hAD.D hS hl
end CT3
theorem fullB_117 : ∀ k, k < 117 → fullB 65 117 k = true := fun k hk => List.all_eq_true.mp (show (List.range 117).all (fun k => fullB 65 117 k) = true by decide +kernel) k (List.mem_range.mpr hk)
theorem fullB_148 : ∀ k, k < 148 → fullB 95 148 k = true := fun k hk => List.all_eq_true.mp (show (List.range 148).all (fun k => fullB 95 148 k) = true by decide +kernel) k (List.mem_range.mpr hk)
/-- the first state, in the component's first memory -/
theorem s0_CS0 : CS0 iZ4 jZ s0 := by
  refine ⟨⟨⟨⟨Nat.zero_le _, rfl, fun c hc => absurd hc (Nat.not_lt_zero _)⟩, fun c hc => absurd hc (Nat.not_lt_zero _)⟩, ⟨⟨Nat.zero_le _, rfl, fun p hp => absurd hp (Nat.not_lt_zero _)⟩, ⟨0, by decide, rfl⟩⟩, ⟨Nat.zero_le _, rfl, rfl, fun k hk => absurd hk (Nat.not_lt_zero _)⟩, rfl, by decide, rfl, by decide⟩, fun i hi => ⟨rfl, fun h => Bool.noConfusion h⟩, ⟨Nat.zero_le _, rfl, fun j hj => absurd hj (Nat.not_lt_zero _)⟩, rfl⟩
set_option maxHeartbeats 4000000 in
set_option maxRecDepth 100000 in
theorem cc_X8_1 (hAD : AD h0 ad) (hst : ∀ k, k < 148 → ad (k + 1) = ad k + (liv k).toNat) : Cc l cA D z h0 ad 1 yX8_init cX8_init 1 2 (pE cA ad 0 iZ0 jZ) 1 160 (CcB D ad 3 (pE cA ad 1 iZ1 jZ)) := by
  refine Cc.of hAD (by decide) rfl ?_
  intro p e s m args below meth c C hin Z O Q hret
  refine k_aload_n C 0 (dk oX8_init 0 rfl) rfl ?_
  refine k_obj C ObjW_ok (dk oX8_init 1 rfl) ko_X8 (Nat.le_of_ble_eq_true rfl) ⟨Nat.le_of_ble_eq_true rfl, Nat.le_of_ble_eq_true rfl⟩ ?_
  refine k_aload_n C 0 (dk oX8_init 2 rfl) rfl ?_
  refine k_sipush C (dk oX8_init 3 rfl) (v := nI 160) (by decide) ?_
  refine k_newaI (cells' := 1) (slots' := 160) C (dk oX8_init 4 rfl) rfl rfl (by decide) (Nat.le_of_ble_eq_true rfl) (hsl hst 2 (by decide) rfl) rfl rfl ⟨Nat.le_of_ble_eq_true rfl, Nat.le_of_ble_eq_true rfl⟩ ?_
  refine k_putR (t := 0) (j := 2) (k := 1) hAD C (dk oX8_init 5 rfl) fp_X8_9 rfl rfl (by decide) hin ?_
  refine k_aload_n C 0 (dk oX8_init 6 rfl) rfl ?_
  refine k_iconst C (dk oX8_init 7 rfl) (v := -1) (by decide) ?_
  refine k_putI hAD C (dk oX8_init 8 rfl) fi_X8_15 (k := 1) rfl (by decide) ?_
  exact k_ret hret (dk oX8_init 9 rfl)

set_option maxHeartbeats 4000000 in
set_option maxRecDepth 100000 in
theorem cc_X0_3 (hAD : AD h0 ad) (hst : ∀ k, k < 148 → ad (k + 1) = ad k + (liv k).toNat) : Cc l cA D z h0 ad 1 yX0_init cX0_init 3 4 (pE cA ad 2 iZ1 jZ) 2 240 (CcB D ad 6 (pE cA ad 4 iZ1 jZ)) := by
  refine Cc.of hAD (by decide) rfl ?_
  intro p e s m args below meth c C hin Z O Q hret
  refine k_aload_n C 0 (dk oX0_init 0 rfl) rfl ?_
  refine k_obj C ObjW_ok (dk oX0_init 1 rfl) ko_X0 (Nat.le_of_ble_eq_true rfl) ⟨Nat.le_of_ble_eq_true rfl, Nat.le_of_ble_eq_true rfl⟩ ?_
  refine k_aload_n C 0 (dk oX0_init 2 rfl) rfl ?_
  refine k_bipush C (dk oX0_init 3 rfl) (v := nI 120) (by decide) ?_
  refine k_newaI (cells' := 1) (slots' := 120) C (dk oX0_init 4 rfl) rfl rfl (by decide) (Nat.le_of_ble_eq_true rfl) (hsl hst 4 (by decide) rfl) rfl rfl ⟨Nat.le_of_ble_eq_true rfl, Nat.le_of_ble_eq_true rfl⟩ ?_
  refine k_putR (t := 2) (j := 4) (k := 3) hAD C (dk oX0_init 5 rfl) fp_X0_9 rfl rfl (by decide) hin ?_
  refine k_aload_n C 0 (dk oX0_init 6 rfl) rfl ?_
  refine k_bipush C (dk oX0_init 7 rfl) (v := nI 120) (by decide) ?_
  refine k_newaJ (cells' := 2) (slots' := 240) C (dk oX0_init 8 rfl) rfl rfl (by decide) (Nat.le_of_ble_eq_true rfl) (hsl hst 5 (by decide) rfl) rfl rfl ⟨Nat.le_of_ble_eq_true rfl, Nat.le_of_ble_eq_true rfl⟩ ?_
  refine k_putR (t := 3) (j := 5) (k := 3) hAD C (dk oX0_init 9 rfl) fp_X0_15 rfl rfl (by decide) hin ?_
  exact k_ret hret (dk oX0_init 10 rfl)

set_option maxHeartbeats 4000000 in
set_option maxRecDepth 100000 in
theorem cc_X3_6 (hAD : AD h0 ad) (hst : ∀ k, k < 148 → ad (k + 1) = ad k + (liv k).toNat) : Cc l cA D z h0 ad 1 yX3_init cX3_init 6 7 (pE cA ad 5 iZ1 jZ) 1 12 (CcB D ad 8 (pE cA ad 6 iZ1 jZ)) := by
  refine Cc.of hAD (by decide) rfl ?_
  intro p e s m args below meth c C hin Z O Q hret
  refine k_aload_n C 0 (dk oX3_init 0 rfl) rfl ?_
  refine k_obj C ObjW_ok (dk oX3_init 1 rfl) ko_X3 (Nat.le_of_ble_eq_true rfl) ⟨Nat.le_of_ble_eq_true rfl, Nat.le_of_ble_eq_true rfl⟩ ?_
  refine k_aload_n C 0 (dk oX3_init 2 rfl) rfl ?_
  refine k_bipush C (dk oX3_init 3 rfl) (v := nI 12) (by decide) ?_
  refine k_newaI (cells' := 1) (slots' := 12) C (dk oX3_init 4 rfl) rfl rfl (by decide) (Nat.le_of_ble_eq_true rfl) (hsl hst 7 (by decide) rfl) rfl rfl ⟨Nat.le_of_ble_eq_true rfl, Nat.le_of_ble_eq_true rfl⟩ ?_
  refine k_putR (t := 5) (j := 7) (k := 6) hAD C (dk oX3_init 5 rfl) fp_X3_9 rfl rfl (by decide) hin ?_
  exact k_ret hret (dk oX3_init 6 rfl)

set_option maxHeartbeats 4000000 in
set_option maxRecDepth 100000 in
theorem cc_X1_9 (hAD : AD h0 ad) (hst : ∀ k, k < 148 → ad (k + 1) = ad k + (liv k).toNat) : Cc l cA D z h0 ad 1 yX1_init cX1_init 9 10 (pE cA ad 7 iZ1 jZ) 9 402 (CcB D ad 19 (pE cA ad 10 iZ1 jZ)) := by
  refine Cc.of hAD (by decide) rfl ?_
  intro p e s m args below meth c C hin Z O Q hret
  refine k_aload_n C 0 (dk oX1_init 0 rfl) rfl ?_
  refine k_obj C ObjW_ok (dk oX1_init 1 rfl) ko_X1 (Nat.le_of_ble_eq_true rfl) ⟨Nat.le_of_ble_eq_true rfl, Nat.le_of_ble_eq_true rfl⟩ ?_
  refine k_aload_n C 0 (dk oX1_init 2 rfl) rfl ?_
  refine k_bipush C (dk oX1_init 3 rfl) (v := nI 6) (by decide) ?_
  refine k_newaI (cells' := 1) (slots' := 6) C (dk oX1_init 4 rfl) rfl rfl (by decide) (Nat.le_of_ble_eq_true rfl) (hsl hst 10 (by decide) rfl) rfl rfl ⟨Nat.le_of_ble_eq_true rfl, Nat.le_of_ble_eq_true rfl⟩ ?_
  refine k_putR (t := 7) (j := 10) (k := 9) hAD C (dk oX1_init 5 rfl) fp_X1_9 rfl rfl (by decide) hin ?_
  refine k_aload_n C 0 (dk oX1_init 6 rfl) rfl ?_
  refine k_bipush C (dk oX1_init 7 rfl) (v := nI 6) (by decide) ?_
  refine k_newaI (cells' := 2) (slots' := 12) C (dk oX1_init 8 rfl) rfl rfl (by decide) (Nat.le_of_ble_eq_true rfl) (hsl hst 11 (by decide) rfl) rfl rfl ⟨Nat.le_of_ble_eq_true rfl, Nat.le_of_ble_eq_true rfl⟩ ?_
  refine k_putR (t := 8) (j := 11) (k := 9) hAD C (dk oX1_init 9 rfl) fp_X1_15 rfl rfl (by decide) hin ?_
  refine k_aload_n C 0 (dk oX1_init 10 rfl) rfl ?_
  refine k_bipush C (dk oX1_init 11 rfl) (v := nI 6) (by decide) ?_
  refine k_bipush C (dk oX1_init 12 rfl) (v := nI 64) (by decide) ?_
  refine k_mnaJ (cells' := 9) (slots' := 402) (K := 64) O C (dk oX1_init 13 rfl) kc_X1_18 rfl (fun i hi => match i, hi with
    | 0, _ => ⟨rfl, rfl⟩
    | 1, _ => ⟨rfl, rfl⟩
    | 2, _ => ⟨rfl, rfl⟩
    | 3, _ => ⟨rfl, rfl⟩
    | 4, _ => ⟨rfl, rfl⟩
    | 5, _ => ⟨rfl, rfl⟩
    | _ + 6, h => absurd h (by omega)) (by decide) (fun i hi => match i, hi with
    | 0, _ => ahs hst 12 0 (by decide) (by decide)
    | 1, _ => ahs hst 12 1 (by decide) (by decide)
    | 2, _ => ahs hst 12 2 (by decide) (by decide)
    | 3, _ => ahs hst 12 3 (by decide) (by decide)
    | 4, _ => ahs hst 12 4 (by decide) (by decide)
    | 5, _ => ahs hst 12 5 (by decide) (by decide)
    | 6, _ => ahs hst 12 6 (by decide) (by decide)
    | _ + 7, h => absurd h (by omega)) rfl rfl ⟨Nat.le_of_ble_eq_true rfl, Nat.le_of_ble_eq_true rfl⟩ ?_
  refine k_putR (t := 9) (j := 12) (k := 9) hAD C (dk oX1_init 14 rfl) fp_X1_20 rfl rfl (by decide) hin ?_
  exact k_ret hret (dk oX1_init 15 rfl)

set_option maxHeartbeats 4000000 in
set_option maxRecDepth 100000 in
theorem cc_X4_19 (hAD : AD h0 ad) (hst : ∀ k, k < 148 → ad (k + 1) = ad k + (liv k).toNat) : Cc l cA D z h0 ad 1 yX4_init cX4_init 19 20 (pE cA ad 11 iZ1 jZ) 12 140 (CcB D ad 33 (pE cA ad 13 iZ1 jZ)) := by
  refine Cc.of hAD (by decide) rfl ?_
  intro p e s m args below meth c C hin Z O Q hret
  refine k_aload_n C 0 (dk oX4_init 0 rfl) rfl ?_
  refine k_obj C ObjW_ok (dk oX4_init 1 rfl) ko_X4 (Nat.le_of_ble_eq_true rfl) ⟨Nat.le_of_ble_eq_true rfl, Nat.le_of_ble_eq_true rfl⟩ ?_
  refine k_aload_n C 0 (dk oX4_init 2 rfl) rfl ?_
  refine k_bipush C (dk oX4_init 3 rfl) (v := nI 10) (by decide) ?_
  refine k_newaI (cells' := 1) (slots' := 10) C (dk oX4_init 4 rfl) rfl rfl (by decide) (Nat.le_of_ble_eq_true rfl) (hsl hst 20 (by decide) rfl) rfl rfl ⟨Nat.le_of_ble_eq_true rfl, Nat.le_of_ble_eq_true rfl⟩ ?_
  refine k_putR (t := 11) (j := 20) (k := 19) hAD C (dk oX4_init 5 rfl) fp_X4_9 rfl rfl (by decide) hin ?_
  refine k_aload_n C 0 (dk oX4_init 6 rfl) rfl ?_
  refine k_bipush C (dk oX4_init 7 rfl) (v := nI 10) (by decide) ?_
  refine k_bipush C (dk oX4_init 8 rfl) (v := nI 12) (by decide) ?_
  refine k_skip rfl (hs0 hst 21 (by decide) rfl) ?_
  refine k_mnaI (cells' := 12) (slots' := 140) (K := 12) O C (dk oX4_init 9 rfl) kc_X4_15 rfl (fun i hi => match i, hi with
    | 0, _ => ⟨rfl, rfl⟩
    | 1, _ => ⟨rfl, rfl⟩
    | 2, _ => ⟨rfl, rfl⟩
    | 3, _ => ⟨rfl, rfl⟩
    | 4, _ => ⟨rfl, rfl⟩
    | 5, _ => ⟨rfl, rfl⟩
    | 6, _ => ⟨rfl, rfl⟩
    | 7, _ => ⟨rfl, rfl⟩
    | 8, _ => ⟨rfl, rfl⟩
    | 9, _ => ⟨rfl, rfl⟩
    | _ + 10, h => absurd h (by omega)) (by decide) (fun i hi => match i, hi with
    | 0, _ => ahs hst 22 0 (by decide) (by decide)
    | 1, _ => ahs hst 22 1 (by decide) (by decide)
    | 2, _ => ahs hst 22 2 (by decide) (by decide)
    | 3, _ => ahs hst 22 3 (by decide) (by decide)
    | 4, _ => ahs hst 22 4 (by decide) (by decide)
    | 5, _ => ahs hst 22 5 (by decide) (by decide)
    | 6, _ => ahs hst 22 6 (by decide) (by decide)
    | 7, _ => ahs hst 22 7 (by decide) (by decide)
    | 8, _ => ahs hst 22 8 (by decide) (by decide)
    | 9, _ => ahs hst 22 9 (by decide) (by decide)
    | 10, _ => ahs hst 22 10 (by decide) (by decide)
    | _ + 11, h => absurd h (by omega)) rfl rfl ⟨Nat.le_of_ble_eq_true rfl, Nat.le_of_ble_eq_true rfl⟩ ?_
  refine k_putR (t := 12) (j := 22) (k := 19) hAD C (dk oX4_init 10 rfl) fp_X4_17 rfl rfl (by decide) hin ?_
  exact k_ret hret (dk oX4_init 11 rfl)

set_option maxHeartbeats 4000000 in
set_option maxRecDepth 100000 in
theorem cc_X5_33 (hAD : AD h0 ad) (hst : ∀ k, k < 148 → ad (k + 1) = ad k + (liv k).toNat) : Cc l cA D z h0 ad 1 yX5_init cX5_init 33 34 (pE cA ad 14 iZ1 jZ) 4 64 (CcB D ad 38 (pE cA ad 18 iZ1 jZ)) := by
  refine Cc.of hAD (by decide) rfl ?_
  intro p e s m args below meth c C hin Z O Q hret
  refine k_aload_n C 0 (dk oX5_init 0 rfl) rfl ?_
  refine k_obj C ObjW_ok (dk oX5_init 1 rfl) ko_X5 (Nat.le_of_ble_eq_true rfl) ⟨Nat.le_of_ble_eq_true rfl, Nat.le_of_ble_eq_true rfl⟩ ?_
  refine k_aload_n C 0 (dk oX5_init 2 rfl) rfl ?_
  refine k_bipush C (dk oX5_init 3 rfl) (v := nI 16) (by decide) ?_
  refine k_newaI (cells' := 1) (slots' := 16) C (dk oX5_init 4 rfl) rfl rfl (by decide) (Nat.le_of_ble_eq_true rfl) (hsl hst 34 (by decide) rfl) rfl rfl ⟨Nat.le_of_ble_eq_true rfl, Nat.le_of_ble_eq_true rfl⟩ ?_
  refine k_putR (t := 14) (j := 34) (k := 33) hAD C (dk oX5_init 5 rfl) fp_X5_9 rfl rfl (by decide) hin ?_
  refine k_aload_n C 0 (dk oX5_init 6 rfl) rfl ?_
  refine k_bipush C (dk oX5_init 7 rfl) (v := nI 16) (by decide) ?_
  refine k_newaI (cells' := 2) (slots' := 32) C (dk oX5_init 8 rfl) rfl rfl (by decide) (Nat.le_of_ble_eq_true rfl) (hsl hst 35 (by decide) rfl) rfl rfl ⟨Nat.le_of_ble_eq_true rfl, Nat.le_of_ble_eq_true rfl⟩ ?_
  refine k_putR (t := 15) (j := 35) (k := 33) hAD C (dk oX5_init 9 rfl) fp_X5_15 rfl rfl (by decide) hin ?_
  refine k_aload_n C 0 (dk oX5_init 10 rfl) rfl ?_
  refine k_bipush C (dk oX5_init 11 rfl) (v := nI 16) (by decide) ?_
  refine k_newaI (cells' := 3) (slots' := 48) C (dk oX5_init 12 rfl) rfl rfl (by decide) (Nat.le_of_ble_eq_true rfl) (hsl hst 36 (by decide) rfl) rfl rfl ⟨Nat.le_of_ble_eq_true rfl, Nat.le_of_ble_eq_true rfl⟩ ?_
  refine k_putR (t := 16) (j := 36) (k := 33) hAD C (dk oX5_init 13 rfl) fp_X5_18 rfl rfl (by decide) hin ?_
  refine k_aload_n C 0 (dk oX5_init 14 rfl) rfl ?_
  refine k_bipush C (dk oX5_init 15 rfl) (v := nI 16) (by decide) ?_
  refine k_newaI (cells' := 4) (slots' := 64) C (dk oX5_init 16 rfl) rfl rfl (by decide) (Nat.le_of_ble_eq_true rfl) (hsl hst 37 (by decide) rfl) rfl rfl ⟨Nat.le_of_ble_eq_true rfl, Nat.le_of_ble_eq_true rfl⟩ ?_
  refine k_putR (t := 17) (j := 37) (k := 33) hAD C (dk oX5_init 17 rfl) fp_X5_21 rfl rfl (by decide) hin ?_
  exact k_ret hret (dk oX5_init 18 rfl)

set_option maxHeartbeats 4000000 in
set_option maxRecDepth 100000 in
theorem cc_X7_8 (hAD : AD h0 ad) (hst : ∀ k, k < 148 → ad (k + 1) = ad k + (liv k).toNat) : Cc l cA D z h0 ad 2 yX7_init cX7_init 8 9 (pE cA ad 7 iZ1 jZ) 28 620 (CcB D ad 38 (pE cA ad 19 iZ2 jZ)) := by
  refine Cc.of hAD (by decide) rfl ?_
  intro p e s m args below meth c C hin Z O Q hret
  refine k_aload_n C 0 (dk oX7_init 0 rfl) rfl ?_
  refine k_obj C ObjW_ok (dk oX7_init 1 rfl) ko_X7 (Nat.le_of_ble_eq_true rfl) ⟨Nat.le_of_ble_eq_true rfl, Nat.le_of_ble_eq_true rfl⟩ ?_
  refine k_aload_n C 0 (dk oX7_init 2 rfl) rfl ?_
  refine k_new (cells' := 1) (slots' := 4) (fs := dfl_1) C (dk oX7_init 3 rfl) kc_X7_9 kp_X1 (ci := 1) rfl cw_1 tyX1 tyX1_ok (pE_new (fl := [none, some 10, some 11, some 12]) rfl rfl rfl) df_1 (hsl hst 9 (by decide) rfl) rfl rfl ⟨Nat.le_of_ble_eq_true rfl, Nat.le_of_ble_eq_true rfl⟩ ?_
  refine k_dup C (dk oX7_init 4 rfl) rfl ?_
  refine k_call (cells' := 10) (slots' := 406) (n1 := 19) (E1 := pE cA ad 10 iZ1 jZ) hAD C Z O (dk oX7_init 5 rfl) cl_X7_11 ii_X1_init rfl (cc_X1_9 hAD hst) ⟨Nat.le_of_ble_eq_true rfl, Nat.le_of_ble_eq_true rfl⟩ (Nat.le_of_ble_eq_true rfl) rfl rfl ⟨Nat.le_of_ble_eq_true rfl, Nat.le_of_ble_eq_true rfl⟩ ?_
  refine k_putR (t := 10) (j := 9) (k := 8) hAD C (dk oX7_init 6 rfl) fp_X7_12 rfl rfl (by decide) hin ?_
  refine k_aload_n C 0 (dk oX7_init 7 rfl) rfl ?_
  refine k_new (cells' := 11) (slots' := 410) (fs := dfl_4) C (dk oX7_init 8 rfl) kc_X7_18 kp_X4 (ci := 4) rfl cw_4 tyX4 tyX4_ok (pE_new (fl := [none, none, some 20, some 22]) rfl rfl rfl) df_4 (hsl hst 19 (by decide) rfl) rfl rfl ⟨Nat.le_of_ble_eq_true rfl, Nat.le_of_ble_eq_true rfl⟩ ?_
  refine k_dup C (dk oX7_init 9 rfl) rfl ?_
  refine k_call (cells' := 23) (slots' := 550) (n1 := 33) (E1 := pE cA ad 13 iZ1 jZ) hAD C Z O (dk oX7_init 10 rfl) cl_X7_20 ii_X4_init rfl (cc_X4_19 hAD hst) ⟨Nat.le_of_ble_eq_true rfl, Nat.le_of_ble_eq_true rfl⟩ (Nat.le_of_ble_eq_true rfl) rfl rfl ⟨Nat.le_of_ble_eq_true rfl, Nat.le_of_ble_eq_true rfl⟩ ?_
  refine k_putR (t := 13) (j := 19) (k := 8) hAD C (dk oX7_init 11 rfl) fp_X7_21 rfl rfl (by decide) hin ?_
  refine k_aload_n C 0 (dk oX7_init 12 rfl) rfl ?_
  refine k_new (cells' := 24) (slots' := 556) (fs := dfl_5) C (dk oX7_init 13 rfl) kc_X7_25 kp_X5 (ci := 5) rfl cw_5 tyX5 tyX5_ok (pE_new (fl := [none, none, some 34, some 35, some 36, some 37]) rfl rfl rfl) df_5 (hsl hst 33 (by decide) rfl) rfl rfl ⟨Nat.le_of_ble_eq_true rfl, Nat.le_of_ble_eq_true rfl⟩ ?_
  refine k_dup C (dk oX7_init 14 rfl) rfl ?_
  refine k_call (cells' := 28) (slots' := 620) (n1 := 38) (E1 := pE cA ad 18 iZ1 jZ) hAD C Z O (dk oX7_init 15 rfl) cl_X7_27 ii_X5_init rfl (cc_X5_33 hAD hst) ⟨Nat.le_of_ble_eq_true rfl, Nat.le_of_ble_eq_true rfl⟩ (Nat.le_of_ble_eq_true rfl) rfl rfl ⟨Nat.le_of_ble_eq_true rfl, Nat.le_of_ble_eq_true rfl⟩ ?_
  refine k_putR (t := 18) (j := 33) (k := 8) hAD C (dk oX7_init 16 rfl) fp_X7_28 rfl rfl (by decide) hin ?_
  refine k_aload_n C 0 (dk oX7_init 17 rfl) rfl ?_
  refine k_bipush C (dk oX7_init 18 rfl) (v := nI 20) (by decide) ?_
  refine k_putI hAD C (dk oX7_init 19 rfl) fi_X7_32 (k := 8) rfl (by decide) ?_
  exact k_ret hret (dk oX7_init 20 rfl)

set_option maxHeartbeats 4000000 in
set_option maxRecDepth 100000 in
theorem cc_X2_38 (hAD : AD h0 ad) (hst : ∀ k, k < 148 → ad (k + 1) = ad k + (liv k).toNat) : Cc l cA D z h0 ad 1 yX2_init cX2_init 38 39 (pE cA ad 20 iZ2 jZ) 6 70 (CcB D ad 45 (pE cA ad 26 iZ2 jZ)) := by
  refine Cc.of hAD (by decide) rfl ?_
  intro p e s m args below meth c C hin Z O Q hret
  refine k_aload_n C 0 (dk oX2_init 0 rfl) rfl ?_
  refine k_obj C ObjW_ok (dk oX2_init 1 rfl) ko_X2 (Nat.le_of_ble_eq_true rfl) ⟨Nat.le_of_ble_eq_true rfl, Nat.le_of_ble_eq_true rfl⟩ ?_
  refine k_aload_n C 0 (dk oX2_init 2 rfl) rfl ?_
  refine k_bipush C (dk oX2_init 3 rfl) (v := nI 12) (by decide) ?_
  refine k_newaI (cells' := 1) (slots' := 12) C (dk oX2_init 4 rfl) rfl rfl (by decide) (Nat.le_of_ble_eq_true rfl) (hsl hst 39 (by decide) rfl) rfl rfl ⟨Nat.le_of_ble_eq_true rfl, Nat.le_of_ble_eq_true rfl⟩ ?_
  refine k_putR (t := 20) (j := 39) (k := 38) hAD C (dk oX2_init 5 rfl) fp_X2_9 rfl rfl (by decide) hin ?_
  refine k_aload_n C 0 (dk oX2_init 6 rfl) rfl ?_
  refine k_bipush C (dk oX2_init 7 rfl) (v := nI 12) (by decide) ?_
  refine k_newaI (cells' := 2) (slots' := 24) C (dk oX2_init 8 rfl) rfl rfl (by decide) (Nat.le_of_ble_eq_true rfl) (hsl hst 40 (by decide) rfl) rfl rfl ⟨Nat.le_of_ble_eq_true rfl, Nat.le_of_ble_eq_true rfl⟩ ?_
  refine k_putR (t := 21) (j := 40) (k := 38) hAD C (dk oX2_init 9 rfl) fp_X2_15 rfl rfl (by decide) hin ?_
  refine k_aload_n C 0 (dk oX2_init 10 rfl) rfl ?_
  refine k_bipush C (dk oX2_init 11 rfl) (v := nI 12) (by decide) ?_
  refine k_newaI (cells' := 3) (slots' := 36) C (dk oX2_init 12 rfl) rfl rfl (by decide) (Nat.le_of_ble_eq_true rfl) (hsl hst 41 (by decide) rfl) rfl rfl ⟨Nat.le_of_ble_eq_true rfl, Nat.le_of_ble_eq_true rfl⟩ ?_
  refine k_putR (t := 22) (j := 41) (k := 38) hAD C (dk oX2_init 13 rfl) fp_X2_18 rfl rfl (by decide) hin ?_
  refine k_aload_n C 0 (dk oX2_init 14 rfl) rfl ?_
  refine k_bipush C (dk oX2_init 15 rfl) (v := nI 12) (by decide) ?_
  refine k_newaI (cells' := 4) (slots' := 48) C (dk oX2_init 16 rfl) rfl rfl (by decide) (Nat.le_of_ble_eq_true rfl) (hsl hst 42 (by decide) rfl) rfl rfl ⟨Nat.le_of_ble_eq_true rfl, Nat.le_of_ble_eq_true rfl⟩ ?_
  refine k_putR (t := 23) (j := 42) (k := 38) hAD C (dk oX2_init 17 rfl) fp_X2_21 rfl rfl (by decide) hin ?_
  refine k_aload_n C 0 (dk oX2_init 18 rfl) rfl ?_
  refine k_bipush C (dk oX2_init 19 rfl) (v := nI 12) (by decide) ?_
  refine k_newaI (cells' := 5) (slots' := 60) C (dk oX2_init 20 rfl) rfl rfl (by decide) (Nat.le_of_ble_eq_true rfl) (hsl hst 43 (by decide) rfl) rfl rfl ⟨Nat.le_of_ble_eq_true rfl, Nat.le_of_ble_eq_true rfl⟩ ?_
  refine k_putR (t := 24) (j := 43) (k := 38) hAD C (dk oX2_init 21 rfl) fp_X2_24 rfl rfl (by decide) hin ?_
  refine k_aload_n C 0 (dk oX2_init 22 rfl) rfl ?_
  refine k_bipush C (dk oX2_init 23 rfl) (v := nI 10) (by decide) ?_
  refine k_newaI (cells' := 6) (slots' := 70) C (dk oX2_init 24 rfl) rfl rfl (by decide) (Nat.le_of_ble_eq_true rfl) (hsl hst 44 (by decide) rfl) rfl rfl ⟨Nat.le_of_ble_eq_true rfl, Nat.le_of_ble_eq_true rfl⟩ ?_
  refine k_putR (t := 25) (j := 44) (k := 38) hAD C (dk oX2_init 25 rfl) fp_X2_27 rfl rfl (by decide) hin ?_
  exact k_ret hret (dk oX2_init 26 rfl)

set_option maxHeartbeats 4000000 in
set_option maxRecDepth 100000 in
theorem cc_X2_45 (hAD : AD h0 ad) (hst : ∀ k, k < 148 → ad (k + 1) = ad k + (liv k).toNat) : Cc l cA D z h0 ad 1 yX2_init cX2_init 45 46 (pE cA ad 27 iZ2 jZ) 6 70 (CcB D ad 52 (pE cA ad 33 iZ2 jZ)) := by
  refine Cc.of hAD (by decide) rfl ?_
  intro p e s m args below meth c C hin Z O Q hret
  refine k_aload_n C 0 (dk oX2_init 0 rfl) rfl ?_
  refine k_obj C ObjW_ok (dk oX2_init 1 rfl) ko_X2 (Nat.le_of_ble_eq_true rfl) ⟨Nat.le_of_ble_eq_true rfl, Nat.le_of_ble_eq_true rfl⟩ ?_
  refine k_aload_n C 0 (dk oX2_init 2 rfl) rfl ?_
  refine k_bipush C (dk oX2_init 3 rfl) (v := nI 12) (by decide) ?_
  refine k_newaI (cells' := 1) (slots' := 12) C (dk oX2_init 4 rfl) rfl rfl (by decide) (Nat.le_of_ble_eq_true rfl) (hsl hst 46 (by decide) rfl) rfl rfl ⟨Nat.le_of_ble_eq_true rfl, Nat.le_of_ble_eq_true rfl⟩ ?_
  refine k_putR (t := 27) (j := 46) (k := 45) hAD C (dk oX2_init 5 rfl) fp_X2_9 rfl rfl (by decide) hin ?_
  refine k_aload_n C 0 (dk oX2_init 6 rfl) rfl ?_
  refine k_bipush C (dk oX2_init 7 rfl) (v := nI 12) (by decide) ?_
  refine k_newaI (cells' := 2) (slots' := 24) C (dk oX2_init 8 rfl) rfl rfl (by decide) (Nat.le_of_ble_eq_true rfl) (hsl hst 47 (by decide) rfl) rfl rfl ⟨Nat.le_of_ble_eq_true rfl, Nat.le_of_ble_eq_true rfl⟩ ?_
  refine k_putR (t := 28) (j := 47) (k := 45) hAD C (dk oX2_init 9 rfl) fp_X2_15 rfl rfl (by decide) hin ?_
  refine k_aload_n C 0 (dk oX2_init 10 rfl) rfl ?_
  refine k_bipush C (dk oX2_init 11 rfl) (v := nI 12) (by decide) ?_
  refine k_newaI (cells' := 3) (slots' := 36) C (dk oX2_init 12 rfl) rfl rfl (by decide) (Nat.le_of_ble_eq_true rfl) (hsl hst 48 (by decide) rfl) rfl rfl ⟨Nat.le_of_ble_eq_true rfl, Nat.le_of_ble_eq_true rfl⟩ ?_
  refine k_putR (t := 29) (j := 48) (k := 45) hAD C (dk oX2_init 13 rfl) fp_X2_18 rfl rfl (by decide) hin ?_
  refine k_aload_n C 0 (dk oX2_init 14 rfl) rfl ?_
  refine k_bipush C (dk oX2_init 15 rfl) (v := nI 12) (by decide) ?_
  refine k_newaI (cells' := 4) (slots' := 48) C (dk oX2_init 16 rfl) rfl rfl (by decide) (Nat.le_of_ble_eq_true rfl) (hsl hst 49 (by decide) rfl) rfl rfl ⟨Nat.le_of_ble_eq_true rfl, Nat.le_of_ble_eq_true rfl⟩ ?_
  refine k_putR (t := 30) (j := 49) (k := 45) hAD C (dk oX2_init 17 rfl) fp_X2_21 rfl rfl (by decide) hin ?_
  refine k_aload_n C 0 (dk oX2_init 18 rfl) rfl ?_
  refine k_bipush C (dk oX2_init 19 rfl) (v := nI 12) (by decide) ?_
  refine k_newaI (cells' := 5) (slots' := 60) C (dk oX2_init 20 rfl) rfl rfl (by decide) (Nat.le_of_ble_eq_true rfl) (hsl hst 50 (by decide) rfl) rfl rfl ⟨Nat.le_of_ble_eq_true rfl, Nat.le_of_ble_eq_true rfl⟩ ?_
  refine k_putR (t := 31) (j := 50) (k := 45) hAD C (dk oX2_init 21 rfl) fp_X2_24 rfl rfl (by decide) hin ?_
  refine k_aload_n C 0 (dk oX2_init 22 rfl) rfl ?_
  refine k_bipush C (dk oX2_init 23 rfl) (v := nI 10) (by decide) ?_
  refine k_newaI (cells' := 6) (slots' := 70) C (dk oX2_init 24 rfl) rfl rfl (by decide) (Nat.le_of_ble_eq_true rfl) (hsl hst 51 (by decide) rfl) rfl rfl ⟨Nat.le_of_ble_eq_true rfl, Nat.le_of_ble_eq_true rfl⟩ ?_
  refine k_putR (t := 32) (j := 51) (k := 45) hAD C (dk oX2_init 25 rfl) fp_X2_27 rfl rfl (by decide) hin ?_
  exact k_ret hret (dk oX2_init 26 rfl)

set_option maxHeartbeats 4000000 in
set_option maxRecDepth 100000 in
theorem cc_X6_52 (hAD : AD h0 ad) (hst : ∀ k, k < 148 → ad (k + 1) = ad k + (liv k).toNat) : Cc l cA D z h0 ad 1 yX6_init cX6_init 52 53 (pE cA ad 34 iZ2 jZ) 2 18 (CcB D ad 55 (pE cA ad 36 iZ2 jZ)) := by
  refine Cc.of hAD (by decide) rfl ?_
  intro p e s m args below meth c C hin Z O Q hret
  refine k_aload_n C 0 (dk oX6_init 0 rfl) rfl ?_
  refine k_obj C ObjW_ok (dk oX6_init 1 rfl) ko_X6 (Nat.le_of_ble_eq_true rfl) ⟨Nat.le_of_ble_eq_true rfl, Nat.le_of_ble_eq_true rfl⟩ ?_
  refine k_aload_n C 0 (dk oX6_init 2 rfl) rfl ?_
  refine k_bipush C (dk oX6_init 3 rfl) (v := nI 12) (by decide) ?_
  refine k_newaI (cells' := 1) (slots' := 12) C (dk oX6_init 4 rfl) rfl rfl (by decide) (Nat.le_of_ble_eq_true rfl) (hsl hst 53 (by decide) rfl) rfl rfl ⟨Nat.le_of_ble_eq_true rfl, Nat.le_of_ble_eq_true rfl⟩ ?_
  refine k_putR (t := 34) (j := 53) (k := 52) hAD C (dk oX6_init 5 rfl) fp_X6_9 rfl rfl (by decide) hin ?_
  refine k_aload_n C 0 (dk oX6_init 6 rfl) rfl ?_
  refine k_bipush C (dk oX6_init 7 rfl) (v := nI 6) (by decide) ?_
  refine k_newaI (cells' := 2) (slots' := 18) C (dk oX6_init 8 rfl) rfl rfl (by decide) (Nat.le_of_ble_eq_true rfl) (hsl hst 54 (by decide) rfl) rfl rfl ⟨Nat.le_of_ble_eq_true rfl, Nat.le_of_ble_eq_true rfl⟩ ?_
  refine k_putR (t := 35) (j := 54) (k := 52) hAD C (dk oX6_init 9 rfl) fp_X6_15 rfl rfl (by decide) hin ?_
  exact k_ret hret (dk oX6_init 10 rfl)

set_option maxHeartbeats 4000000 in
set_option maxRecDepth 100000 in
theorem cc_X1_57 (hAD : AD h0 ad) (hst : ∀ k, k < 148 → ad (k + 1) = ad k + (liv k).toNat) : Cc l cA D z h0 ad 1 yX1_init cX1_init 57 58 (pE cA ad 37 iZ2 jZ) 9 402 (CcB D ad 67 (pE cA ad 40 iZ2 jZ)) := by
  refine Cc.of hAD (by decide) rfl ?_
  intro p e s m args below meth c C hin Z O Q hret
  refine k_aload_n C 0 (dk oX1_init 0 rfl) rfl ?_
  refine k_obj C ObjW_ok (dk oX1_init 1 rfl) ko_X1 (Nat.le_of_ble_eq_true rfl) ⟨Nat.le_of_ble_eq_true rfl, Nat.le_of_ble_eq_true rfl⟩ ?_
  refine k_aload_n C 0 (dk oX1_init 2 rfl) rfl ?_
  refine k_bipush C (dk oX1_init 3 rfl) (v := nI 6) (by decide) ?_
  refine k_newaI (cells' := 1) (slots' := 6) C (dk oX1_init 4 rfl) rfl rfl (by decide) (Nat.le_of_ble_eq_true rfl) (hsl hst 58 (by decide) rfl) rfl rfl ⟨Nat.le_of_ble_eq_true rfl, Nat.le_of_ble_eq_true rfl⟩ ?_
  refine k_putR (t := 37) (j := 58) (k := 57) hAD C (dk oX1_init 5 rfl) fp_X1_9 rfl rfl (by decide) hin ?_
  refine k_aload_n C 0 (dk oX1_init 6 rfl) rfl ?_
  refine k_bipush C (dk oX1_init 7 rfl) (v := nI 6) (by decide) ?_
  refine k_newaI (cells' := 2) (slots' := 12) C (dk oX1_init 8 rfl) rfl rfl (by decide) (Nat.le_of_ble_eq_true rfl) (hsl hst 59 (by decide) rfl) rfl rfl ⟨Nat.le_of_ble_eq_true rfl, Nat.le_of_ble_eq_true rfl⟩ ?_
  refine k_putR (t := 38) (j := 59) (k := 57) hAD C (dk oX1_init 9 rfl) fp_X1_15 rfl rfl (by decide) hin ?_
  refine k_aload_n C 0 (dk oX1_init 10 rfl) rfl ?_
  refine k_bipush C (dk oX1_init 11 rfl) (v := nI 6) (by decide) ?_
  refine k_bipush C (dk oX1_init 12 rfl) (v := nI 64) (by decide) ?_
  refine k_mnaJ (cells' := 9) (slots' := 402) (K := 64) O C (dk oX1_init 13 rfl) kc_X1_18 rfl (fun i hi => match i, hi with
    | 0, _ => ⟨rfl, rfl⟩
    | 1, _ => ⟨rfl, rfl⟩
    | 2, _ => ⟨rfl, rfl⟩
    | 3, _ => ⟨rfl, rfl⟩
    | 4, _ => ⟨rfl, rfl⟩
    | 5, _ => ⟨rfl, rfl⟩
    | _ + 6, h => absurd h (by omega)) (by decide) (fun i hi => match i, hi with
    | 0, _ => ahs hst 60 0 (by decide) (by decide)
    | 1, _ => ahs hst 60 1 (by decide) (by decide)
    | 2, _ => ahs hst 60 2 (by decide) (by decide)
    | 3, _ => ahs hst 60 3 (by decide) (by decide)
    | 4, _ => ahs hst 60 4 (by decide) (by decide)
    | 5, _ => ahs hst 60 5 (by decide) (by decide)
    | 6, _ => ahs hst 60 6 (by decide) (by decide)
    | _ + 7, h => absurd h (by omega)) rfl rfl ⟨Nat.le_of_ble_eq_true rfl, Nat.le_of_ble_eq_true rfl⟩ ?_
  refine k_putR (t := 39) (j := 60) (k := 57) hAD C (dk oX1_init 14 rfl) fp_X1_20 rfl rfl (by decide) hin ?_
  exact k_ret hret (dk oX1_init 15 rfl)

set_option maxHeartbeats 4000000 in
set_option maxRecDepth 100000 in
theorem cc_X4_67 (hAD : AD h0 ad) (hst : ∀ k, k < 148 → ad (k + 1) = ad k + (liv k).toNat) : Cc l cA D z h0 ad 1 yX4_init cX4_init 67 68 (pE cA ad 41 iZ2 jZ) 12 140 (CcB D ad 81 (pE cA ad 43 iZ2 jZ)) := by
  refine Cc.of hAD (by decide) rfl ?_
  intro p e s m args below meth c C hin Z O Q hret
  refine k_aload_n C 0 (dk oX4_init 0 rfl) rfl ?_
  refine k_obj C ObjW_ok (dk oX4_init 1 rfl) ko_X4 (Nat.le_of_ble_eq_true rfl) ⟨Nat.le_of_ble_eq_true rfl, Nat.le_of_ble_eq_true rfl⟩ ?_
  refine k_aload_n C 0 (dk oX4_init 2 rfl) rfl ?_
  refine k_bipush C (dk oX4_init 3 rfl) (v := nI 10) (by decide) ?_
  refine k_newaI (cells' := 1) (slots' := 10) C (dk oX4_init 4 rfl) rfl rfl (by decide) (Nat.le_of_ble_eq_true rfl) (hsl hst 68 (by decide) rfl) rfl rfl ⟨Nat.le_of_ble_eq_true rfl, Nat.le_of_ble_eq_true rfl⟩ ?_
  refine k_putR (t := 41) (j := 68) (k := 67) hAD C (dk oX4_init 5 rfl) fp_X4_9 rfl rfl (by decide) hin ?_
  refine k_aload_n C 0 (dk oX4_init 6 rfl) rfl ?_
  refine k_bipush C (dk oX4_init 7 rfl) (v := nI 10) (by decide) ?_
  refine k_bipush C (dk oX4_init 8 rfl) (v := nI 12) (by decide) ?_
  refine k_skip rfl (hs0 hst 69 (by decide) rfl) ?_
  refine k_mnaI (cells' := 12) (slots' := 140) (K := 12) O C (dk oX4_init 9 rfl) kc_X4_15 rfl (fun i hi => match i, hi with
    | 0, _ => ⟨rfl, rfl⟩
    | 1, _ => ⟨rfl, rfl⟩
    | 2, _ => ⟨rfl, rfl⟩
    | 3, _ => ⟨rfl, rfl⟩
    | 4, _ => ⟨rfl, rfl⟩
    | 5, _ => ⟨rfl, rfl⟩
    | 6, _ => ⟨rfl, rfl⟩
    | 7, _ => ⟨rfl, rfl⟩
    | 8, _ => ⟨rfl, rfl⟩
    | 9, _ => ⟨rfl, rfl⟩
    | _ + 10, h => absurd h (by omega)) (by decide) (fun i hi => match i, hi with
    | 0, _ => ahs hst 70 0 (by decide) (by decide)
    | 1, _ => ahs hst 70 1 (by decide) (by decide)
    | 2, _ => ahs hst 70 2 (by decide) (by decide)
    | 3, _ => ahs hst 70 3 (by decide) (by decide)
    | 4, _ => ahs hst 70 4 (by decide) (by decide)
    | 5, _ => ahs hst 70 5 (by decide) (by decide)
    | 6, _ => ahs hst 70 6 (by decide) (by decide)
    | 7, _ => ahs hst 70 7 (by decide) (by decide)
    | 8, _ => ahs hst 70 8 (by decide) (by decide)
    | 9, _ => ahs hst 70 9 (by decide) (by decide)
    | 10, _ => ahs hst 70 10 (by decide) (by decide)
    | _ + 11, h => absurd h (by omega)) rfl rfl ⟨Nat.le_of_ble_eq_true rfl, Nat.le_of_ble_eq_true rfl⟩ ?_
  refine k_putR (t := 42) (j := 70) (k := 67) hAD C (dk oX4_init 10 rfl) fp_X4_17 rfl rfl (by decide) hin ?_
  exact k_ret hret (dk oX4_init 11 rfl)

set_option maxHeartbeats 4000000 in
set_option maxRecDepth 100000 in
theorem cc_X5_81 (hAD : AD h0 ad) (hst : ∀ k, k < 148 → ad (k + 1) = ad k + (liv k).toNat) : Cc l cA D z h0 ad 1 yX5_init cX5_init 81 82 (pE cA ad 44 iZ2 jZ) 4 64 (CcB D ad 86 (pE cA ad 48 iZ2 jZ)) := by
  refine Cc.of hAD (by decide) rfl ?_
  intro p e s m args below meth c C hin Z O Q hret
  refine k_aload_n C 0 (dk oX5_init 0 rfl) rfl ?_
  refine k_obj C ObjW_ok (dk oX5_init 1 rfl) ko_X5 (Nat.le_of_ble_eq_true rfl) ⟨Nat.le_of_ble_eq_true rfl, Nat.le_of_ble_eq_true rfl⟩ ?_
  refine k_aload_n C 0 (dk oX5_init 2 rfl) rfl ?_
  refine k_bipush C (dk oX5_init 3 rfl) (v := nI 16) (by decide) ?_
  refine k_newaI (cells' := 1) (slots' := 16) C (dk oX5_init 4 rfl) rfl rfl (by decide) (Nat.le_of_ble_eq_true rfl) (hsl hst 82 (by decide) rfl) rfl rfl ⟨Nat.le_of_ble_eq_true rfl, Nat.le_of_ble_eq_true rfl⟩ ?_
  refine k_putR (t := 44) (j := 82) (k := 81) hAD C (dk oX5_init 5 rfl) fp_X5_9 rfl rfl (by decide) hin ?_
  refine k_aload_n C 0 (dk oX5_init 6 rfl) rfl ?_
  refine k_bipush C (dk oX5_init 7 rfl) (v := nI 16) (by decide) ?_
  refine k_newaI (cells' := 2) (slots' := 32) C (dk oX5_init 8 rfl) rfl rfl (by decide) (Nat.le_of_ble_eq_true rfl) (hsl hst 83 (by decide) rfl) rfl rfl ⟨Nat.le_of_ble_eq_true rfl, Nat.le_of_ble_eq_true rfl⟩ ?_
  refine k_putR (t := 45) (j := 83) (k := 81) hAD C (dk oX5_init 9 rfl) fp_X5_15 rfl rfl (by decide) hin ?_
  refine k_aload_n C 0 (dk oX5_init 10 rfl) rfl ?_
  refine k_bipush C (dk oX5_init 11 rfl) (v := nI 16) (by decide) ?_
  refine k_newaI (cells' := 3) (slots' := 48) C (dk oX5_init 12 rfl) rfl rfl (by decide) (Nat.le_of_ble_eq_true rfl) (hsl hst 84 (by decide) rfl) rfl rfl ⟨Nat.le_of_ble_eq_true rfl, Nat.le_of_ble_eq_true rfl⟩ ?_
  refine k_putR (t := 46) (j := 84) (k := 81) hAD C (dk oX5_init 13 rfl) fp_X5_18 rfl rfl (by decide) hin ?_
  refine k_aload_n C 0 (dk oX5_init 14 rfl) rfl ?_
  refine k_bipush C (dk oX5_init 15 rfl) (v := nI 16) (by decide) ?_
  refine k_newaI (cells' := 4) (slots' := 64) C (dk oX5_init 16 rfl) rfl rfl (by decide) (Nat.le_of_ble_eq_true rfl) (hsl hst 85 (by decide) rfl) rfl rfl ⟨Nat.le_of_ble_eq_true rfl, Nat.le_of_ble_eq_true rfl⟩ ?_
  refine k_putR (t := 47) (j := 85) (k := 81) hAD C (dk oX5_init 17 rfl) fp_X5_21 rfl rfl (by decide) hin ?_
  exact k_ret hret (dk oX5_init 18 rfl)

set_option maxHeartbeats 4000000 in
set_option maxRecDepth 100000 in
theorem cc_X7_56 (hAD : AD h0 ad) (hst : ∀ k, k < 148 → ad (k + 1) = ad k + (liv k).toNat) : Cc l cA D z h0 ad 2 yX7_init cX7_init 56 57 (pE cA ad 37 iZ2 jZ) 28 620 (CcB D ad 86 (pE cA ad 49 iZ3 jZ)) := by
  refine Cc.of hAD (by decide) rfl ?_
  intro p e s m args below meth c C hin Z O Q hret
  refine k_aload_n C 0 (dk oX7_init 0 rfl) rfl ?_
  refine k_obj C ObjW_ok (dk oX7_init 1 rfl) ko_X7 (Nat.le_of_ble_eq_true rfl) ⟨Nat.le_of_ble_eq_true rfl, Nat.le_of_ble_eq_true rfl⟩ ?_
  refine k_aload_n C 0 (dk oX7_init 2 rfl) rfl ?_
  refine k_new (cells' := 1) (slots' := 4) (fs := dfl_1) C (dk oX7_init 3 rfl) kc_X7_9 kp_X1 (ci := 1) rfl cw_1 tyX1 tyX1_ok (pE_new (fl := [none, some 58, some 59, some 60]) rfl rfl rfl) df_1 (hsl hst 57 (by decide) rfl) rfl rfl ⟨Nat.le_of_ble_eq_true rfl, Nat.le_of_ble_eq_true rfl⟩ ?_
  refine k_dup C (dk oX7_init 4 rfl) rfl ?_
  refine k_call (cells' := 10) (slots' := 406) (n1 := 67) (E1 := pE cA ad 40 iZ2 jZ) hAD C Z O (dk oX7_init 5 rfl) cl_X7_11 ii_X1_init rfl (cc_X1_57 hAD hst) ⟨Nat.le_of_ble_eq_true rfl, Nat.le_of_ble_eq_true rfl⟩ (Nat.le_of_ble_eq_true rfl) rfl rfl ⟨Nat.le_of_ble_eq_true rfl, Nat.le_of_ble_eq_true rfl⟩ ?_
  refine k_putR (t := 40) (j := 57) (k := 56) hAD C (dk oX7_init 6 rfl) fp_X7_12 rfl rfl (by decide) hin ?_
  refine k_aload_n C 0 (dk oX7_init 7 rfl) rfl ?_
  refine k_new (cells' := 11) (slots' := 410) (fs := dfl_4) C (dk oX7_init 8 rfl) kc_X7_18 kp_X4 (ci := 4) rfl cw_4 tyX4 tyX4_ok (pE_new (fl := [none, none, some 68, some 70]) rfl rfl rfl) df_4 (hsl hst 67 (by decide) rfl) rfl rfl ⟨Nat.le_of_ble_eq_true rfl, Nat.le_of_ble_eq_true rfl⟩ ?_
  refine k_dup C (dk oX7_init 9 rfl) rfl ?_
  refine k_call (cells' := 23) (slots' := 550) (n1 := 81) (E1 := pE cA ad 43 iZ2 jZ) hAD C Z O (dk oX7_init 10 rfl) cl_X7_20 ii_X4_init rfl (cc_X4_67 hAD hst) ⟨Nat.le_of_ble_eq_true rfl, Nat.le_of_ble_eq_true rfl⟩ (Nat.le_of_ble_eq_true rfl) rfl rfl ⟨Nat.le_of_ble_eq_true rfl, Nat.le_of_ble_eq_true rfl⟩ ?_
  refine k_putR (t := 43) (j := 67) (k := 56) hAD C (dk oX7_init 11 rfl) fp_X7_21 rfl rfl (by decide) hin ?_
  refine k_aload_n C 0 (dk oX7_init 12 rfl) rfl ?_
  refine k_new (cells' := 24) (slots' := 556) (fs := dfl_5) C (dk oX7_init 13 rfl) kc_X7_25 kp_X5 (ci := 5) rfl cw_5 tyX5 tyX5_ok (pE_new (fl := [none, none, some 82, some 83, some 84, some 85]) rfl rfl rfl) df_5 (hsl hst 81 (by decide) rfl) rfl rfl ⟨Nat.le_of_ble_eq_true rfl, Nat.le_of_ble_eq_true rfl⟩ ?_
  refine k_dup C (dk oX7_init 14 rfl) rfl ?_
  refine k_call (cells' := 28) (slots' := 620) (n1 := 86) (E1 := pE cA ad 48 iZ2 jZ) hAD C Z O (dk oX7_init 15 rfl) cl_X7_27 ii_X5_init rfl (cc_X5_81 hAD hst) ⟨Nat.le_of_ble_eq_true rfl, Nat.le_of_ble_eq_true rfl⟩ (Nat.le_of_ble_eq_true rfl) rfl rfl ⟨Nat.le_of_ble_eq_true rfl, Nat.le_of_ble_eq_true rfl⟩ ?_
  refine k_putR (t := 48) (j := 81) (k := 56) hAD C (dk oX7_init 16 rfl) fp_X7_28 rfl rfl (by decide) hin ?_
  refine k_aload_n C 0 (dk oX7_init 17 rfl) rfl ?_
  refine k_bipush C (dk oX7_init 18 rfl) (v := nI 20) (by decide) ?_
  refine k_putI hAD C (dk oX7_init 19 rfl) fi_X7_32 (k := 56) rfl (by decide) ?_
  exact k_ret hret (dk oX7_init 20 rfl)

set_option maxHeartbeats 4000000 in
set_option maxRecDepth 100000 in
theorem cc_X1_87 (hAD : AD h0 ad) (hst : ∀ k, k < 148 → ad (k + 1) = ad k + (liv k).toNat) : Cc l cA D z h0 ad 1 yX1_init cX1_init 87 88 (pE cA ad 50 iZ3 jZ) 9 402 (CcB D ad 97 (pE cA ad 53 iZ3 jZ)) := by
  refine Cc.of hAD (by decide) rfl ?_
  intro p e s m args below meth c C hin Z O Q hret
  refine k_aload_n C 0 (dk oX1_init 0 rfl) rfl ?_
  refine k_obj C ObjW_ok (dk oX1_init 1 rfl) ko_X1 (Nat.le_of_ble_eq_true rfl) ⟨Nat.le_of_ble_eq_true rfl, Nat.le_of_ble_eq_true rfl⟩ ?_
  refine k_aload_n C 0 (dk oX1_init 2 rfl) rfl ?_
  refine k_bipush C (dk oX1_init 3 rfl) (v := nI 6) (by decide) ?_
  refine k_newaI (cells' := 1) (slots' := 6) C (dk oX1_init 4 rfl) rfl rfl (by decide) (Nat.le_of_ble_eq_true rfl) (hsl hst 88 (by decide) rfl) rfl rfl ⟨Nat.le_of_ble_eq_true rfl, Nat.le_of_ble_eq_true rfl⟩ ?_
  refine k_putR (t := 50) (j := 88) (k := 87) hAD C (dk oX1_init 5 rfl) fp_X1_9 rfl rfl (by decide) hin ?_
  refine k_aload_n C 0 (dk oX1_init 6 rfl) rfl ?_
  refine k_bipush C (dk oX1_init 7 rfl) (v := nI 6) (by decide) ?_
  refine k_newaI (cells' := 2) (slots' := 12) C (dk oX1_init 8 rfl) rfl rfl (by decide) (Nat.le_of_ble_eq_true rfl) (hsl hst 89 (by decide) rfl) rfl rfl ⟨Nat.le_of_ble_eq_true rfl, Nat.le_of_ble_eq_true rfl⟩ ?_
  refine k_putR (t := 51) (j := 89) (k := 87) hAD C (dk oX1_init 9 rfl) fp_X1_15 rfl rfl (by decide) hin ?_
  refine k_aload_n C 0 (dk oX1_init 10 rfl) rfl ?_
  refine k_bipush C (dk oX1_init 11 rfl) (v := nI 6) (by decide) ?_
  refine k_bipush C (dk oX1_init 12 rfl) (v := nI 64) (by decide) ?_
  refine k_mnaJ (cells' := 9) (slots' := 402) (K := 64) O C (dk oX1_init 13 rfl) kc_X1_18 rfl (fun i hi => match i, hi with
    | 0, _ => ⟨rfl, rfl⟩
    | 1, _ => ⟨rfl, rfl⟩
    | 2, _ => ⟨rfl, rfl⟩
    | 3, _ => ⟨rfl, rfl⟩
    | 4, _ => ⟨rfl, rfl⟩
    | 5, _ => ⟨rfl, rfl⟩
    | _ + 6, h => absurd h (by omega)) (by decide) (fun i hi => match i, hi with
    | 0, _ => ahs hst 90 0 (by decide) (by decide)
    | 1, _ => ahs hst 90 1 (by decide) (by decide)
    | 2, _ => ahs hst 90 2 (by decide) (by decide)
    | 3, _ => ahs hst 90 3 (by decide) (by decide)
    | 4, _ => ahs hst 90 4 (by decide) (by decide)
    | 5, _ => ahs hst 90 5 (by decide) (by decide)
    | 6, _ => ahs hst 90 6 (by decide) (by decide)
    | _ + 7, h => absurd h (by omega)) rfl rfl ⟨Nat.le_of_ble_eq_true rfl, Nat.le_of_ble_eq_true rfl⟩ ?_
  refine k_putR (t := 52) (j := 90) (k := 87) hAD C (dk oX1_init 14 rfl) fp_X1_20 rfl rfl (by decide) hin ?_
  exact k_ret hret (dk oX1_init 15 rfl)

set_option maxHeartbeats 4000000 in
set_option maxRecDepth 100000 in
theorem cc_X4_97 (hAD : AD h0 ad) (hst : ∀ k, k < 148 → ad (k + 1) = ad k + (liv k).toNat) : Cc l cA D z h0 ad 1 yX4_init cX4_init 97 98 (pE cA ad 54 iZ3 jZ) 12 140 (CcB D ad 111 (pE cA ad 56 iZ3 jZ)) := by
  refine Cc.of hAD (by decide) rfl ?_
  intro p e s m args below meth c C hin Z O Q hret
  refine k_aload_n C 0 (dk oX4_init 0 rfl) rfl ?_
  refine k_obj C ObjW_ok (dk oX4_init 1 rfl) ko_X4 (Nat.le_of_ble_eq_true rfl) ⟨Nat.le_of_ble_eq_true rfl, Nat.le_of_ble_eq_true rfl⟩ ?_
  refine k_aload_n C 0 (dk oX4_init 2 rfl) rfl ?_
  refine k_bipush C (dk oX4_init 3 rfl) (v := nI 10) (by decide) ?_
  refine k_newaI (cells' := 1) (slots' := 10) C (dk oX4_init 4 rfl) rfl rfl (by decide) (Nat.le_of_ble_eq_true rfl) (hsl hst 98 (by decide) rfl) rfl rfl ⟨Nat.le_of_ble_eq_true rfl, Nat.le_of_ble_eq_true rfl⟩ ?_
  refine k_putR (t := 54) (j := 98) (k := 97) hAD C (dk oX4_init 5 rfl) fp_X4_9 rfl rfl (by decide) hin ?_
  refine k_aload_n C 0 (dk oX4_init 6 rfl) rfl ?_
  refine k_bipush C (dk oX4_init 7 rfl) (v := nI 10) (by decide) ?_
  refine k_bipush C (dk oX4_init 8 rfl) (v := nI 12) (by decide) ?_
  refine k_skip rfl (hs0 hst 99 (by decide) rfl) ?_
  refine k_mnaI (cells' := 12) (slots' := 140) (K := 12) O C (dk oX4_init 9 rfl) kc_X4_15 rfl (fun i hi => match i, hi with
    | 0, _ => ⟨rfl, rfl⟩
    | 1, _ => ⟨rfl, rfl⟩
    | 2, _ => ⟨rfl, rfl⟩
    | 3, _ => ⟨rfl, rfl⟩
    | 4, _ => ⟨rfl, rfl⟩
    | 5, _ => ⟨rfl, rfl⟩
    | 6, _ => ⟨rfl, rfl⟩
    | 7, _ => ⟨rfl, rfl⟩
    | 8, _ => ⟨rfl, rfl⟩
    | 9, _ => ⟨rfl, rfl⟩
    | _ + 10, h => absurd h (by omega)) (by decide) (fun i hi => match i, hi with
    | 0, _ => ahs hst 100 0 (by decide) (by decide)
    | 1, _ => ahs hst 100 1 (by decide) (by decide)
    | 2, _ => ahs hst 100 2 (by decide) (by decide)
    | 3, _ => ahs hst 100 3 (by decide) (by decide)
    | 4, _ => ahs hst 100 4 (by decide) (by decide)
    | 5, _ => ahs hst 100 5 (by decide) (by decide)
    | 6, _ => ahs hst 100 6 (by decide) (by decide)
    | 7, _ => ahs hst 100 7 (by decide) (by decide)
    | 8, _ => ahs hst 100 8 (by decide) (by decide)
    | 9, _ => ahs hst 100 9 (by decide) (by decide)
    | 10, _ => ahs hst 100 10 (by decide) (by decide)
    | _ + 11, h => absurd h (by omega)) rfl rfl ⟨Nat.le_of_ble_eq_true rfl, Nat.le_of_ble_eq_true rfl⟩ ?_
  refine k_putR (t := 55) (j := 100) (k := 97) hAD C (dk oX4_init 10 rfl) fp_X4_17 rfl rfl (by decide) hin ?_
  exact k_ret hret (dk oX4_init 11 rfl)

set_option maxHeartbeats 4000000 in
set_option maxRecDepth 100000 in
theorem cc_X5_111 (hAD : AD h0 ad) (hst : ∀ k, k < 148 → ad (k + 1) = ad k + (liv k).toNat) : Cc l cA D z h0 ad 1 yX5_init cX5_init 111 112 (pE cA ad 57 iZ3 jZ) 4 64 (CcB D ad 116 (pE cA ad 61 iZ3 jZ)) := by
  refine Cc.of hAD (by decide) rfl ?_
  intro p e s m args below meth c C hin Z O Q hret
  refine k_aload_n C 0 (dk oX5_init 0 rfl) rfl ?_
  refine k_obj C ObjW_ok (dk oX5_init 1 rfl) ko_X5 (Nat.le_of_ble_eq_true rfl) ⟨Nat.le_of_ble_eq_true rfl, Nat.le_of_ble_eq_true rfl⟩ ?_
  refine k_aload_n C 0 (dk oX5_init 2 rfl) rfl ?_
  refine k_bipush C (dk oX5_init 3 rfl) (v := nI 16) (by decide) ?_
  refine k_newaI (cells' := 1) (slots' := 16) C (dk oX5_init 4 rfl) rfl rfl (by decide) (Nat.le_of_ble_eq_true rfl) (hsl hst 112 (by decide) rfl) rfl rfl ⟨Nat.le_of_ble_eq_true rfl, Nat.le_of_ble_eq_true rfl⟩ ?_
  refine k_putR (t := 57) (j := 112) (k := 111) hAD C (dk oX5_init 5 rfl) fp_X5_9 rfl rfl (by decide) hin ?_
  refine k_aload_n C 0 (dk oX5_init 6 rfl) rfl ?_
  refine k_bipush C (dk oX5_init 7 rfl) (v := nI 16) (by decide) ?_
  refine k_newaI (cells' := 2) (slots' := 32) C (dk oX5_init 8 rfl) rfl rfl (by decide) (Nat.le_of_ble_eq_true rfl) (hsl hst 113 (by decide) rfl) rfl rfl ⟨Nat.le_of_ble_eq_true rfl, Nat.le_of_ble_eq_true rfl⟩ ?_
  refine k_putR (t := 58) (j := 113) (k := 111) hAD C (dk oX5_init 9 rfl) fp_X5_15 rfl rfl (by decide) hin ?_
  refine k_aload_n C 0 (dk oX5_init 10 rfl) rfl ?_
  refine k_bipush C (dk oX5_init 11 rfl) (v := nI 16) (by decide) ?_
  refine k_newaI (cells' := 3) (slots' := 48) C (dk oX5_init 12 rfl) rfl rfl (by decide) (Nat.le_of_ble_eq_true rfl) (hsl hst 114 (by decide) rfl) rfl rfl ⟨Nat.le_of_ble_eq_true rfl, Nat.le_of_ble_eq_true rfl⟩ ?_
  refine k_putR (t := 59) (j := 114) (k := 111) hAD C (dk oX5_init 13 rfl) fp_X5_18 rfl rfl (by decide) hin ?_
  refine k_aload_n C 0 (dk oX5_init 14 rfl) rfl ?_
  refine k_bipush C (dk oX5_init 15 rfl) (v := nI 16) (by decide) ?_
  refine k_newaI (cells' := 4) (slots' := 64) C (dk oX5_init 16 rfl) rfl rfl (by decide) (Nat.le_of_ble_eq_true rfl) (hsl hst 115 (by decide) rfl) rfl rfl ⟨Nat.le_of_ble_eq_true rfl, Nat.le_of_ble_eq_true rfl⟩ ?_
  refine k_putR (t := 60) (j := 115) (k := 111) hAD C (dk oX5_init 17 rfl) fp_X5_21 rfl rfl (by decide) hin ?_
  exact k_ret hret (dk oX5_init 18 rfl)

set_option maxHeartbeats 4000000 in
set_option maxRecDepth 100000 in
theorem cc_X7_86 (hAD : AD h0 ad) (hst : ∀ k, k < 148 → ad (k + 1) = ad k + (liv k).toNat) : Cc l cA D z h0 ad 2 yX7_init cX7_init 86 87 (pE cA ad 50 iZ3 jZ) 28 620 (CcB D ad 116 (pE cA ad 62 iZ4 jZ)) := by
  refine Cc.of hAD (by decide) rfl ?_
  intro p e s m args below meth c C hin Z O Q hret
  refine k_aload_n C 0 (dk oX7_init 0 rfl) rfl ?_
  refine k_obj C ObjW_ok (dk oX7_init 1 rfl) ko_X7 (Nat.le_of_ble_eq_true rfl) ⟨Nat.le_of_ble_eq_true rfl, Nat.le_of_ble_eq_true rfl⟩ ?_
  refine k_aload_n C 0 (dk oX7_init 2 rfl) rfl ?_
  refine k_new (cells' := 1) (slots' := 4) (fs := dfl_1) C (dk oX7_init 3 rfl) kc_X7_9 kp_X1 (ci := 1) rfl cw_1 tyX1 tyX1_ok (pE_new (fl := [none, some 88, some 89, some 90]) rfl rfl rfl) df_1 (hsl hst 87 (by decide) rfl) rfl rfl ⟨Nat.le_of_ble_eq_true rfl, Nat.le_of_ble_eq_true rfl⟩ ?_
  refine k_dup C (dk oX7_init 4 rfl) rfl ?_
  refine k_call (cells' := 10) (slots' := 406) (n1 := 97) (E1 := pE cA ad 53 iZ3 jZ) hAD C Z O (dk oX7_init 5 rfl) cl_X7_11 ii_X1_init rfl (cc_X1_87 hAD hst) ⟨Nat.le_of_ble_eq_true rfl, Nat.le_of_ble_eq_true rfl⟩ (Nat.le_of_ble_eq_true rfl) rfl rfl ⟨Nat.le_of_ble_eq_true rfl, Nat.le_of_ble_eq_true rfl⟩ ?_
  refine k_putR (t := 53) (j := 87) (k := 86) hAD C (dk oX7_init 6 rfl) fp_X7_12 rfl rfl (by decide) hin ?_
  refine k_aload_n C 0 (dk oX7_init 7 rfl) rfl ?_
  refine k_new (cells' := 11) (slots' := 410) (fs := dfl_4) C (dk oX7_init 8 rfl) kc_X7_18 kp_X4 (ci := 4) rfl cw_4 tyX4 tyX4_ok (pE_new (fl := [none, none, some 98, some 100]) rfl rfl rfl) df_4 (hsl hst 97 (by decide) rfl) rfl rfl ⟨Nat.le_of_ble_eq_true rfl, Nat.le_of_ble_eq_true rfl⟩ ?_
  refine k_dup C (dk oX7_init 9 rfl) rfl ?_
  refine k_call (cells' := 23) (slots' := 550) (n1 := 111) (E1 := pE cA ad 56 iZ3 jZ) hAD C Z O (dk oX7_init 10 rfl) cl_X7_20 ii_X4_init rfl (cc_X4_97 hAD hst) ⟨Nat.le_of_ble_eq_true rfl, Nat.le_of_ble_eq_true rfl⟩ (Nat.le_of_ble_eq_true rfl) rfl rfl ⟨Nat.le_of_ble_eq_true rfl, Nat.le_of_ble_eq_true rfl⟩ ?_
  refine k_putR (t := 56) (j := 97) (k := 86) hAD C (dk oX7_init 11 rfl) fp_X7_21 rfl rfl (by decide) hin ?_
  refine k_aload_n C 0 (dk oX7_init 12 rfl) rfl ?_
  refine k_new (cells' := 24) (slots' := 556) (fs := dfl_5) C (dk oX7_init 13 rfl) kc_X7_25 kp_X5 (ci := 5) rfl cw_5 tyX5 tyX5_ok (pE_new (fl := [none, none, some 112, some 113, some 114, some 115]) rfl rfl rfl) df_5 (hsl hst 111 (by decide) rfl) rfl rfl ⟨Nat.le_of_ble_eq_true rfl, Nat.le_of_ble_eq_true rfl⟩ ?_
  refine k_dup C (dk oX7_init 14 rfl) rfl ?_
  refine k_call (cells' := 28) (slots' := 620) (n1 := 116) (E1 := pE cA ad 61 iZ3 jZ) hAD C Z O (dk oX7_init 15 rfl) cl_X7_27 ii_X5_init rfl (cc_X5_111 hAD hst) ⟨Nat.le_of_ble_eq_true rfl, Nat.le_of_ble_eq_true rfl⟩ (Nat.le_of_ble_eq_true rfl) rfl rfl ⟨Nat.le_of_ble_eq_true rfl, Nat.le_of_ble_eq_true rfl⟩ ?_
  refine k_putR (t := 61) (j := 111) (k := 86) hAD C (dk oX7_init 16 rfl) fp_X7_28 rfl rfl (by decide) hin ?_
  refine k_aload_n C 0 (dk oX7_init 17 rfl) rfl ?_
  refine k_bipush C (dk oX7_init 18 rfl) (v := nI 20) (by decide) ?_
  refine k_putI hAD C (dk oX7_init 19 rfl) fi_X7_32 (k := 86) rfl (by decide) ?_
  exact k_ret hret (dk oX7_init 20 rfl)

set_option maxHeartbeats 4000000 in
set_option maxRecDepth 100000 in
theorem cc_X9_0 (hAD : AD h0 ad) (hst : ∀ k, k < 148 → ad (k + 1) = ad k + (liv k).toNat) : Cc l cA D z h0 ad 4 yX9_init cX9_init 0 1 (pE cA ad 0 iZ0 jZ) 113 2483 (fun U => ∃ (I' : MI) (J' : MJ), CS I' J' s0 ∧ va_P D vwCl (wsN 117 ad (mE cA ad I' J')) U.heap) := by
  refine Cc.of hAD (by decide) rfl ?_
  intro p e s m args below meth c C hin Z O Q hret
  refine k_aload_n C 0 (dk oX9_init 0 rfl) rfl ?_
  refine k_obj C ObjW_ok (dk oX9_init 1 rfl) ko_X9 (Nat.le_of_ble_eq_true rfl) ⟨Nat.le_of_ble_eq_true rfl, Nat.le_of_ble_eq_true rfl⟩ ?_
  refine k_aload_n C 0 (dk oX9_init 2 rfl) rfl ?_
  refine k_new (cells' := 1) (slots' := 7) (fs := dfl_8) C (dk oX9_init 3 rfl) kc_X9_7 kp_X8 (ci := 8) rfl cw_8 tyX8 tyX8_ok (pE_new (fl := [some 2, none, none, none, none, none, none]) rfl rfl rfl) df_8 (hsl hst 1 (by decide) rfl) rfl rfl ⟨Nat.le_of_ble_eq_true rfl, Nat.le_of_ble_eq_true rfl⟩ ?_
  refine k_dup C (dk oX9_init 4 rfl) rfl ?_
  refine k_call (cells' := 2) (slots' := 167) (n1 := 3) (E1 := pE cA ad 1 iZ1 jZ) hAD C Z O (dk oX9_init 5 rfl) cl_X9_9 ii_X8_init rfl (cc_X8_1 hAD hst) ⟨Nat.le_of_ble_eq_true rfl, Nat.le_of_ble_eq_true rfl⟩ (Nat.le_of_ble_eq_true rfl) rfl rfl ⟨Nat.le_of_ble_eq_true rfl, Nat.le_of_ble_eq_true rfl⟩ ?_
  refine k_putR (t := 1) (j := 1) (k := 0) hAD C (dk oX9_init 6 rfl) fp_X9_10 rfl rfl (by decide) hin ?_
  refine k_aload_n C 0 (dk oX9_init 7 rfl) rfl ?_
  refine k_new (cells' := 3) (slots' := 172) (fs := dfl_0) C (dk oX9_init 8 rfl) kc_X9_16 kp_X0 (ci := 0) rfl cw_0 tyX0 tyX0_ok (pE_new (fl := [some 4, some 5, none, none, none]) rfl rfl rfl) df_0 (hsl hst 3 (by decide) rfl) rfl rfl ⟨Nat.le_of_ble_eq_true rfl, Nat.le_of_ble_eq_true rfl⟩ ?_
  refine k_dup C (dk oX9_init 9 rfl) rfl ?_
  refine k_call (cells' := 5) (slots' := 412) (n1 := 6) (E1 := pE cA ad 4 iZ1 jZ) hAD C Z O (dk oX9_init 10 rfl) cl_X9_18 ii_X0_init rfl (cc_X0_3 hAD hst) ⟨Nat.le_of_ble_eq_true rfl, Nat.le_of_ble_eq_true rfl⟩ (Nat.le_of_ble_eq_true rfl) rfl rfl ⟨Nat.le_of_ble_eq_true rfl, Nat.le_of_ble_eq_true rfl⟩ ?_
  refine k_putR (t := 4) (j := 3) (k := 0) hAD C (dk oX9_init 11 rfl) fp_X9_19 rfl rfl (by decide) hin ?_
  refine k_aload_n C 0 (dk oX9_init 12 rfl) rfl ?_
  refine k_new (cells' := 6) (slots' := 414) (fs := dfl_3) C (dk oX9_init 13 rfl) kc_X9_23 kp_X3 (ci := 3) rfl cw_3 tyX3 tyX3_ok (pE_new (fl := [some 7, none]) rfl rfl rfl) df_3 (hsl hst 6 (by decide) rfl) rfl rfl ⟨Nat.le_of_ble_eq_true rfl, Nat.le_of_ble_eq_true rfl⟩ ?_
  refine k_dup C (dk oX9_init 14 rfl) rfl ?_
  refine k_call (cells' := 7) (slots' := 426) (n1 := 8) (E1 := pE cA ad 6 iZ1 jZ) hAD C Z O (dk oX9_init 15 rfl) cl_X9_25 ii_X3_init rfl (cc_X3_6 hAD hst) ⟨Nat.le_of_ble_eq_true rfl, Nat.le_of_ble_eq_true rfl⟩ (Nat.le_of_ble_eq_true rfl) rfl rfl ⟨Nat.le_of_ble_eq_true rfl, Nat.le_of_ble_eq_true rfl⟩ ?_
  refine k_putR (t := 6) (j := 6) (k := 0) hAD C (dk oX9_init 16 rfl) fp_X9_26 rfl rfl (by decide) hin ?_
  refine k_aload_n C 0 (dk oX9_init 17 rfl) rfl ?_
  refine k_new (cells' := 8) (slots' := 431) (fs := dfl_7) C (dk oX9_init 18 rfl) kc_X9_30 kp_X7 (ci := 7) rfl cw_7 tyX7 tyX7_ok (pE_new (fl := [some 9, some 19, some 33, none, none]) rfl rfl rfl) df_7 (hsl hst 8 (by decide) rfl) rfl rfl ⟨Nat.le_of_ble_eq_true rfl, Nat.le_of_ble_eq_true rfl⟩ ?_
  refine k_dup C (dk oX9_init 19 rfl) rfl ?_
  refine k_call (cells' := 36) (slots' := 1051) (n1 := 38) (E1 := pE cA ad 19 iZ2 jZ) hAD C Z O (dk oX9_init 20 rfl) cl_X9_32 ii_X7_init rfl (cc_X7_8 hAD hst) ⟨Nat.le_of_ble_eq_true rfl, Nat.le_of_ble_eq_true rfl⟩ (Nat.le_of_ble_eq_true rfl) rfl rfl ⟨Nat.le_of_ble_eq_true rfl, Nat.le_of_ble_eq_true rfl⟩ ?_
  refine k_putR (t := 19) (j := 8) (k := 0) hAD C (dk oX9_init 21 rfl) fp_X9_33 rfl rfl (by decide) hin ?_
  refine k_aload_n C 0 (dk oX9_init 22 rfl) rfl ?_
  refine k_new (cells' := 37) (slots' := 1060) (fs := dfl_2) C (dk oX9_init 23 rfl) kc_X9_37 kp_X2 (ci := 2) rfl cw_2 tyX2 tyX2_ok (pE_new (fl := [some 39, some 40, some 41, some 42, some 43, some 44, none, none, none]) rfl rfl rfl) df_2 (hsl hst 38 (by decide) rfl) rfl rfl ⟨Nat.le_of_ble_eq_true rfl, Nat.le_of_ble_eq_true rfl⟩ ?_
  refine k_dup C (dk oX9_init 24 rfl) rfl ?_
  refine k_call (cells' := 43) (slots' := 1130) (n1 := 45) (E1 := pE cA ad 26 iZ2 jZ) hAD C Z O (dk oX9_init 25 rfl) cl_X9_39 ii_X2_init rfl (cc_X2_38 hAD hst) ⟨Nat.le_of_ble_eq_true rfl, Nat.le_of_ble_eq_true rfl⟩ (Nat.le_of_ble_eq_true rfl) rfl rfl ⟨Nat.le_of_ble_eq_true rfl, Nat.le_of_ble_eq_true rfl⟩ ?_
  refine k_putR (t := 26) (j := 38) (k := 0) hAD C (dk oX9_init 26 rfl) fp_X9_40 rfl rfl (by decide) hin ?_
  refine k_aload_n C 0 (dk oX9_init 27 rfl) rfl ?_
  refine k_new (cells' := 44) (slots' := 1139) (fs := dfl_2) C (dk oX9_init 28 rfl) kc_X9_37 kp_X2 (ci := 2) rfl cw_2 tyX2 tyX2_ok (pE_new (fl := [some 46, some 47, some 48, some 49, some 50, some 51, none, none, none]) rfl rfl rfl) df_2 (hsl hst 45 (by decide) rfl) rfl rfl ⟨Nat.le_of_ble_eq_true rfl, Nat.le_of_ble_eq_true rfl⟩ ?_
  refine k_dup C (dk oX9_init 29 rfl) rfl ?_
  refine k_call (cells' := 50) (slots' := 1209) (n1 := 52) (E1 := pE cA ad 33 iZ2 jZ) hAD C Z O (dk oX9_init 30 rfl) cl_X9_39 ii_X2_init rfl (cc_X2_45 hAD hst) ⟨Nat.le_of_ble_eq_true rfl, Nat.le_of_ble_eq_true rfl⟩ (Nat.le_of_ble_eq_true rfl) rfl rfl ⟨Nat.le_of_ble_eq_true rfl, Nat.le_of_ble_eq_true rfl⟩ ?_
  refine k_putR (t := 33) (j := 45) (k := 0) hAD C (dk oX9_init 31 rfl) fp_X9_44 rfl rfl (by decide) hin ?_
  refine k_aload_n C 0 (dk oX9_init 32 rfl) rfl ?_
  refine k_new (cells' := 51) (slots' := 1211) (fs := dfl_6) C (dk oX9_init 33 rfl) kc_X9_47 kp_X6 (ci := 6) rfl cw_6 tyX6 tyX6_ok (pE_new (fl := [some 53, some 54]) rfl rfl rfl) df_6 (hsl hst 52 (by decide) rfl) rfl rfl ⟨Nat.le_of_ble_eq_true rfl, Nat.le_of_ble_eq_true rfl⟩ ?_
  refine k_dup C (dk oX9_init 34 rfl) rfl ?_
  refine k_call (cells' := 53) (slots' := 1229) (n1 := 55) (E1 := pE cA ad 36 iZ2 jZ) hAD C Z O (dk oX9_init 35 rfl) cl_X9_49 ii_X6_init rfl (cc_X6_52 hAD hst) ⟨Nat.le_of_ble_eq_true rfl, Nat.le_of_ble_eq_true rfl⟩ (Nat.le_of_ble_eq_true rfl) rfl rfl ⟨Nat.le_of_ble_eq_true rfl, Nat.le_of_ble_eq_true rfl⟩ ?_
  refine k_putR (t := 36) (j := 52) (k := 0) hAD C (dk oX9_init 36 rfl) fp_X9_50 rfl rfl (by decide) hin ?_
  refine k_aload_n C 0 (dk oX9_init 37 rfl) rfl ?_
  refine k_iconst C (dk oX9_init 38 rfl) (v := nI 2) (by decide) ?_
  refine k_newq (cells' := 54) (slots' := 1231) O C (dk oX9_init 39 rfl) kc_X9_30 rfl rfl (by decide) (hsl hst 55 (by decide) rfl) rfl rfl ⟨Nat.le_of_ble_eq_true rfl, Nat.le_of_ble_eq_true rfl⟩ ?_
  refine k_dup C (dk oX9_init 40 rfl) rfl ?_
  refine k_iconst C (dk oX9_init 41 rfl) (v := nI 0) (by decide) ?_
  refine k_new (cells' := 55) (slots' := 1236) (fs := dfl_7) C (dk oX9_init 42 rfl) kc_X9_30 kp_X7 (ci := 7) rfl cw_7 tyX7 tyX7_ok (pE_new (fl := [some 57, some 67, some 81, none, none]) rfl rfl rfl) df_7 (hsl hst 56 (by decide) rfl) rfl rfl ⟨Nat.le_of_ble_eq_true rfl, Nat.le_of_ble_eq_true rfl⟩ ?_
  refine k_dup C (dk oX9_init 43 rfl) rfl ?_
  refine k_call (cells' := 83) (slots' := 1856) (n1 := 86) (E1 := pE cA ad 49 iZ3 jZ) hAD C Z O (dk oX9_init 44 rfl) cl_X9_32 ii_X7_init rfl (cc_X7_56 hAD hst) ⟨Nat.le_of_ble_eq_true rfl, Nat.le_of_ble_eq_true rfl⟩ (Nat.le_of_ble_eq_true rfl) rfl rfl ⟨Nat.le_of_ble_eq_true rfl, Nat.le_of_ble_eq_true rfl⟩ ?_
  refine k_aast (ci := 7) (t := 49) (j := 56) (k := 55) (i := 0) hAD C (dk oX9_init 45 rfl) rfl rfl rfl rfl (by decide) (by decide) (by decide) (by decide) ?_
  refine k_dup C (dk oX9_init 46 rfl) rfl ?_
  refine k_iconst C (dk oX9_init 47 rfl) (v := nI 1) (by decide) ?_
  refine k_new (cells' := 84) (slots' := 1861) (fs := dfl_7) C (dk oX9_init 48 rfl) kc_X9_30 kp_X7 (ci := 7) rfl cw_7 tyX7 tyX7_ok (pE_new (fl := [some 87, some 97, some 111, none, none]) rfl rfl rfl) df_7 (hsl hst 86 (by decide) rfl) rfl rfl ⟨Nat.le_of_ble_eq_true rfl, Nat.le_of_ble_eq_true rfl⟩ ?_
  refine k_dup C (dk oX9_init 49 rfl) rfl ?_
  refine k_call (cells' := 112) (slots' := 2481) (n1 := 116) (E1 := pE cA ad 62 iZ4 jZ) hAD C Z O (dk oX9_init 50 rfl) cl_X9_32 ii_X7_init rfl (cc_X7_86 hAD hst) ⟨Nat.le_of_ble_eq_true rfl, Nat.le_of_ble_eq_true rfl⟩ (Nat.le_of_ble_eq_true rfl) rfl rfl ⟨Nat.le_of_ble_eq_true rfl, Nat.le_of_ble_eq_true rfl⟩ ?_
  refine k_aast (ci := 7) (t := 62) (j := 86) (k := 55) (i := 1) hAD C (dk oX9_init 51 rfl) rfl rfl rfl rfl (by decide) (by decide) (by decide) (by decide) ?_
  refine k_putR (t := 63) (j := 55) (k := 0) hAD C (dk oX9_init 52 rfl) fp_X9_54 rfl rfl (by decide) hin ?_
  refine k_aload_n C 0 (dk oX9_init 53 rfl) rfl ?_
  refine k_iconst C (dk oX9_init 54 rfl) (v := nI 2) (by decide) ?_
  refine k_newaZ (cells' := 113) (slots' := 2483) C (dk oX9_init 55 rfl) rfl rfl (by decide) (Nat.le_of_ble_eq_true rfl) (hsl hst 116 (by decide) rfl) rfl rfl ⟨Nat.le_of_ble_eq_true rfl, Nat.le_of_ble_eq_true rfl⟩ ?_
  refine k_putR (t := 64) (j := 116) (k := 0) hAD C (dk oX9_init 56 rfl) fp_X9_58 rfl rfl (by decide) hin ?_
  refine k_fin (by decide) hAD C (fun k hk => fullB_117 k hk) ?_
  refine r_aload_n C 0 (dk oX9_init 57 rfl) rfl ?_
  refine r_getR C (dk oX9_init 58 rfl) fl_X9_40 rfl (by decide) ?_
  refine r_aload_n C 0 (dk oX9_init 59 rfl) rfl ?_
  refine r_getR C (dk oX9_init 60 rfl) fl_X9_33 rfl (by decide) ?_
  refine r_getR C (dk oX9_init 61 rfl) fl_X9_62 rfl (by decide) ?_
  refine r_iconst C (dk oX9_init 62 rfl) (v := -1) (by decide) ?_
  refine r_ivv C Z (dk oX9_init 63 rfl) cl_X9_66 ci_X2_replay rfl (by decide) (c38_X2_replay (Nat.le_refl _) _ _ _ _ _ _ s0_CS0.pp (-1)) rfl rfl (Nat.le_of_ble_eq_true rfl) ⟨Nat.le_of_ble_eq_true rfl, Nat.le_of_ble_eq_true rfl⟩ ⟨Nat.le_of_ble_eq_true rfl, Nat.le_of_ble_eq_true rfl⟩ (fun I9 J9 h9 => ?_)
  obtain ⟨h1, h2, h3, h4⟩ := h9
  subst h4
  have hCS := s0_CS0.rp h1 h2 h3
  intro H locs ls hP hD hS hl
  exact hret (dk oX9_init 64 rfl) hS (fun U hU => ⟨I9, _, hCS, by rw [hU]; exact hP⟩)

set_option maxHeartbeats 4000000 in
set_option maxRecDepth 100000 in
theorem cc_X10_117 (hAD : AD h0 ad) (hst : ∀ k, 117 ≤ k → ad (k + 1) = ad k + 1) (I : MI) (J : MJ) (hIz : ∀ k, 117 ≤ k → I k = fun _ => 0) : Cc l cA D z h0 ad 1 yX10_init cX10_init 117 118 (pE cA ad 65 I J) 30 11508 (CcB D ad 148 (pE cA ad 95 (up2 I 117 30 (-1)) J)) := by
  refine Cc.of hAD (by decide) rfl ?_
  intro p e s m args below meth c C hin Z O Q hret
  refine k_aload_n C 0 (dk oX10_init 0 rfl) rfl ?_
  refine k_obj C ObjW_ok (dk oX10_init 1 rfl) ko_X10 (Nat.le_of_ble_eq_true rfl) ⟨Nat.le_of_ble_eq_true rfl, Nat.le_of_ble_eq_true rfl⟩ ?_
  refine k_aload_n C 0 (dk oX10_init 2 rfl) rfl ?_
  refine k_iconst C (dk oX10_init 3 rfl) (v := nI 3) (by decide) ?_
  refine k_newaI (cells' := 1) (slots' := 3) C (dk oX10_init 4 rfl) rfl (hIz 118 (by decide)) (by decide) (Nat.le_of_ble_eq_true rfl) (hst 118 (by decide)) rfl rfl ⟨Nat.le_of_ble_eq_true rfl, Nat.le_of_ble_eq_true rfl⟩ ?_
  refine k_putR (t := 65) (j := 118) (k := 117) hAD C (dk oX10_init 5 rfl) fp_X10_7 rfl rfl (by decide) hin ?_
  refine k_aload_n C 0 (dk oX10_init 6 rfl) rfl ?_
  refine k_bipush C (dk oX10_init 7 rfl) (v := nI 18) (by decide) ?_
  refine k_newaI (cells' := 2) (slots' := 21) C (dk oX10_init 8 rfl) rfl (hIz 119 (by decide)) (by decide) (Nat.le_of_ble_eq_true rfl) (hst 119 (by decide)) rfl rfl ⟨Nat.le_of_ble_eq_true rfl, Nat.le_of_ble_eq_true rfl⟩ ?_
  refine k_putR (t := 66) (j := 119) (k := 117) hAD C (dk oX10_init 9 rfl) fp_X10_13 rfl rfl (by decide) hin ?_
  refine k_aload_n C 0 (dk oX10_init 10 rfl) rfl ?_
  refine k_sipush C (dk oX10_init 11 rfl) (v := nI 2160) (by decide) ?_
  refine k_newaI (cells' := 3) (slots' := 2181) C (dk oX10_init 12 rfl) rfl (hIz 120 (by decide)) (by decide) (Nat.le_of_ble_eq_true rfl) (hst 120 (by decide)) rfl rfl ⟨Nat.le_of_ble_eq_true rfl, Nat.le_of_ble_eq_true rfl⟩ ?_
  refine k_putR (t := 67) (j := 120) (k := 117) hAD C (dk oX10_init 13 rfl) fp_X10_16 rfl rfl (by decide) hin ?_
  refine k_aload_n C 0 (dk oX10_init 14 rfl) rfl ?_
  refine k_bipush C (dk oX10_init 15 rfl) (v := nI 18) (by decide) ?_
  refine k_newaI (cells' := 4) (slots' := 2199) C (dk oX10_init 16 rfl) rfl (hIz 121 (by decide)) (by decide) (Nat.le_of_ble_eq_true rfl) (hst 121 (by decide)) rfl rfl ⟨Nat.le_of_ble_eq_true rfl, Nat.le_of_ble_eq_true rfl⟩ ?_
  refine k_putR (t := 68) (j := 121) (k := 117) hAD C (dk oX10_init 17 rfl) fp_X10_19 rfl rfl (by decide) hin ?_
  refine k_aload_n C 0 (dk oX10_init 18 rfl) rfl ?_
  refine k_iconst C (dk oX10_init 19 rfl) (v := nI 3) (by decide) ?_
  refine k_newaI (cells' := 5) (slots' := 2202) C (dk oX10_init 20 rfl) rfl (hIz 122 (by decide)) (by decide) (Nat.le_of_ble_eq_true rfl) (hst 122 (by decide)) rfl rfl ⟨Nat.le_of_ble_eq_true rfl, Nat.le_of_ble_eq_true rfl⟩ ?_
  refine k_putR (t := 69) (j := 122) (k := 117) hAD C (dk oX10_init 21 rfl) fp_X10_22 rfl rfl (by decide) hin ?_
  refine k_aload_n C 0 (dk oX10_init 22 rfl) rfl ?_
  refine k_bipush C (dk oX10_init 23 rfl) (v := nI 30) (by decide) ?_
  refine k_newaI (cells' := 6) (slots' := 2232) C (dk oX10_init 24 rfl) rfl (hIz 123 (by decide)) (by decide) (Nat.le_of_ble_eq_true rfl) (hst 123 (by decide)) rfl rfl ⟨Nat.le_of_ble_eq_true rfl, Nat.le_of_ble_eq_true rfl⟩ ?_
  refine k_putR (t := 70) (j := 123) (k := 117) hAD C (dk oX10_init 25 rfl) fp_X10_25 rfl rfl (by decide) hin ?_
  refine k_aload_n C 0 (dk oX10_init 26 rfl) rfl ?_
  refine k_bipush C (dk oX10_init 27 rfl) (v := nI 30) (by decide) ?_
  refine k_newaZ (cells' := 7) (slots' := 2262) C (dk oX10_init 28 rfl) rfl (hIz 124 (by decide)) (by decide) (Nat.le_of_ble_eq_true rfl) (hst 124 (by decide)) rfl rfl ⟨Nat.le_of_ble_eq_true rfl, Nat.le_of_ble_eq_true rfl⟩ ?_
  refine k_putR (t := 71) (j := 124) (k := 117) hAD C (dk oX10_init 29 rfl) fp_X10_28 rfl rfl (by decide) hin ?_
  refine k_aload_n C 0 (dk oX10_init 30 rfl) rfl ?_
  refine k_sipush C (dk oX10_init 31 rfl) (v := nI 360) (by decide) ?_
  refine k_newaI (cells' := 8) (slots' := 2622) C (dk oX10_init 32 rfl) rfl (hIz 125 (by decide)) (by decide) (Nat.le_of_ble_eq_true rfl) (hst 125 (by decide)) rfl rfl ⟨Nat.le_of_ble_eq_true rfl, Nat.le_of_ble_eq_true rfl⟩ ?_
  refine k_putR (t := 72) (j := 125) (k := 117) hAD C (dk oX10_init 33 rfl) fp_X10_32 rfl rfl (by decide) hin ?_
  refine k_aload_n C 0 (dk oX10_init 34 rfl) rfl ?_
  refine k_iconst C (dk oX10_init 35 rfl) (v := nI 3) (by decide) ?_
  refine k_newaI (cells' := 9) (slots' := 2625) C (dk oX10_init 36 rfl) rfl (hIz 126 (by decide)) (by decide) (Nat.le_of_ble_eq_true rfl) (hst 126 (by decide)) rfl rfl ⟨Nat.le_of_ble_eq_true rfl, Nat.le_of_ble_eq_true rfl⟩ ?_
  refine k_putR (t := 73) (j := 126) (k := 117) hAD C (dk oX10_init 37 rfl) fp_X10_35 rfl rfl (by decide) hin ?_
  refine k_aload_n C 0 (dk oX10_init 38 rfl) rfl ?_
  refine k_bipush C (dk oX10_init 39 rfl) (v := nI 48) (by decide) ?_
  refine k_newaI (cells' := 10) (slots' := 2673) C (dk oX10_init 40 rfl) rfl (hIz 127 (by decide)) (by decide) (Nat.le_of_ble_eq_true rfl) (hst 127 (by decide)) rfl rfl ⟨Nat.le_of_ble_eq_true rfl, Nat.le_of_ble_eq_true rfl⟩ ?_
  refine k_putR (t := 74) (j := 127) (k := 117) hAD C (dk oX10_init 41 rfl) fp_X10_38 rfl rfl (by decide) hin ?_
  refine k_aload_n C 0 (dk oX10_init 42 rfl) rfl ?_
  refine k_bipush C (dk oX10_init 43 rfl) (v := nI 48) (by decide) ?_
  refine k_newaI (cells' := 11) (slots' := 2721) C (dk oX10_init 44 rfl) rfl (hIz 128 (by decide)) (by decide) (Nat.le_of_ble_eq_true rfl) (hst 128 (by decide)) rfl rfl ⟨Nat.le_of_ble_eq_true rfl, Nat.le_of_ble_eq_true rfl⟩ ?_
  refine k_putR (t := 75) (j := 128) (k := 117) hAD C (dk oX10_init 45 rfl) fp_X10_41 rfl rfl (by decide) hin ?_
  refine k_aload_n C 0 (dk oX10_init 46 rfl) rfl ?_
  refine k_bipush C (dk oX10_init 47 rfl) (v := nI 48) (by decide) ?_
  refine k_newaI (cells' := 12) (slots' := 2769) C (dk oX10_init 48 rfl) rfl (hIz 129 (by decide)) (by decide) (Nat.le_of_ble_eq_true rfl) (hst 129 (by decide)) rfl rfl ⟨Nat.le_of_ble_eq_true rfl, Nat.le_of_ble_eq_true rfl⟩ ?_
  refine k_putR (t := 76) (j := 129) (k := 117) hAD C (dk oX10_init 49 rfl) fp_X10_44 rfl rfl (by decide) hin ?_
  refine k_aload_n C 0 (dk oX10_init 50 rfl) rfl ?_
  refine k_bipush C (dk oX10_init 51 rfl) (v := nI 48) (by decide) ?_
  refine k_newaI (cells' := 13) (slots' := 2817) C (dk oX10_init 52 rfl) rfl (hIz 130 (by decide)) (by decide) (Nat.le_of_ble_eq_true rfl) (hst 130 (by decide)) rfl rfl ⟨Nat.le_of_ble_eq_true rfl, Nat.le_of_ble_eq_true rfl⟩ ?_
  refine k_putR (t := 77) (j := 130) (k := 117) hAD C (dk oX10_init 53 rfl) fp_X10_47 rfl rfl (by decide) hin ?_
  refine k_aload_n C 0 (dk oX10_init 54 rfl) rfl ?_
  refine k_bipush C (dk oX10_init 55 rfl) (v := nI 48) (by decide) ?_
  refine k_newaZ (cells' := 14) (slots' := 2865) C (dk oX10_init 56 rfl) rfl (hIz 131 (by decide)) (by decide) (Nat.le_of_ble_eq_true rfl) (hst 131 (by decide)) rfl rfl ⟨Nat.le_of_ble_eq_true rfl, Nat.le_of_ble_eq_true rfl⟩ ?_
  refine k_putR (t := 78) (j := 131) (k := 117) hAD C (dk oX10_init 57 rfl) fp_X10_50 rfl rfl (by decide) hin ?_
  refine k_aload_n C 0 (dk oX10_init 58 rfl) rfl ?_
  refine k_iconst C (dk oX10_init 59 rfl) (v := nI 3) (by decide) ?_
  refine k_newaI (cells' := 15) (slots' := 2868) C (dk oX10_init 60 rfl) rfl (hIz 132 (by decide)) (by decide) (Nat.le_of_ble_eq_true rfl) (hst 132 (by decide)) rfl rfl ⟨Nat.le_of_ble_eq_true rfl, Nat.le_of_ble_eq_true rfl⟩ ?_
  refine k_putR (t := 79) (j := 132) (k := 117) hAD C (dk oX10_init 61 rfl) fp_X10_53 rfl rfl (by decide) hin ?_
  refine k_aload_n C 0 (dk oX10_init 62 rfl) rfl ?_
  refine k_iconst C (dk oX10_init 63 rfl) (v := nI 3) (by decide) ?_
  refine k_newaI (cells' := 16) (slots' := 2871) C (dk oX10_init 64 rfl) rfl (hIz 133 (by decide)) (by decide) (Nat.le_of_ble_eq_true rfl) (hst 133 (by decide)) rfl rfl ⟨Nat.le_of_ble_eq_true rfl, Nat.le_of_ble_eq_true rfl⟩ ?_
  refine k_putR (t := 80) (j := 133) (k := 117) hAD C (dk oX10_init 65 rfl) fp_X10_56 rfl rfl (by decide) hin ?_
  refine k_aload_n C 0 (dk oX10_init 66 rfl) rfl ?_
  refine k_iconst C (dk oX10_init 67 rfl) (v := nI 3) (by decide) ?_
  refine k_newaZ (cells' := 17) (slots' := 2874) C (dk oX10_init 68 rfl) rfl (hIz 134 (by decide)) (by decide) (Nat.le_of_ble_eq_true rfl) (hst 134 (by decide)) rfl rfl ⟨Nat.le_of_ble_eq_true rfl, Nat.le_of_ble_eq_true rfl⟩ ?_
  refine k_putR (t := 81) (j := 134) (k := 117) hAD C (dk oX10_init 69 rfl) fp_X10_59 rfl rfl (by decide) hin ?_
  refine k_aload_n C 0 (dk oX10_init 70 rfl) rfl ?_
  refine k_bipush C (dk oX10_init 71 rfl) (v := nI 12) (by decide) ?_
  refine k_newaI (cells' := 18) (slots' := 2886) C (dk oX10_init 72 rfl) rfl (hIz 135 (by decide)) (by decide) (Nat.le_of_ble_eq_true rfl) (hst 135 (by decide)) rfl rfl ⟨Nat.le_of_ble_eq_true rfl, Nat.le_of_ble_eq_true rfl⟩ ?_
  refine k_putR (t := 82) (j := 135) (k := 117) hAD C (dk oX10_init 73 rfl) fp_X10_62 rfl rfl (by decide) hin ?_
  refine k_aload_n C 0 (dk oX10_init 74 rfl) rfl ?_
  refine k_bipush C (dk oX10_init 75 rfl) (v := nI 12) (by decide) ?_
  refine k_newaI (cells' := 19) (slots' := 2898) C (dk oX10_init 76 rfl) rfl (hIz 136 (by decide)) (by decide) (Nat.le_of_ble_eq_true rfl) (hst 136 (by decide)) rfl rfl ⟨Nat.le_of_ble_eq_true rfl, Nat.le_of_ble_eq_true rfl⟩ ?_
  refine k_putR (t := 83) (j := 136) (k := 117) hAD C (dk oX10_init 77 rfl) fp_X10_65 rfl rfl (by decide) hin ?_
  refine k_aload_n C 0 (dk oX10_init 78 rfl) rfl ?_
  refine k_bipush C (dk oX10_init 79 rfl) (v := nI 12) (by decide) ?_
  refine k_newaI (cells' := 20) (slots' := 2910) C (dk oX10_init 80 rfl) rfl (hIz 137 (by decide)) (by decide) (Nat.le_of_ble_eq_true rfl) (hst 137 (by decide)) rfl rfl ⟨Nat.le_of_ble_eq_true rfl, Nat.le_of_ble_eq_true rfl⟩ ?_
  refine k_putR (t := 84) (j := 137) (k := 117) hAD C (dk oX10_init 81 rfl) fp_X10_68 rfl rfl (by decide) hin ?_
  refine k_aload_n C 0 (dk oX10_init 82 rfl) rfl ?_
  refine k_bipush C (dk oX10_init 83 rfl) (v := nI 12) (by decide) ?_
  refine k_newaI (cells' := 21) (slots' := 2922) C (dk oX10_init 84 rfl) rfl (hIz 138 (by decide)) (by decide) (Nat.le_of_ble_eq_true rfl) (hst 138 (by decide)) rfl rfl ⟨Nat.le_of_ble_eq_true rfl, Nat.le_of_ble_eq_true rfl⟩ ?_
  refine k_putR (t := 85) (j := 138) (k := 117) hAD C (dk oX10_init 85 rfl) fp_X10_71 rfl rfl (by decide) hin ?_
  refine k_aload_n C 0 (dk oX10_init 86 rfl) rfl ?_
  refine k_bipush C (dk oX10_init 87 rfl) (v := nI 12) (by decide) ?_
  refine k_newaI (cells' := 22) (slots' := 2934) C (dk oX10_init 88 rfl) rfl (hIz 139 (by decide)) (by decide) (Nat.le_of_ble_eq_true rfl) (hst 139 (by decide)) rfl rfl ⟨Nat.le_of_ble_eq_true rfl, Nat.le_of_ble_eq_true rfl⟩ ?_
  refine k_putR (t := 86) (j := 139) (k := 117) hAD C (dk oX10_init 89 rfl) fp_X10_74 rfl rfl (by decide) hin ?_
  refine k_aload_n C 0 (dk oX10_init 90 rfl) rfl ?_
  refine k_bipush C (dk oX10_init 91 rfl) (v := nI 10) (by decide) ?_
  refine k_newaI (cells' := 23) (slots' := 2944) C (dk oX10_init 92 rfl) rfl (hIz 140 (by decide)) (by decide) (Nat.le_of_ble_eq_true rfl) (hst 140 (by decide)) rfl rfl ⟨Nat.le_of_ble_eq_true rfl, Nat.le_of_ble_eq_true rfl⟩ ?_
  refine k_putR (t := 87) (j := 140) (k := 117) hAD C (dk oX10_init 93 rfl) fp_X10_77 rfl rfl (by decide) hin ?_
  refine k_aload_n C 0 (dk oX10_init 94 rfl) rfl ?_
  refine k_sipush C (dk oX10_init 95 rfl) (v := nI 160) (by decide) ?_
  refine k_newaI (cells' := 24) (slots' := 3104) C (dk oX10_init 96 rfl) rfl (hIz 141 (by decide)) (by decide) (Nat.le_of_ble_eq_true rfl) (hst 141 (by decide)) rfl rfl ⟨Nat.le_of_ble_eq_true rfl, Nat.le_of_ble_eq_true rfl⟩ ?_
  refine k_putR (t := 88) (j := 141) (k := 117) hAD C (dk oX10_init 97 rfl) fp_X10_80 rfl rfl (by decide) hin ?_
  refine k_aload_n C 0 (dk oX10_init 98 rfl) rfl ?_
  refine k_iconst C (dk oX10_init 99 rfl) (v := -1) (by decide) ?_
  refine k_putI hAD C (dk oX10_init 100 rfl) fi_X10_83 (k := 117) rfl (by decide) ?_
  refine k_aload_n C 0 (dk oX10_init 101 rfl) rfl ?_
  refine k_bipush C (dk oX10_init 102 rfl) (v := nI 64) (by decide) ?_
  refine k_newaI (cells' := 25) (slots' := 3168) C (dk oX10_init 103 rfl) rfl ((up2_ne (by decide)).trans (hIz 142 (by decide))) (by decide) (Nat.le_of_ble_eq_true rfl) (hst 142 (by decide)) rfl rfl ⟨Nat.le_of_ble_eq_true rfl, Nat.le_of_ble_eq_true rfl⟩ ?_
  refine k_putR (t := 89) (j := 142) (k := 117) hAD C (dk oX10_init 104 rfl) fp_X10_87 rfl rfl (by decide) hin ?_
  refine k_aload_n C 0 (dk oX10_init 105 rfl) rfl ?_
  refine k_bipush C (dk oX10_init 106 rfl) (v := nI 120) (by decide) ?_
  refine k_newaI (cells' := 26) (slots' := 3288) C (dk oX10_init 107 rfl) rfl ((up2_ne (by decide)).trans (hIz 143 (by decide))) (by decide) (Nat.le_of_ble_eq_true rfl) (hst 143 (by decide)) rfl rfl ⟨Nat.le_of_ble_eq_true rfl, Nat.le_of_ble_eq_true rfl⟩ ?_
  refine k_putR (t := 90) (j := 143) (k := 117) hAD C (dk oX10_init 108 rfl) fp_X10_90 rfl rfl (by decide) hin ?_
  refine k_aload_n C 0 (dk oX10_init 109 rfl) rfl ?_
  refine k_sipush C (dk oX10_init 110 rfl) (v := nI 4096) (by decide) ?_
  refine k_newaZ (cells' := 27) (slots' := 7384) C (dk oX10_init 111 rfl) rfl ((up2_ne (by decide)).trans (hIz 144 (by decide))) (by decide) (Nat.le_of_ble_eq_true rfl) (hst 144 (by decide)) rfl rfl ⟨Nat.le_of_ble_eq_true rfl, Nat.le_of_ble_eq_true rfl⟩ ?_
  refine k_putR (t := 91) (j := 144) (k := 117) hAD C (dk oX10_init 112 rfl) fp_X10_93 rfl rfl (by decide) hin ?_
  refine k_aload_n C 0 (dk oX10_init 113 rfl) rfl ?_
  refine k_sipush C (dk oX10_init 114 rfl) (v := nI 4096) (by decide) ?_
  refine k_newaI (cells' := 28) (slots' := 11480) C (dk oX10_init 115 rfl) rfl ((up2_ne (by decide)).trans (hIz 145 (by decide))) (by decide) (Nat.le_of_ble_eq_true rfl) (hst 145 (by decide)) rfl rfl ⟨Nat.le_of_ble_eq_true rfl, Nat.le_of_ble_eq_true rfl⟩ ?_
  refine k_putR (t := 92) (j := 145) (k := 117) hAD C (dk oX10_init 116 rfl) fp_X10_96 rfl rfl (by decide) hin ?_
  refine k_aload_n C 0 (dk oX10_init 117 rfl) rfl ?_
  refine k_bipush C (dk oX10_init 118 rfl) (v := nI 12) (by decide) ?_
  refine k_newaI (cells' := 29) (slots' := 11492) C (dk oX10_init 119 rfl) rfl ((up2_ne (by decide)).trans (hIz 146 (by decide))) (by decide) (Nat.le_of_ble_eq_true rfl) (hst 146 (by decide)) rfl rfl ⟨Nat.le_of_ble_eq_true rfl, Nat.le_of_ble_eq_true rfl⟩ ?_
  refine k_putR (t := 93) (j := 146) (k := 117) hAD C (dk oX10_init 120 rfl) fp_X10_99 rfl rfl (by decide) hin ?_
  refine k_aload_n C 0 (dk oX10_init 121 rfl) rfl ?_
  refine k_bipush C (dk oX10_init 122 rfl) (v := nI 16) (by decide) ?_
  refine k_newaI (cells' := 30) (slots' := 11508) C (dk oX10_init 123 rfl) rfl ((up2_ne (by decide)).trans (hIz 147 (by decide))) (by decide) (Nat.le_of_ble_eq_true rfl) (hst 147 (by decide)) rfl rfl ⟨Nat.le_of_ble_eq_true rfl, Nat.le_of_ble_eq_true rfl⟩ ?_
  refine k_putR (t := 94) (j := 147) (k := 117) hAD C (dk oX10_init 124 rfl) fp_X10_102 rfl rfl (by decide) hin ?_
  exact k_ret hret (dk oX10_init 125 rfl)

end CT2
