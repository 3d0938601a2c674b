section MOD14
variable {l : Launch} {n : Nat} {ad : Nat → Nat} {cA : Nat → ClassId} {D : va_G} {z : Zw}
theorem sar_b (x : Int64) : ∀ i, i < 8 → ((x >>> ((nI (8 * i)).toInt64 &&& 63)) &&& 255).toInt32 = nI (x.toBitVec.toNat / 2 ^ (8 * i) % 256) := by
  intro i hi
  rw [wb_c (8 * i) (by omega)]
  apply Int32.toBitVec_inj.mp
  apply BitVec.eq_of_getLsbD_eq
  intro j hj
  have e1 : (x >>> lN (8 * i)).toBitVec = x.toBitVec.sshiftRight (8 * i) := by
    rw [Int64.toBitVec_shiftRight]
    have : ((lN (8 * i)).toBitVec.smod 64).toNat = 8 * i := by
      have : ∀ i, i < 8 → ((lN (8 * i)).toBitVec.smod 64).toNat = 8 * i := by decide +kernel
      exact this i hi
    rw [BitVec.sshiftRight_eq', this]
  have e2 : ((x >>> lN (8 * i)) &&& 255).toInt32.toBitVec.getLsbD j = (decide (j < 8) && x.toBitVec.getLsbD (8 * i + j)) := by
    show (BitVec.signExtend 32 ((x >>> lN (8 * i)) &&& 255).toBitVec).getLsbD j = _
    rw [BitVec.getLsbD_signExtend, Int64.toBitVec_and, e1]
    rw [decide_eq_true hj, Bool.true_and, if_pos (by omega), BitVec.getLsbD_and, BitVec.getLsbD_sshiftRight]
    have h255 : ∀ j, j < 32 → (255 : Int64).toBitVec.getLsbD j = decide (j < 8) := by decide +kernel
    rw [h255 j hj]
    by_cases h8 : j < 8
    · rw [decide_eq_true h8, Bool.and_true, Bool.true_and, if_pos (by omega)]
      rw [show decide (64 ≤ j) = false from decide_eq_false (by omega)]
      rfl
    · rw [decide_eq_false h8, Bool.and_false, Bool.false_and]
  rw [e2]
  show _ = (BitVec.ofNat 32 (x.toBitVec.toNat / 2 ^ (8 * i) % 256)).getLsbD j
  rw [BitVec.getLsbD_ofNat, decide_eq_true hj, Bool.true_and, show (256 : Nat) = 2 ^ 8 from rfl, Nat.testBit_mod_two_pow, Nat.testBit_div_two_pow]
  rw [BitVec.getLsbD, Nat.add_comm j]
def loB (k : Nat) : Nat := [1, 6, 720, 6, 1, 10, 10, 120, 1, 16, 16, 16, 16, 16, 1, 1].getD (k - 118) 0
/-- only slot 0 changes -/
def lo0 (I I' : MI) : Prop := ∀ k, 117 < k → k < 134 → ∀ j, loB k ≤ j → I' k j = I k j
theorem MSl.hi {I I' : MI} {y : Nat} {σ : Su} (h : MSl I y σ) (hy : 1 ≤ y) (hF : lo0 I I') : MSl I' y σ := by
  obtain ⟨⟨a1, a2, a3⟩, ⟨b1, b2, b3⟩, ⟨c1, c2, c3⟩, d1, d2, d3⟩ := h
  refine ⟨⟨a1, by rw [hF 118 (by decide) (by decide) y (by show 1 ≤ y; omega)]; exact a2, fun c hc => ?_⟩, ⟨b1, by rw [hF 122 (by decide) (by decide) y (by show 1 ≤ y; omega)]; exact b2, fun p hp => ?_⟩, ⟨c1, by rw [hF 126 (by decide) (by decide) y (by show 1 ≤ y; omega)]; exact c2, fun k hk => ?_⟩, by rw [hF 133 (by decide) (by decide) y (by show 1 ≤ y; omega)]; exact d1, d2, d3⟩
  · rw [hF 119 (by decide) (by decide) _ (by show 6 ≤ 6 * y + c; omega), hF 121 (by decide) (by decide) _ (by show 6 ≤ 6 * y + c; omega)]
    exact ⟨(a3 c hc).1, (a3 c hc).2.1, (a3 c hc).2.2.1, fun k hk => by rw [hF 120 (by decide) (by decide) _ (by show 720 ≤ 720 * y + (120 * c + k); omega)]; exact (a3 c hc).2.2.2.1 k hk, (a3 c hc).2.2.2.2⟩
  · rw [hF 123 (by decide) (by decide) _ (by show 10 ≤ 10 * y + p; omega), hF 124 (by decide) (by decide) _ (by show 10 ≤ 10 * y + p; omega)]
    exact ⟨(b3 p hp).1, (b3 p hp).2.1, (b3 p hp).2.2.1, fun f hf => by rw [hF 125 (by decide) (by decide) _ (by show 120 ≤ 120 * y + (12 * p + f); omega)]; exact (b3 p hp).2.2.2 f hf⟩
  · rw [hF 127 (by decide) (by decide) _ (by show 16 ≤ 16 * y + k; omega), hF 128 (by decide) (by decide) _ (by show 16 ≤ 16 * y + k; omega), hF 129 (by decide) (by decide) _ (by show 16 ≤ 16 * y + k; omega), hF 130 (by decide) (by decide) _ (by show 16 ≤ 16 * y + k; omega), hF 131 (by decide) (by decide) _ (by show 16 ≤ 16 * y + k; omega)]
    exact c3 k hk
/-- slot 0 changes, and what else is told -/
theorem MM.mk {I I' : MI} {τ : St} {σ : Su} (h : MM I τ) (h1 : MSl I' 0 σ) (hF : lo0 I I') (hB : MBg I' (σ, τ.2)) (h134 : I' 134 = I 134) (hT : I' 117 25 = I 117 25) (h30 : I' 117 30 = I 117 30) (h141 : I' 141 = I 141) (hz : MZs I') : MM I' (σ, τ.2) := by
  obtain ⟨a1, a2, a3, a4, a5, a6⟩ := h
  exact ⟨h1, hB, fun i hi => ⟨by rw [h134]; exact (a3 i hi).1, fun hk => ⟨((a3 i hi).2 hk).1.hi (by omega) hF, by rw [hF 132 (by decide) (by decide) (i + 1) (by show 1 ≤ i + 1; omega)]; exact ((a3 i hi).2 hk).2⟩⟩, a4.of hT h141, h30.trans a5, hz⟩
/-- the parts of slot 0 that stay -/
theorem MClm.st {I I' : MI} {y nc : Nat} {co : Nat → Int32} {cd : Nat → List Nat} (h : MClm I y nc co cd) (hF : ∀ k, 117 < k → k < 122 → I' k = I k) : MClm I' y nc co cd := by
  unfold MClm
  rw [hF 118 (by decide) (by decide), hF 119 (by decide) (by decide), hF 120 (by decide) (by decide), hF 121 (by decide) (by decide)]
  exact h
theorem MPap.st {I I' : MI} {y np : Nat} {dy : Nat → Nat} {lt : Nat → Bool} {ac : Nat → Nat → Nat} (h : MPap I y np dy lt ac) (hF : ∀ k, 121 < k → k < 126 → I' k = I k) : MPap I' y np dy lt ac := by
  unfold MPap
  rw [hF 122 (by decide) (by decide), hF 123 (by decide) (by decide), hF 124 (by decide) (by decide), hF 125 (by decide) (by decide)]
  exact h
theorem MPrf.st {I I' : MI} {y nk : Nat} {sd fo od ct : Nat → Nat} {br : Nat → Bool} (h : MPrf I y nk sd fo od ct br) (hF : ∀ k, 125 < k → k < 132 → I' k = I k) : MPrf I' y nk sd fo od ct br := by
  unfold MPrf
  rw [hF 126 (by decide) (by decide), hF 127 (by decide) (by decide), hF 128 (by decide) (by decide), hF 129 (by decide) (by decide), hF 130 (by decide) (by decide), hF 131 (by decide) (by decide)]
  exact h
theorem lo0.up {I : MI} {k i : Nat} {v : Int32} (h : i < loB k) : lo0 I (up2 I k i v) := by
  intro q _ _ j hj
  by_cases e : q = k
  · subst e
    exact up2_off (by omega)
  · rw [up2_ne e]
theorem lo0.tr {I I1 I2 : MI} (h1 : lo0 I I1) (h2 : lo0 I1 I2) : lo0 I I2 := fun k a b j hj => (h2 k a b j hj).trans (h1 k a b j hj)
theorem lo0.ot {I : MI} {k i : Nat} {v : Int32} (h : k < 118 ∨ 133 < k) : lo0 I (up2 I k i v) := fun q a b j _ => by rw [up2_ne (by omega)]
theorem MBg.u {I I' : MI} {τ τ' : St} (h : MBg I τ) (h1 : I' 117 17 = I 117 17) (h2 : I' 132 0 = I 132 0) (h3 : sDu τ' = sDu τ) (h4 : sKp τ' = sKp τ) : MBg I' τ' := by
  unfold MBg
  rw [h1, h2, h3, h4]
  exact h
def bgP (I I' : MI) : Prop := (∀ k, k ≠ 117 → k ≠ 132 → I' k = I k) ∧ (∀ i, i ≠ 17 → I' 117 i = I 117 i) ∧ (∀ i, i ≠ 0 → I' 132 i = I 132 i) ∧ I' 132 0 = (if I 117 17 = 0 then nI 20 else I 132 0) ∧ (I 117 17 = 0 → I' 117 17 = nI 1) ∧ (¬ I 117 17 = 0 → I' 117 17 = I 117 17)
theorem MM.bg {I I' : MI} {τ : St} (h : MM I τ) (hb : bgP I I') : MM I' τ ∧ I' 132 0 = nI (sDu τ) ∧ I' 117 17 = nI 1 := by
  obtain ⟨b1, b2, b3, b4, b5, b6⟩ := hb
  have hd : I' 132 0 = nI (sDu τ) ∧ I' 117 17 = nI 1 := by
    rcases h.2.1 with ⟨q1, q2⟩ | ⟨q1, q2, _⟩
    · have hz : ¬ I 117 17 = 0 := by rw [q1]; decide
      exact ⟨by rw [b4, if_neg hz]; exact q2, by rw [b6 hz]; exact q1⟩
    · have hz : I 117 17 = 0 := by rw [q1]; rfl
      exact ⟨by rw [b4, if_pos hz, q2], b5 hz⟩
  refine ⟨MM.mk (σ := τ.1) h ⟨h.1.1.st (fun k a b => b1 k (by omega) (by omega)), h.1.2.1.st (fun k a b => b1 k (by omega) (by omega)), h.1.2.2.1.st (fun k a b => b1 k (by omega) (by omega)), by rw [b1 133 (by decide) (by decide)]; exact h.1.2.2.2.1, h.1.2.2.2.2.1, h.1.2.2.2.2.2⟩ (fun k a b j hj => ?_) (Or.inl ⟨hd.2, hd.1⟩) (b1 134 (by decide) (by decide)) (b2 25 (by decide)) (b2 30 (by decide)) (b1 141 (by decide) (by decide)) (by unfold MZs; rw [b1 124 (by decide) (by decide), b1 131 (by decide) (by decide)]; exact h.2.2.2.2.2), hd⟩
  by_cases e : k = 132
  · subst e
    exact b3 j (by have : 1 ≤ j := hj; omega)
  · rw [b1 k (by omega) e]
set_option maxHeartbeats 1000000 in
set_option maxRecDepth 100000 in
theorem c_X10_due (hn : 148 ≤ n) (I : MI) (J : MJ) (τ : St) (hMM : MM I τ) (x : Int32) : Ci l n ad cA D z 1 yX10_due cX10_due 3 .int I J [.ref (ad 117), .int x] (fun r I' J' => r = (q_due τ x).1 ∧ MM I' (q_due τ x).2 ∧ (∀ k, k < 117 → I' k = I k) ∧ J' = J) := by
  refine Ci.of (by decide) (Nat.le_of_ble_eq_true rfl) ?_
  intro p e s m args below meth c A C hin Z Q hret
  refine r_aload_n C 0 (dk oX10_due 0 rfl) rfl ?_
  refine r_ivv C Z (dk oX10_due 1 rfl) cl_X10_218 ci_X10_begin rfl (km hn rfl) (c_X10_begin hn I J) rfl rfl (Nat.le_of_ble_eq_true rfl) ⟨Nat.le_of_ble_eq_true rfl, Nat.le_of_ble_eq_true rfl⟩ ⟨Nat.zero_le _, Nat.zero_le _⟩ (fun I1 J1 h1 => ?_)
  obtain ⟨g1, g2, g3, g4, g5, g6, e2_⟩ := h1
  have e2_ := e2_.symm
  subst e2_
  have hbg : bgP I I1 := ⟨g1, g2, g3, g4, g5, g6⟩
  obtain ⟨hMM1, hdu1, hbe1⟩ := hMM.bg hbg
  have hF1 : ∀ k, k < 117 → I1 k = I k := fun k hk => g1 k (by omega) (by omega)
  refine r_iload_n C 1 (dk oX10_due 2 rfl) rfl ?_
  refine r_i2l C (dk oX10_due 3 rfl) ?_
  refine r_lconst C (dk oX10_due 4 rfl) (v := 1) (by decide) ?_
  refine r_ldc2 C (dk oX10_due 5 rfl) kn_X10_253 ?_
  refine r_isi C Z (dk oX10_due 6 rfl) cl_X10_131 st_X10_in (c_X10_in _ J (x.toInt64) (1) (99)) rfl rfl (Nat.le_of_ble_eq_true rfl) ⟨Nat.le_of_ble_eq_true rfl, Nat.le_of_ble_eq_true rfl⟩ ⟨Nat.zero_le _, Nat.zero_le _⟩ (fun r10 I10 J10 h10 => ?_)
  obtain ⟨h10, e1_, e2_⟩ := h10
  have e1_ := e1_.symm
  have e2_ := e2_.symm
  subst e1_
  subst e2_
  subst h10
  rw [show decide ((1 : Int64) ≤ x.toInt64 ∧ x.toInt64 ≤ 99) = decide (¬ (x < nI 1 ∨ nI 99 < x)) from decide_eq_decide.mpr (in_lo (by decide) (by decide) rfl rfl)]
  refine r_if_ne (tgt := 19) C (dk oX10_due 7 rfl) (by decide) (fun hb13 => ?_) (fun hb13 => ?_)
  · rw [b32_n, decide_eq_true_eq] at hb13
    have hq := hb13
    have hv : vdN x 100 := vd_hi (n := 99) (by decide) (fun q => hb13 (Or.inl (fa_trans q (show (0 : Int32) ≤ nI 1 by decide)))) (Int32.not_lt.mp (fun q => hb13 (Or.inr q)))
    obtain ⟨v_, h_v_, hx_v_⟩ := vd_of (by decide) hv
    subst hx_v_
    refine r_aload_n C 0 (dk oX10_due 10 rfl) rfl ?_
    refine r_getR C (dk oX10_due 11 rfl) fl_X10_53 rfl (km hn rfl) ?_
    refine r_iconst C (dk oX10_due 12 rfl) (v := nI 0) (by decide) ?_
    refine r_iald C 0 (dk oX10_due 13 rfl) rfl (km hn rfl) rfl (by decide) (by decide) ?_
    rw [hdu1]
    refine r_istore_n (lo' := [(2, _), (0, _), (1, _)]) C (dk oX10_due 14 rfl) rfl (by decide) rfl ?_
    refine r_aload_n C 1 (dk oX10_due 15 rfl) rfl ?_
    refine r_getR C (dk oX10_due 16 rfl) fl_X10_53 rfl (km hn rfl) ?_
    refine r_iconst C (dk oX10_due 17 rfl) (v := nI 0) (by decide) ?_
    refine r_iload_n C 2 (dk oX10_due 18 rfl) rfl ?_
    refine r_iast C 0 (dk oX10_due 19 rfl) rfl (km hn rfl) rfl (by decide) (by decide) ?_
    refine r_iload_n C 0 (dk oX10_due 20 rfl) rfl ?_
    refine hret (dk oX10_due 21 rfl) rfl ?_
    unfold q_due
    rw [if_neg hq, cN_n (by omega)]
    refine ⟨rfl, MM.mk (σ := (τ.1.1, τ.1.2.1, τ.1.2.2.1, v_, τ.1.2.2.2.2)) hMM1 ⟨hMM1.1.1.st (fun k a b => up2_ne (by omega)), hMM1.1.2.1.st (fun k a b => up2_ne (by omega)), hMM1.1.2.2.1.st (fun k a b => up2_ne (by omega)), by rw [up2_ne (by decide)]; exact hMM1.1.2.2.2.1, hMM1.1.2.2.2.2.1, h_v_⟩ (lo0.up (by decide)) (Or.inl ⟨by rw [up2_ne (by decide)]; exact hbe1, up2_at⟩) (up2_ne (by decide)) (by rw [up2_ne (by decide)]) (by rw [up2_ne (by decide)]) (up2_ne (by decide)) (by unfold MZs; rw [up2_ne (by decide), up2_ne (by decide)]; exact hMM1.2.2.2.2.2), fun k hk => by rw [up2_ne (by omega)]; exact hF1 k hk, rfl⟩
  · rw [b32_0, decide_eq_false_iff_not] at hb13
    have hq := Classical.not_not.mp hb13
    refine r_ldc C (dk oX10_due 8 rfl) kn_X10_135 ?_
    refine hret (dk oX10_due 9 rfl) rfl ?_
    unfold q_due
    rw [if_pos hq]
    exact ⟨rfl, hMM1, hF1, rfl⟩

theorem MM.se {I : MI} {τ : St} {v : Nat} (hMM : MM I τ) (hv : v < 2 ^ 31) : MM (up2 I 133 0 (nI v)) (stE τ v) :=
  MM.mk (σ := (τ.1.1, τ.1.2.1, τ.1.2.2.1, τ.1.2.2.2.1, v)) hMM ⟨hMM.1.1.st (fun k a b => up2_ne (by omega)), hMM.1.2.1.st (fun k a b => up2_ne (by omega)), hMM.1.2.2.1.st (fun k a b => up2_ne (by omega)), up2_at, hv, hMM.1.2.2.2.2.2⟩ (lo0.up (by decide)) (hMM.2.1.u (by rw [up2_ne (by decide)]) (by rw [up2_ne (by decide)]) rfl rfl) (up2_ne (by decide)) (by rw [up2_ne (by decide)]) (by rw [up2_ne (by decide)]) (up2_ne (by decide)) (by unfold MZs; rw [up2_ne (by decide), up2_ne (by decide)]; exact hMM.2.2.2.2.2)
set_option maxHeartbeats 1000000 in
set_option maxRecDepth 100000 in
theorem c_X10_seed (hn : 148 ≤ n) (I : MI) (J : MJ) (τ : St) (hMM : MM I τ) (x : Int32) : Ci l n ad cA D z 0 yX10_seed cX10_seed 3 .int I J [.ref (ad 117), .int x] (fun r I' J' => r = (q_seed τ x).1 ∧ MM I' (q_seed τ x).2 ∧ (∀ k, k < 117 → I' k = I k) ∧ J' = J) := by
  refine Ci.of (by decide) (Nat.le_of_ble_eq_true rfl) ?_
  intro p e s m args below meth c A C hin Z Q hret
  refine r_iload_n C 1 (dk oX10_seed 0 rfl) rfl ?_
  refine r_if_ge (tgt := 7) C (dk oX10_seed 1 rfl) (by decide) (fun hb1 => ?_) (fun hb1 => ?_)
  · obtain ⟨v_, h_v_, hx_v_⟩ : ∃ v, v < 2 ^ 31 ∧ x = nI v := by
      have h0 := hb1
      rw [fa_le] at h0
      have h0 : 0 ≤ x.toInt := h0
      have h1 := Int32.toInt_lt x
      refine ⟨x.toInt.toNat, by omega, ?_⟩
      rw [fa_eq, nI_toI (by omega)]
      omega
    have hb1c := hb1
    subst hx_v_
    refine r_aload_n C 0 (dk oX10_seed 4 rfl) rfl ?_
    refine r_getR C (dk oX10_seed 5 rfl) fl_X10_56 rfl (km hn rfl) ?_
    refine r_iconst C (dk oX10_seed 6 rfl) (v := nI 0) (by decide) ?_
    refine r_iald C 0 (dk oX10_seed 7 rfl) rfl (km hn rfl) rfl (by decide) (by decide) ?_
    rw [hMM.1.2.2.2.1]
    refine r_istore_n (lo' := [(2, _), (0, _), (1, _)]) C (dk oX10_seed 8 rfl) rfl (by decide) rfl ?_
    refine r_aload_n C 1 (dk oX10_seed 9 rfl) rfl ?_
    refine r_getR C (dk oX10_seed 10 rfl) fl_X10_56 rfl (km hn rfl) ?_
    refine r_iconst C (dk oX10_seed 11 rfl) (v := nI 0) (by decide) ?_
    refine r_iload_n C 2 (dk oX10_seed 12 rfl) rfl ?_
    refine r_iast C 0 (dk oX10_seed 13 rfl) rfl (km hn rfl) rfl (by decide) (by decide) ?_
    refine r_iload_n C 0 (dk oX10_seed 14 rfl) rfl ?_
    refine hret (dk oX10_seed 15 rfl) rfl ?_
    unfold q_seed
    rw [if_neg (Int32.not_lt.mpr hb1c), cN_n h_v_]
    exact ⟨rfl, hMM.se h_v_, fun k hk => up2_ne (by omega), rfl⟩
  · refine r_ldc C (dk oX10_seed 2 rfl) kn_X10_135 ?_
    refine hret (dk oX10_seed 3 rfl) rfl ?_
    unfold q_seed
    rw [if_pos (Int32.not_le.mp hb1)]
    exact ⟨rfl, hMM, fun _ _ => rfl, rfl⟩

set_option maxHeartbeats 1000000 in
set_option maxRecDepth 100000 in
theorem c_X10_strike (hn : 148 ≤ n) (I : MI) (J : MJ) (τ : St) (hMM : MM I τ) : Ci l n ad cA D z 0 yX10_strike cX10_strike 1 .int I J [.ref (ad 117)] (fun r I' J' => r = (q_strike τ).1 ∧ MM I' (q_strike τ).2 ∧ (∀ k, k < 117 → I' k = I k) ∧ J' = J) := by
  refine Ci.of (by decide) (Nat.le_of_ble_eq_true rfl) ?_
  intro p e s m args below meth c A C hin Z Q hret
  have hC0 := hMM.c0
  have hK0 := hMM.k0
  have hP0 := hMM.pap.zz
  have hok := hMM.ok
  have hnc : (sCl τ).1 ≤ 6 := hC0.1
  have hnp : (sPp τ).1 ≤ 10 := hP0.1
  have hnk : (sPk τ).1 ≤ 16 := hK0.1
  have hMT := hMM.2.2.2.1
  have hL := hMT.1
  have hop := @opN_lt (sPhi τ)
  have hB : brQ (sPk τ) < 65536 := brN_16 hnk
  refine r_aload_n C 0 (dk oX10_strike 0 rfl) rfl ?_
  refine r_getR C (dk oX10_strike 1 rfl) fl_X10_22 rfl (km hn rfl) ?_
  refine r_iconst C (dk oX10_strike 2 rfl) (v := nI 0) (by decide) ?_
  refine r_iald C 0 (dk oX10_strike 3 rfl) rfl (km hn rfl) rfl (by decide) (by decide) ?_
  rw [hP0.2.1]
  refine r_if_ne (tgt := 12) C (dk oX10_strike 4 rfl) (by decide) (fun hb6 => ?_) (fun hb6 => ?_)
  · have hz : ¬ (sPp τ).1 = 0 := fun q => hb6 (by rw [q]; rfl)
    refine r_aload_n C 0 (dk oX10_strike 7 rfl) rfl ?_
    refine r_getR C (dk oX10_strike 8 rfl) fl_X10_22 rfl (km hn rfl) ?_
    refine r_iconst C (dk oX10_strike 9 rfl) (v := nI 0) (by decide) ?_
    refine r_dup2 C (dk oX10_strike 10 rfl) rfl rfl ?_
    refine r_iald C 0 (dk oX10_strike 11 rfl) rfl (km hn rfl) rfl (by decide) (by decide) ?_
    rw [hP0.2.1]
    refine r_iconst C (dk oX10_strike 12 rfl) (v := nI 1) (by decide) ?_
    refine r_isub C (dk oX10_strike 13 rfl) ?_
    rw [pk_sub (by omega)]
    refine r_iast C 0 (dk oX10_strike 14 rfl) rfl (km hn rfl) rfl (by decide) (by decide) ?_
    refine r_aload_n C 0 (dk oX10_strike 15 rfl) rfl ?_
    refine r_getR C (dk oX10_strike 16 rfl) fl_X10_22 rfl (km hn rfl) ?_
    refine r_iconst C (dk oX10_strike 17 rfl) (v := nI 0) (by decide) ?_
    refine r_iald C 0 (dk oX10_strike 18 rfl) rfl (km hn rfl) rfl (by decide) (by decide) ?_
    rw [up2_at]
    refine hret (dk oX10_strike 19 rfl) rfl ?_
    unfold q_strike
    rw [if_neg (by omega)]
    have hP := hMM.pap
    refine ⟨rfl, MM.mk (σ := (τ.1.1, ((sPp τ).1 - 1, (sPp τ).2), τ.1.2.2)) hMM ⟨hMM.1.1.st (fun k a b => up2_ne (by omega)), ⟨by show (sPp τ).1 - 1 ≤ 10; omega, up2_at, fun p hp => ?_⟩, hMM.1.2.2.1.st (fun k a b => up2_ne (by omega)), by rw [up2_ne (by decide)]; exact hMM.1.2.2.2.1, hMM.1.2.2.2.2.1, hMM.1.2.2.2.2.2⟩ (lo0.up (by decide)) (hMM.2.1.u (by rw [up2_ne (by decide)]) (by rw [up2_ne (by decide)]) rfl rfl) (up2_ne (by decide)) (by rw [up2_ne (by decide)]) (by rw [up2_ne (by decide)]) (up2_ne (by decide)) (by unfold MZs; rw [up2_ne (by decide), up2_ne (by decide)]; exact hMM.2.2.2.2.2), fun k hk => up2_ne (by omega), rfl⟩
    have hp2 : p < (sPp τ).1 - 1 := hp
    have q := hP.2.2 p (by omega)
    exact ⟨by rw [up2_ne (by decide)]; exact q.1, q.2.1, by rw [up2_ne (by decide)]; exact q.2.2.1, fun f hf => ⟨by rw [up2_ne (by decide)]; exact (q.2.2.2 f hf).1, (q.2.2.2 f hf).2⟩⟩
  · have hz : (sPp τ).1 = 0 := by
      simp (disch := omega) only [nI_leI, nI_ltI, nI_eq, nI_eq0] at hb6
      exact hb6
    refine r_ldc C (dk oX10_strike 5 rfl) kn_X10_221 ?_
    refine hret (dk oX10_strike 6 rfl) rfl ?_
    unfold q_strike
    rw [if_pos (by omega)]
    exact ⟨rfl, hMM, fun _ _ => rfl, rfl⟩

set_option maxHeartbeats 1000000 in
set_option maxRecDepth 100000 in
theorem c_X10_bring (hn : 148 ≤ n) (I : MI) (J : MJ) (τ : St) (hMM : MM I τ) (x : Int32) (b : Bool) : Ci l n ad cA D z 2 yX10_bring cX10_bring 4 .int I J [.ref (ad 117), .int x, .int (b32 b)] (fun r I' J' => r = (q_bring τ x b).1 ∧ MM I' (q_bring τ x b).2 ∧ (∀ k, k < 117 → I' k = I k) ∧ J' = J) := by
  refine Ci.of (by decide) (Nat.le_of_ble_eq_true rfl) ?_
  intro p e s m args below meth c A C hin Z Q hret
  have hC0 := hMM.c0
  have hK0 := hMM.k0
  have hP0 := hMM.pap.zz
  have hok := hMM.ok
  have hnc : (sCl τ).1 ≤ 6 := hC0.1
  have hnp : (sPp τ).1 ≤ 10 := hP0.1
  have hnk : (sPk τ).1 ≤ 16 := hK0.1
  have hMT := hMM.2.2.2.1
  have hL := hMT.1
  have hop := @opN_lt (sPhi τ)
  have hB : brQ (sPk τ) < 65536 := brN_16 hnk
  refine r_aload_n C 0 (dk oX10_bring 0 rfl) rfl ?_
  refine r_iload_n C 1 (dk oX10_bring 1 rfl) rfl ?_
  refine r_ivi C Z (dk oX10_bring 2 rfl) cl_X10_307 ci_X10_isProof rfl (km hn rfl) (c_X10_isProof hn I J (sPk τ).1 (by omega) hK0.2.1 x) rfl rfl (Nat.le_of_ble_eq_true rfl) ⟨Nat.le_of_ble_eq_true rfl, Nat.le_of_ble_eq_true rfl⟩ ⟨Nat.zero_le _, Nat.zero_le _⟩ (fun r2 I2 J2 h2 => ?_)
  obtain ⟨h2, e1_, e2_⟩ := h2
  have e1_ := e1_.symm
  have e2_ := e2_.symm
  subst e1_
  subst e2_
  subst h2
  refine r_if_ne (tgt := 12) C (dk oX10_bring 3 rfl) (by decide) (fun hb5 => ?_) (fun hb5 => ?_)
  · rw [b32_n, decide_eq_true_eq] at hb5
    obtain ⟨k_, h_k_, hx_k_⟩ := vd_of (by omega) hb5
    subst hx_k_
    have q4 := hK0.2.2 k_ h_k_
    refine r_aload_n C 0 (dk oX10_bring 6 rfl) rfl ?_
    refine r_getR C (dk oX10_bring 7 rfl) fl_X10_50 rfl (km hn rfl) ?_
    refine r_iload_n C 1 (dk oX10_bring 8 rfl) rfl ?_
    refine r_zald C _ (dk oX10_bring 9 rfl) rfl (km hn rfl) rfl (by omega) (by decide) ?_
    rw [q4.2.2.2.2.2.2.2.2]
    refine r_istore_n (lo' := [(3, _), (0, _), (1, _), (2, _)]) C (dk oX10_bring 10 rfl) rfl (by decide) rfl ?_
    refine r_aload_n C 1 (dk oX10_bring 11 rfl) rfl ?_
    refine r_getR C (dk oX10_bring 12 rfl) fl_X10_50 rfl (km hn rfl) ?_
    refine r_iload_n C 2 (dk oX10_bring 13 rfl) rfl ?_
    refine r_iload_n C 3 (dk oX10_bring 14 rfl) rfl ?_
    refine r_zast C _ (dk oX10_bring 15 rfl) rfl (km hn rfl) rfl (by omega) (by decide) (b32_or _) ?_
    refine r_iload_n C 0 (dk oX10_bring 16 rfl) rfl ?_
    refine r_isi C Z (dk oX10_bring 17 rfl) cl_X10_109 st_X10_one (c_X10_one _ J _) rfl rfl (Nat.le_of_ble_eq_true rfl) ⟨Nat.le_of_ble_eq_true rfl, Nat.le_of_ble_eq_true rfl⟩ ⟨Nat.zero_le _, Nat.zero_le _⟩ (fun r27 I27 J27 h27 => ?_)
    obtain ⟨h27, e1_, e2_⟩ := h27
    have e1_ := e1_.symm
    have e2_ := e2_.symm
    subst e1_
    subst e2_
    subst h27
    refine hret (dk oX10_bring 18 rfl) rfl ?_
    unfold q_bring
    rw [if_pos (vd_n h_k_ (by omega)), cN_n (by omega)]
    have hP := hMM.1.2.2.1
    have hz := hMM.2.2.2.2.2
    refine ⟨rfl, MM.mk (σ := (τ.1.1, τ.1.2.1, ((sPk τ).1, (sPk τ).2.1, (sPk τ).2.2.1, (sPk τ).2.2.2.1, (sPk τ).2.2.2.2.1, (fun j => if j = k_ then b else (sPk τ).2.2.2.2.2 j)), τ.1.2.2.2)) hMM ⟨hMM.1.1.st (fun k a b => up2_ne (by omega)), hMM.1.2.1.st (fun k a b => up2_ne (by omega)), ⟨hP.1, by rw [up2_ne (by decide)]; exact hP.2.1, fun k hk => ?_⟩, by rw [up2_ne (by decide)]; exact hMM.1.2.2.2.1, hMM.1.2.2.2.2.1, hMM.1.2.2.2.2.2⟩ (lo0.up (by show k_ < 16; omega)) (hMM.2.1.u (by rw [up2_ne (by decide)]) (by rw [up2_ne (by decide)]) rfl rfl) (up2_ne (by decide)) (by rw [up2_ne (by decide)]) (by rw [up2_ne (by decide)]) (up2_ne (by decide)) ⟨fun j hj => by rw [up2_ne (by decide)]; exact hz.1 j hj, fun j hj => ?_⟩, fun k hk => up2_ne (by omega), rfl⟩
    · have q := hP.2.2 k hk
      rw [up2_ne (by decide), up2_ne (by decide), up2_ne (by decide), up2_ne (by decide)]
      refine ⟨q.1, q.2.1, q.2.2.1, q.2.2.2.1, q.2.2.2.2.1, q.2.2.2.2.2.1, q.2.2.2.2.2.2.1, q.2.2.2.2.2.2.2.1, ?_⟩
      show _ = b32 (if k = k_ then b else (sPk τ).2.2.2.2.2 k)
      by_cases e : k = k_
      · rw [if_pos e, e, Nat.mul_zero, Nat.zero_add, up2_at]
      · rw [if_neg e, up2_off (by omega)]
        exact q.2.2.2.2.2.2.2.2
    · by_cases e : j = k_
      · rw [e, up2_at]; exact b32_or b
      · rw [up2_off e]; exact hz.2 j hj
  · rw [b32_0, decide_eq_false_iff_not] at hb5
    refine r_ldcw C (dk oX10_bring 4 rfl) kn_X10_264 ?_
    refine hret (dk oX10_bring 5 rfl) rfl ?_
    unfold q_bring
    rw [if_neg hb5]
    exact ⟨rfl, hMM, fun _ _ => rfl, rfl⟩

end MOD14
