section MOD21
variable {l : Launch} {n : Nat} {ad : Nat → Nat} {cA : Nat → ClassId} {D : va_G} {z : Zw}
/-- reading a paper goes on -/
def mPS (I : MI) (t : Nat → Nat) (L p at_ ks : Nat) (a : Nat → Nat) : Prop := MTx I t L ∧ I 117 26 = nI at_ ∧ at_ ≤ L ∧ I 117 29 = nI 0 ∧ I 117 30 = -1 ∧ I 117 36 = nI ks ∧ ks < 128 ∧ I 117 37 = nI (bS (fun f => decide (a f ≠ 0)) 12) ∧ (∀ f, f < 12 → I 125 (12 * p + f) = nI (a f)) ∧ ∀ f, a f ≤ 6
def mPX (p : Nat) (I I' : MI) : Prop := (∀ k, k ≠ 117 → k ≠ 125 → I' k = I k) ∧ (∀ i, i ≠ 26 → i ≠ 27 → i ≠ 28 → i ≠ 29 → i ≠ 30 → i ≠ 36 → i ≠ 37 → I' 117 i = I 117 i) ∧ ∀ j, j < 12 * p ∨ 12 * p + 12 ≤ j → I' 125 j = I 125 j
theorem mPX.rf (p : Nat) (I : MI) : mPX p I I := ⟨fun _ _ _ => rfl, fun _ _ _ _ _ _ _ _ => rfl, fun _ _ => rfl⟩
theorem mPX.tr {p : Nat} {I I1 I2 : MI} (h1 : mPX p I I1) (h2 : mPX p I1 I2) : mPX p I I2 := ⟨fun k a b => (h2.1 k a b).trans (h1.1 k a b), fun k a b c d e f g => (h2.2.1 k a b c d e f g).trans (h1.2.1 k a b c d e f g), fun j hj => (h2.2.2 j hj).trans (h1.2.2 j hj)⟩
theorem mPX.up {p : Nat} {I I1 : MI} (h : mPX p I I1) (i : Nat) (v : Int32) (hi : i = 26 ∨ i = 27 ∨ i = 28 ∨ i = 29 ∨ i = 30 ∨ i = 36 ∨ i = 37) : mPX p I (up2 I1 117 i v) := ⟨fun k a b => by rw [up2_ne a]; exact h.1 k a b, fun q a b c d e f g => by rw [up2_off (by omega)]; exact h.2.1 q a b c d e f g, fun j hj => by rw [up2_ne (by decide)]; exact h.2.2 j hj⟩
theorem mPX.ua {p : Nat} {I I1 : MI} (h : mPX p I I1) {f : Nat} {v : Int32} (hf : f < 12) : mPX p I (up2 I1 125 (12 * p + f) v) := ⟨fun k a b => by rw [up2_ne b]; exact h.1 k a b, fun q a b c d e f g => by rw [up2_ne (by decide)]; exact h.2.1 q a b c d e f g, fun j hj => by rw [up2_off (by omega)]; exact h.2.2 j hj⟩
theorem tkF.P {I I' : MI} {p : Nat} (h : tkF I I') : mPX p I I' := ⟨fun k a _ => h.1 k a, fun i a b c _ _ _ _ => h.2 i a b c, fun j _ => by rw [h.1 125 (by decide)]⟩
theorem nuF.P {I I' : MI} {p : Nat} (h : nuF I I') : mPX p I I' := ⟨fun k a _ => h.1 k a, fun i a b _ d e _ _ => h.2 i a b d e, fun j _ => by rw [h.1 125 (by decide)]⟩
theorem hereP {I I' : MI} {p : Nat} (h1 : ∀ k, k ≠ 117 → I' k = I k) (h2 : ∀ i, i ≠ 26 → I' 117 i = I 117 i) : mPX p I I' := ⟨fun k a _ => h1 k a, fun i a _ _ _ _ _ _ => h2 i a, fun j _ => by rw [h1 125 (by decide)]⟩
def mPB (t : Nat → Nat) (L p : Nat) (Φ : Nat → FS) (σ : PS) (I' : MI) : Prop := ∃ f s' ks k a, 0 < f ∧ f < 6 ∧ I' 117 29 = nI f ∧ I' 117 30 = nI s' ∧ rchP (stpP t L p Φ) σ (10 + f, s', ks, k, a)
theorem mPB.to {t : Nat → Nat} {L p : Nat} {Φ : Nat → FS} {σ τ : PS} {I' : MI} (h : mPB t L p Φ τ I') (hr : rchP (stpP t L p Φ) σ τ) : mPB t L p Φ σ I' := by
  obtain ⟨f, s', ks, k, a, h1, h2, h3, h4, h5⟩ := h
  exact ⟨f, s', ks, k, a, h1, h2, h3, h4, hr.trans h5⟩
theorem mPB.nz {t : Nat → Nat} {L p : Nat} {Φ : Nat → FS} {σ : PS} {I1 : MI} (h : mPB t L p Φ σ I1) : ¬ I1 117 29 = 0 := by
  obtain ⟨f, s', _, _, _, h1, h2, h3, _⟩ := h
  rw [h3]
  exact fun q => absurd ((nI_eq0 (by omega)).mp q) (by omega)
theorem mPS.zf {I1 : MI} {t : Nat → Nat} {L p at_ ks : Nat} {a : Nat → Nat} (h : mPS I1 t L p at_ ks a) : I1 117 29 = 0 := by
  rw [h.2.2.2.1]; rfl
theorem FcM.P {I I' : MI} {Φ : Nat → FS} {p : Nat} (h : FcM I 134 Φ) (hF : mPX p I I') : FcM I' 134 Φ := h.of (fun c a b => hF.1 c (by omega) (by omega))
theorem pS_num {t : Nat → Nat} {L p : Nat} {Φ : Nat → FS} {s ks k : Nat} {a : Nat → Nat} (h : ¬ nmF t L (itP t L s k) 0 11 = 0) : stpP t L p Φ (1, s, ks, k, a) = (10 + nmF t L (itP t L s k) 0 11, itP t L s k, ks, k, a) := by
  unfold stpP
  rw [if_neg (show ¬ (1 : Nat) = 0 by decide), if_pos rfl]
  exact if_pos h
theorem pS_4 {t : Nat → Nat} {L p : Nat} {Φ : Nat → FS} {s ks k : Nat} {a : Nat → Nat} (h : nmF t L (itP t L s k) 0 11 = 0) (h4 : ¬ a (nmV t L (itP t L s k)) = 0) : stpP t L p Φ (1, s, ks, k, a) = (14, itP t L s k, ks, k, a) := by
  unfold stpP
  rw [if_neg (show ¬ (1 : Nat) = 0 by decide), if_pos rfl]
  exact (if_neg (fun q => q h)).trans (if_pos h4)
theorem pS_5 {t : Nat → Nat} {L p : Nat} {Φ : Nat → FS} {s ks k : Nat} {a : Nat → Nat} (h : nmF t L (itP t L s k) 0 11 = 0) (h4 : a (nmV t L (itP t L s k)) = 0) (h5 : alw (itA t L s k) p (Φ (nmV t L (itP t L s k))) = false) : stpP t L p Φ (1, s, ks, k, a) = (15, itP t L s k, ks, k, a) := by
  unfold stpP
  rw [if_neg (show ¬ (1 : Nat) = 0 by decide), if_pos rfl]
  exact (if_neg (fun q => q h)).trans ((if_neg (fun q => q h4)).trans (if_pos h5))
theorem pS_ok {t : Nat → Nat} {L p : Nat} {Φ : Nat → FS} {s ks k : Nat} {a : Nat → Nat} (h : nmF t L (itP t L s k) 0 11 = 0) (h4 : a (nmV t L (itP t L s k)) = 0) (h5 : alw (itA t L s k) p (Φ (nmV t L (itP t L s k))) = true) : stpP t L p Φ (1, s, ks, k, a) = (2, sk t L (nE t L (itP t L s k)), ks, k, fun f => if f = nmV t L (itP t L s k) then itA t L s k else a f) := by
  unfold stpP
  rw [if_neg (show ¬ (1 : Nat) = 0 by decide), if_pos rfl]
  exact (if_neg (fun q => q h)).trans ((if_neg (fun q => q h4)).trans (if_neg (by rw [h5]; decide)))
theorem pS_k0 {t : Nat → Nat} {L p : Nat} {Φ : Nat → FS} {s ks k : Nat} {a : Nat → Nat} (hs : s < L) (h : kdOf t L s = 0) : stpP t L p Φ (0, s, ks, k, a) = (11, s, ks, k, a) := by
  unfold stpP
  rw [if_pos rfl]
  exact (if_neg (Nat.not_le.mpr hs)).trans (if_pos h)
theorem pS_k3 {t : Nat → Nat} {L p : Nat} {Φ : Nat → FS} {s ks k : Nat} {a : Nat → Nat} (hs : s < L) (h : ¬ kdOf t L s = 0) (h2 : ks.testBit (kdOf t L s) = true) : stpP t L p Φ (0, s, ks, k, a) = (13, s, ks, k, a) := by
  unfold stpP
  rw [if_pos rfl]
  exact (if_neg (Nat.not_le.mpr hs)).trans ((if_neg h).trans (if_pos h2))
theorem pS_k {t : Nat → Nat} {L p : Nat} {Φ : Nat → FS} {s ks k : Nat} {a : Nat → Nat} (hs : s < L) (h : ¬ kdOf t L s = 0) (h2 : ks.testBit (kdOf t L s) = false) : stpP t L p Φ (0, s, ks, k, a) = (1, sk t L (wE t L s), ks ||| 2 ^ kdOf t L s, kdOf t L s, a) := by
  unfold stpP
  rw [if_pos rfl]
  exact (if_neg (Nat.not_le.mpr hs)).trans ((if_neg h).trans (if_neg (by rw [h2]; decide)))
theorem pS_end {t : Nat → Nat} {L p : Nat} {Φ : Nat → FS} {s ks k : Nat} {a : Nat → Nat} (hs : ¬ s < L) : stpP t L p Φ (0, s, ks, k, a) = (3, s, ks, k, a) := by
  unfold stpP
  rw [if_pos rfl]
  exact if_pos (Nat.le_of_not_lt hs)
theorem pS_cm {t : Nat → Nat} {L p : Nat} {Φ : Nat → FS} {s ks k : Nat} {a : Nat → Nat} (h : isS t L s 44 = true) : stpP t L p Φ (2, s, ks, k, a) = (1, sk t L (s + 1), ks, k, a) := by
  unfold stpP
  rw [if_neg (show ¬ (2 : Nat) = 0 by decide), if_neg (show ¬ (2 : Nat) = 1 by decide), if_pos rfl]
  exact if_pos h
theorem pS_sc {t : Nat → Nat} {L p : Nat} {Φ : Nat → FS} {s ks k : Nat} {a : Nat → Nat} (h0 : isS t L s 44 = false) (h : isS t L s 59 = true) : stpP t L p Φ (2, s, ks, k, a) = (0, sk t L (s + 1), ks, k, a) := by
  unfold stpP
  rw [if_neg (show ¬ (2 : Nat) = 0 by decide), if_neg (show ¬ (2 : Nat) = 1 by decide), if_pos rfl]
  exact (if_neg (by rw [h0]; decide)).trans (if_pos h)
theorem pS_no {t : Nat → Nat} {L p : Nat} {Φ : Nat → FS} {s ks k : Nat} {a : Nat → Nat} (h0 : isS t L s 44 = false) (h : ¬ isS t L s 59 = true) : stpP t L p Φ (2, s, ks, k, a) = (11, s, ks, k, a) := by
  unfold stpP
  rw [if_neg (show ¬ (2 : Nat) = 0 by decide), if_neg (show ¬ (2 : Nat) = 1 by decide), if_pos rfl]
  exact (if_neg (by rw [h0]; decide)).trans (if_neg h)
theorem seen_b {a : Nat → Nat} {v : Nat} (hv : v < 12) : (bS (fun f => decide (a f ≠ 0)) 12).testBit v = decide (a v ≠ 0) := by rw [bS_bit, decide_eq_true hv, Bool.true_and]
set_option maxHeartbeats 1000000 in
set_option maxRecDepth 100000 in
theorem c_X10_kindHere (hn : 148 ≤ n) (I : MI) (J : MJ) (t : Nat → Nat) (L : Nat) (hT : MTx I t L) (s_ : Nat) (hs : I 117 27 = nI s_) (hsL : s_ ≤ L) (hl : I 117 28 = nI (wE t L s_ - s_)) : Ci l n ad cA D z 1 yX10_kindHere cX10_kindHere 1 .int I J [.ref (ad 117)] (fun r I' J' => r = nI (kdOf t L s_) ∧ I' = I ∧ J' = J) := by
  refine Ci.of (by decide) (Nat.le_of_ble_eq_true rfl) ?_
  intro p e s m args below meth c A C hin Z Q hret
  refine r_aload_n C 0 (dk oX10_kindHere 0 rfl) rfl ?_
  refine r_iconst C (dk oX10_kindHere 1 rfl) (v := nI 3) (by decide) ?_
  refine r_bipush C (dk oX10_kindHere 2 rfl) (v := nI 115) (by decide) ?_
  refine r_bipush C (dk oX10_kindHere 3 rfl) (v := nI 97) (by decide) ?_
  refine r_bipush C (dk oX10_kindHere 4 rfl) (v := nI 121) (by decide) ?_
  refine r_iconst C (dk oX10_kindHere 5 rfl) (v := nI 0) (by decide) ?_
  refine r_iconst C (dk oX10_kindHere 6 rfl) (v := nI 0) (by decide) ?_
  refine r_ivi C Z (dk oX10_kindHere 7 rfl) cl_X10_165 ci_X10_isWord rfl (km hn rfl) (c_X10_isWord hn I J t L hT s_ hs hsL hl 3 115 97 121 0 0 (by decide) (by decide) (sWd 6) (by decide)) rfl rfl (Nat.le_of_ble_eq_true rfl) ⟨Nat.le_of_ble_eq_true rfl, Nat.le_of_ble_eq_true rfl⟩ ⟨Nat.zero_le _, Nat.zero_le _⟩ (fun r10 I10 J10 h10 => ?_)
  obtain ⟨h10, e1_, e2_⟩ := h10
  have e1_ := e1_.symm
  have e2_ := e2_.symm
  subst e1_
  subst e2_
  subst h10
  refine r_if_eq (tgt := 20) C (dk oX10_kindHere 8 rfl) (by decide) (fun hb13 => ?_) (fun hb13 => ?_)
  · rw [b32_0] at hb13
    have hn13 : ¬ isW t L s_ (sWd 6) = true := by rw [hb13]; decide
    refine r_aload_n C 0 (dk oX10_kindHere 11 rfl) rfl ?_
    refine r_iconst C (dk oX10_kindHere 12 rfl) (v := nI 5) (by decide) ?_
    refine r_bipush C (dk oX10_kindHere 13 rfl) (v := nI 97) (by decide) ?_
    refine r_bipush C (dk oX10_kindHere 14 rfl) (v := nI 100) (by decide) ?_
    refine r_bipush C (dk oX10_kindHere 15 rfl) (v := nI 109) (by decide) ?_
    refine r_bipush C (dk oX10_kindHere 16 rfl) (v := nI 105) (by decide) ?_
    refine r_bipush C (dk oX10_kindHere 17 rfl) (v := nI 116) (by decide) ?_
    refine r_ivi C Z (dk oX10_kindHere 18 rfl) cl_X10_165 ci_X10_isWord rfl (km hn rfl) (c_X10_isWord hn I J t L hT s_ hs hsL hl 5 97 100 109 105 116 (by decide) (by decide) (sWd 7) (by decide)) rfl rfl (Nat.le_of_ble_eq_true rfl) ⟨Nat.le_of_ble_eq_true rfl, Nat.le_of_ble_eq_true rfl⟩ ⟨Nat.zero_le _, Nat.zero_le _⟩ (fun r32 I32 J32 h32 => ?_)
    obtain ⟨h32, e1_, e2_⟩ := h32
    have e1_ := e1_.symm
    have e2_ := e2_.symm
    subst e1_
    subst e2_
    subst h32
    refine r_if_eq (tgt := 42) C (dk oX10_kindHere 19 rfl) (by decide) (fun hb35 => ?_) (fun hb35 => ?_)
    · rw [b32_0] at hb35
      have hn35 : ¬ isW t L s_ (sWd 7) = true := by rw [hb35]; decide
      refine r_aload_n C 0 (dk oX10_kindHere 22 rfl) rfl ?_
      refine r_iconst C (dk oX10_kindHere 23 rfl) (v := nI 4) (by decide) ?_
      refine r_bipush C (dk oX10_kindHere 24 rfl) (v := nI 100) (by decide) ?_
      refine r_bipush C (dk oX10_kindHere 25 rfl) (v := nI 101) (by decide) ?_
      refine r_bipush C (dk oX10_kindHere 26 rfl) (v := nI 110) (by decide) ?_
      refine r_bipush C (dk oX10_kindHere 27 rfl) (v := nI 121) (by decide) ?_
      refine r_iconst C (dk oX10_kindHere 28 rfl) (v := nI 0) (by decide) ?_
      refine r_ivi C Z (dk oX10_kindHere 29 rfl) cl_X10_165 ci_X10_isWord rfl (km hn rfl) (c_X10_isWord hn I J t L hT s_ hs hsL hl 4 100 101 110 121 0 (by decide) (by decide) (sWd 8) (by decide)) rfl rfl (Nat.le_of_ble_eq_true rfl) ⟨Nat.le_of_ble_eq_true rfl, Nat.le_of_ble_eq_true rfl⟩ ⟨Nat.zero_le _, Nat.zero_le _⟩ (fun r53 I53 J53 h53 => ?_)
      obtain ⟨h53, e1_, e2_⟩ := h53
      have e1_ := e1_.symm
      have e2_ := e2_.symm
      subst e1_
      subst e2_
      subst h53
      refine r_if_eq (tgt := 63) C (dk oX10_kindHere 30 rfl) (by decide) (fun hb56 => ?_) (fun hb56 => ?_)
      · rw [b32_0] at hb56
        have hn56 : ¬ isW t L s_ (sWd 8) = true := by rw [hb56]; decide
        refine r_aload_n C 0 (dk oX10_kindHere 33 rfl) rfl ?_
        refine r_iconst C (dk oX10_kindHere 34 rfl) (v := nI 5) (by decide) ?_
        refine r_bipush C (dk oX10_kindHere 35 rfl) (v := nI 100) (by decide) ?_
        refine r_bipush C (dk oX10_kindHere 36 rfl) (v := nI 111) (by decide) ?_
        refine r_bipush C (dk oX10_kindHere 37 rfl) (v := nI 117) (by decide) ?_
        refine r_bipush C (dk oX10_kindHere 38 rfl) (v := nI 98) (by decide) ?_
        refine r_bipush C (dk oX10_kindHere 39 rfl) (v := nI 116) (by decide) ?_
        refine r_ivi C Z (dk oX10_kindHere 40 rfl) cl_X10_165 ci_X10_isWord rfl (km hn rfl) (c_X10_isWord hn I J t L hT s_ hs hsL hl 5 100 111 117 98 116 (by decide) (by decide) (sWd 9) (by decide)) rfl rfl (Nat.le_of_ble_eq_true rfl) ⟨Nat.le_of_ble_eq_true rfl, Nat.le_of_ble_eq_true rfl⟩ ⟨Nat.zero_le _, Nat.zero_le _⟩ (fun r75 I75 J75 h75 => ?_)
        obtain ⟨h75, e1_, e2_⟩ := h75
        have e1_ := e1_.symm
        have e2_ := e2_.symm
        subst e1_
        subst e2_
        subst h75
        refine r_if_eq (tgt := 85) C (dk oX10_kindHere 41 rfl) (by decide) (fun hb78 => ?_) (fun hb78 => ?_)
        · rw [b32_0] at hb78
          have hn78 : ¬ isW t L s_ (sWd 9) = true := by rw [hb78]; decide
          refine r_aload_n C 0 (dk oX10_kindHere 44 rfl) rfl ?_
          refine r_iconst C (dk oX10_kindHere 45 rfl) (v := nI 4) (by decide) ?_
          refine r_bipush C (dk oX10_kindHere 46 rfl) (v := nI 116) (by decide) ?_
          refine r_bipush C (dk oX10_kindHere 47 rfl) (v := nI 97) (by decide) ?_
          refine r_bipush C (dk oX10_kindHere 48 rfl) (v := nI 107) (by decide) ?_
          refine r_bipush C (dk oX10_kindHere 49 rfl) (v := nI 101) (by decide) ?_
          refine r_iconst C (dk oX10_kindHere 50 rfl) (v := nI 0) (by decide) ?_
          refine r_ivi C Z (dk oX10_kindHere 51 rfl) cl_X10_165 ci_X10_isWord rfl (km hn rfl) (c_X10_isWord hn I J t L hT s_ hs hsL hl 4 116 97 107 101 0 (by decide) (by decide) (sWd 10) (by decide)) rfl rfl (Nat.le_of_ble_eq_true rfl) ⟨Nat.le_of_ble_eq_true rfl, Nat.le_of_ble_eq_true rfl⟩ ⟨Nat.zero_le _, Nat.zero_le _⟩ (fun r96 I96 J96 h96 => ?_)
          obtain ⟨h96, e1_, e2_⟩ := h96
          have e1_ := e1_.symm
          have e2_ := e2_.symm
          subst e1_
          subst e2_
          subst h96
          refine r_if_eq (tgt := 107) C (dk oX10_kindHere 52 rfl) (by decide) (fun hb99 => ?_) (fun hb99 => ?_)
          · rw [b32_0] at hb99
            have hn99 : ¬ isW t L s_ (sWd 10) = true := by rw [hb99]; decide
            refine r_iconst C (dk oX10_kindHere 55 rfl) (v := nI 0) (by decide) ?_
            refine hret (dk oX10_kindHere 56 rfl) rfl ?_
            refine ⟨?_, rfl, rfl⟩
            unfold kdOf
            first
              | exact congrArg nI (if_pos hb13).symm
              | exact congrArg nI ((if_neg hn13).trans (if_pos hb35)).symm
              | exact congrArg nI ((if_neg hn13).trans ((if_neg hn35).trans (if_pos hb56))).symm
              | exact congrArg nI ((if_neg hn13).trans ((if_neg hn35).trans ((if_neg hn56).trans (if_pos hb78)))).symm
              | exact congrArg nI ((if_neg hn13).trans ((if_neg hn35).trans ((if_neg hn56).trans ((if_neg hn78).trans (if_pos hb99))))).symm
              | exact congrArg nI ((if_neg hn13).trans ((if_neg hn35).trans ((if_neg hn56).trans ((if_neg hn78).trans (if_neg hn99))))).symm
          · rw [b32_n] at hb99
            refine r_bipush C (dk oX10_kindHere 53 rfl) (v := nI 6) (by decide) ?_
            refine r_goto (tgt := 108) C (dk oX10_kindHere 54 rfl) (by decide) ?_
            refine hret (dk oX10_kindHere 56 rfl) rfl ?_
            refine ⟨?_, rfl, rfl⟩
            unfold kdOf
            first
              | exact congrArg nI (if_pos hb13).symm
              | exact congrArg nI ((if_neg hn13).trans (if_pos hb35)).symm
              | exact congrArg nI ((if_neg hn13).trans ((if_neg hn35).trans (if_pos hb56))).symm
              | exact congrArg nI ((if_neg hn13).trans ((if_neg hn35).trans ((if_neg hn56).trans (if_pos hb78)))).symm
              | exact congrArg nI ((if_neg hn13).trans ((if_neg hn35).trans ((if_neg hn56).trans ((if_neg hn78).trans (if_pos hb99))))).symm
              | exact congrArg nI ((if_neg hn13).trans ((if_neg hn35).trans ((if_neg hn56).trans ((if_neg hn78).trans (if_neg hn99))))).symm
        · rw [b32_n] at hb78
          refine r_iconst C (dk oX10_kindHere 42 rfl) (v := nI 5) (by decide) ?_
          refine r_goto (tgt := 108) C (dk oX10_kindHere 43 rfl) (by decide) ?_
          refine hret (dk oX10_kindHere 56 rfl) rfl ?_
          refine ⟨?_, rfl, rfl⟩
          unfold kdOf
          first
            | exact congrArg nI (if_pos hb13).symm
            | exact congrArg nI ((if_neg hn13).trans (if_pos hb35)).symm
            | exact congrArg nI ((if_neg hn13).trans ((if_neg hn35).trans (if_pos hb56))).symm
            | exact congrArg nI ((if_neg hn13).trans ((if_neg hn35).trans ((if_neg hn56).trans (if_pos hb78)))).symm
            | exact congrArg nI ((if_neg hn13).trans ((if_neg hn35).trans ((if_neg hn56).trans ((if_neg hn78).trans (if_pos hb99))))).symm
            | exact congrArg nI ((if_neg hn13).trans ((if_neg hn35).trans ((if_neg hn56).trans ((if_neg hn78).trans (if_neg hn99))))).symm
      · rw [b32_n] at hb56
        refine r_iconst C (dk oX10_kindHere 31 rfl) (v := nI 4) (by decide) ?_
        refine r_goto (tgt := 108) C (dk oX10_kindHere 32 rfl) (by decide) ?_
        refine hret (dk oX10_kindHere 56 rfl) rfl ?_
        refine ⟨?_, rfl, rfl⟩
        unfold kdOf
        first
          | exact congrArg nI (if_pos hb13).symm
          | exact congrArg nI ((if_neg hn13).trans (if_pos hb35)).symm
          | exact congrArg nI ((if_neg hn13).trans ((if_neg hn35).trans (if_pos hb56))).symm
          | exact congrArg nI ((if_neg hn13).trans ((if_neg hn35).trans ((if_neg hn56).trans (if_pos hb78)))).symm
          | exact congrArg nI ((if_neg hn13).trans ((if_neg hn35).trans ((if_neg hn56).trans ((if_neg hn78).trans (if_pos hb99))))).symm
          | exact congrArg nI ((if_neg hn13).trans ((if_neg hn35).trans ((if_neg hn56).trans ((if_neg hn78).trans (if_neg hn99))))).symm
    · rw [b32_n] at hb35
      refine r_iconst C (dk oX10_kindHere 20 rfl) (v := nI 3) (by decide) ?_
      refine r_goto (tgt := 108) C (dk oX10_kindHere 21 rfl) (by decide) ?_
      refine hret (dk oX10_kindHere 56 rfl) rfl ?_
      refine ⟨?_, rfl, rfl⟩
      unfold kdOf
      first
        | exact congrArg nI (if_pos hb13).symm
        | exact congrArg nI ((if_neg hn13).trans (if_pos hb35)).symm
        | exact congrArg nI ((if_neg hn13).trans ((if_neg hn35).trans (if_pos hb56))).symm
        | exact congrArg nI ((if_neg hn13).trans ((if_neg hn35).trans ((if_neg hn56).trans (if_pos hb78)))).symm
        | exact congrArg nI ((if_neg hn13).trans ((if_neg hn35).trans ((if_neg hn56).trans ((if_neg hn78).trans (if_pos hb99))))).symm
        | exact congrArg nI ((if_neg hn13).trans ((if_neg hn35).trans ((if_neg hn56).trans ((if_neg hn78).trans (if_neg hn99))))).symm
  · rw [b32_n] at hb13
    refine r_iconst C (dk oX10_kindHere 9 rfl) (v := nI 1) (by decide) ?_
    refine r_goto (tgt := 108) C (dk oX10_kindHere 10 rfl) (by decide) ?_
    refine hret (dk oX10_kindHere 56 rfl) rfl ?_
    refine ⟨?_, rfl, rfl⟩
    unfold kdOf
    first
      | exact congrArg nI (if_pos hb13).symm
      | exact congrArg nI ((if_neg hn13).trans (if_pos hb35)).symm
      | exact congrArg nI ((if_neg hn13).trans ((if_neg hn35).trans (if_pos hb56))).symm
      | exact congrArg nI ((if_neg hn13).trans ((if_neg hn35).trans ((if_neg hn56).trans (if_pos hb78)))).symm
      | exact congrArg nI ((if_neg hn13).trans ((if_neg hn35).trans ((if_neg hn56).trans ((if_neg hn78).trans (if_pos hb99))))).symm
      | exact congrArg nI ((if_neg hn13).trans ((if_neg hn35).trans ((if_neg hn56).trans ((if_neg hn78).trans (if_neg hn99))))).symm

set_option maxHeartbeats 1000000 in
set_option maxRecDepth 100000 in
theorem c_X10_takeItem (hn : 148 ≤ n) (I : MI) (J : MJ) (t : Nat → Nat) (L p_ a_ ks k_ : Nat) (ac : Nat → Nat) (hp : p_ < 10) (hk : 0 < k_ ∧ k_ ≤ 6) (Φ : Nat → FS) (hM : FcM I 134 Φ) (hok : fsA Φ) (hPS : mPS I t L p_ a_ ks ac) : Cv l n ad cA D z 3 yX10_takeItem cX10_takeItem 5 I J [.ref (ad 117), .int (nI k_), .int (nI p_)] (fun I' J' => J' = J ∧ mPX p_ I I' ∧ (mPB t L p_ Φ (1, sk t L a_, ks, k_, ac) I' ∨ ∃ a2 ac2, mPS I' t L p_ a2 ks ac2 ∧ rchP (stpP t L p_ Φ) (1, sk t L a_, ks, k_, ac) (2, sk t L a2, ks, k_, ac2) ∧ sk t L a_ < sk t L a2)) := by
  refine Cv.of (by decide) (Nat.le_of_ble_eq_true rfl) ?_
  intro p e s m args below meth c A C hin Z Q hret
  obtain ⟨hT, h26, haL, h29, h30, h36, hks, h37, hac, hac6⟩ := hPS
  have hsL : sk t L a_ ≤ L := sk_le haL
  have hL := hT.1
  refine r_iload_n C 1 (dk oX10_takeItem 0 rfl) rfl ?_
  refine r_iconst C (dk oX10_takeItem 1 rfl) (v := nI 1) (by decide) ?_
  refine r_icmp_ne (tgt := 23) C (dk oX10_takeItem 2 rfl) (by decide) (fun hb2 => ?_) (fun hb2 => ?_)
  · simp (disch := omega) only [nI_leI, nI_ltI, nI_eq, nI_eq0] at hb2
    refine r_iload_n C 1 (dk oX10_takeItem 12 rfl) rfl ?_
    obtain ⟨Ib, ab, hIb, hfb, h26b, habL, hsab, hst⟩ : ∃ Ib ab, Ib = I ∧ tkF I Ib ∧ Ib 117 26 = nI ab ∧ ab ≤ L ∧ sk t L ab = (itP t L (sk t L a_) k_) ∧ nI (itA t L (sk t L a_) k_) = nI k_ := ⟨I, a_, rfl, tkF.rf I, h26, haL, by unfold itP; rw [if_neg (fun q => hb2 q.1)], by unfold itA; rw [if_neg (fun q => hb2 q.1)]⟩
    rw [← hIb]
    clear hIb
    refine r_topI hst.symm ?_
    refine r_istore_n (lo' := [(3, _), (0, _), (1, _), (2, _)]) C (dk oX10_takeItem 13 rfl) rfl (by decide) rfl ?_
    refine r_aload_n C 1 (dk oX10_takeItem 14 rfl) rfl ?_
    refine r_iconst C (dk oX10_takeItem 15 rfl) (v := nI 0) (by decide) ?_
    refine r_bipush C (dk oX10_takeItem 16 rfl) (v := nI 11) (by decide) ?_
    refine r_ivi C Z (dk oX10_takeItem 17 rfl) cl_X10_204 ci_X10_takeNumber rfl (km hn rfl) (c_X10_takeNumber hn Ib J t L (hT.tk hfb) ab h26b habL ((hfb.2 29 (by decide) (by decide) (by decide)).trans h29) 0 11 (by decide) (by decide)) rfl rfl (Nat.le_of_ble_eq_true rfl) ⟨Nat.le_of_ble_eq_true rfl, Nat.le_of_ble_eq_true rfl⟩ ⟨Nat.zero_le _, Nat.zero_le _⟩ (fun r29 I29 J29 h29 => ?_)
    obtain ⟨hn1, hn2, hn3, hn4, hn5, hnf, e2_⟩ := h29
    rw [hsab] at hn1 hn2 hn3 hn4
    have e2_ := e2_.symm
    subst e2_
    refine r_istore (lo' := [(4, _), (3, _), (0, _), (1, _), (2, _)]) C (dk oX10_takeItem 18 rfl) (by decide) rfl ?_
    refine r_aload_n C 2 (dk oX10_takeItem 19 rfl) rfl ?_
    refine r_getI C (dk oX10_takeItem 20 rfl) fl_X10_145 rfl (km hn rfl) ?_
    rw [hn1]
    refine r_if_ne (tgt := 118) C (dk oX10_takeItem 21 rfl) (by decide) (fun hb38 => ?_) (fun hb38 => ?_)
    · have hz38 : ¬ (nmF t L (itP t L (sk t L a_) k_) 0 11) = 0 := by
        have := @nmF_lt t L (itP t L (sk t L a_) k_) 0 11
        rw [nI_eq0 (by omega)] at hb38
        exact hb38
      refine hret (dk oX10_takeItem 66 rfl) ?_
      first
        | exact ⟨rfl, hfb.P.tr hnf.P, Or.inl ⟨(nmF t L (itP t L (sk t L a_) k_) 0 11), _, ks, k_, ac, Nat.pos_of_ne_zero hz38, by have := @nmF_lt t L (itP t L (sk t L a_) k_) 0 11; omega, hn1, by rw [hn2, if_neg hz38], rchP.one (pS_num hz38)⟩⟩
        | exact ⟨rfl, (hXn.up 29 _ (by decide)).up 30 _ (by decide), Or.inl ⟨4, _, ks, k_, ac, by decide, by decide, by rw [up2_off (by decide), up2_at], up2_at, rchP.one (pS_4 hz38 hb67)⟩⟩
        | exact ⟨rfl, (hXn.up 29 _ (by decide)).up 30 _ (by decide), Or.inl ⟨5, _, ks, k_, ac, by decide, by decide, by rw [up2_off (by decide), up2_at], up2_at, rchP.one (pS_5 hz38 hb67 (nbf hb89))⟩⟩
        | (refine ⟨rfl, (hXn.up 37 _ (by decide)).ua hv12, Or.inr ⟨nE t L (itP t L (sk t L a_) k_), (fun f => if f = (nmV t L (itP t L (sk t L a_) k_)) then (itA t L (sk t L a_) k_) else ac f), ⟨?_, ?_, nE_le (by rw [← hsab]; exact sk_le habL), ?_, ?_, ?_, hks, ?_, fun f hf => ?_, fun f => ?_⟩, rchP.one (pS_ok hz38 hb67 hb89), ?_⟩⟩
           · exact hT.of (by rw [up2_ne (by decide), up2_off (by decide)]; exact hXn.2.1 25 (by decide) (by decide) (by decide) (by decide) (by decide) (by decide) (by decide)) (by rw [up2_ne (by decide), up2_ne (by decide)]; exact hXn.1 141 (by decide) (by decide))
           · rw [up2_ne (by decide), up2_off (by decide)]; exact h26v
           · rw [up2_ne (by decide), up2_off (by decide), hn1, hz38]
           · rw [up2_ne (by decide), up2_off (by decide), hn2, if_pos hz38]; exact (hfb.2 30 (by decide) (by decide) (by decide)).trans h30
           · rw [up2_ne (by decide), up2_off (by decide)]; exact (hnf.2 36 (by decide) (by decide) (by decide) (by decide)).trans ((hfb.2 36 (by decide) (by decide) (by decide)).trans h36)
           · rw [up2_ne (by decide), up2_at, bS_set 12 hv12]
             refine congrArg nI (bS_cong 12 (fun f hf => ?_))
             show (if f = (nmV t L (itP t L (sk t L a_) k_)) then true else decide (ac f ≠ 0)) = decide ((if f = (nmV t L (itP t L (sk t L a_) k_)) then (itA t L (sk t L a_) k_) else ac f) ≠ 0)
             by_cases e : f = (nmV t L (itP t L (sk t L a_) k_))
             · rw [if_pos e, if_pos e, decide_eq_true (Nat.ne_of_gt (itA_pos hk.1))]
             · rw [if_neg e, if_neg e]
           · show _ = nI (if f = (nmV t L (itP t L (sk t L a_) k_)) then (itA t L (sk t L a_) k_) else ac f)
             by_cases e : f = (nmV t L (itP t L (sk t L a_) k_))
             · rw [if_pos e, e, up2_at]
             · rw [if_neg e, up2_off (by omega), up2_ne (by decide), (hnf.1 125 (by decide)), (hfb.1 125 (by decide))]
               exact hac f hf
           · show (if f = (nmV t L (itP t L (sk t L a_) k_)) then (itA t L (sk t L a_) k_) else ac f) ≤ 6
             split
             · exact itA_le hk.2
             · exact hac6 f
           · have h1 := @sk_ge t L (nE t L (itP t L (sk t L a_) k_))
             have h2 : sk t L a_ ≤ (itP t L (sk t L a_) k_) := by
               unfold itP
               split
               · have := @sk_ge t L (sk t L a_ + 3); omega
               · exact Nat.le_refl _
             omega)
    · have hz38 : (nmF t L (itP t L (sk t L a_) k_) 0 11) = 0 := by
        have := @nmF_lt t L (itP t L (sk t L a_) k_) 0 11
        rw [nI_eq0 (by omega)] at hb38
        exact hb38
      obtain ⟨hrv, h26v⟩ := hn4 hz38
      have hrv := hrv.symm
      subst hrv
      obtain ⟨hfg1, hfg2, hfg3, hfg4, _⟩ := nmF_fig hz38
      have hv12 : (nmV t L (itP t L (sk t L a_) k_)) < 12 := by omega
      have hac6v := hac6 (nmV t L (itP t L (sk t L a_) k_))
      have hbs := @bS_lt (fun f => decide (ac f ≠ 0)) 12
      have hXn : mPX p_ I I29 := (hfb.P).tr hnf.P
      have h37n : I29 117 37 = nI (bS (fun f => decide (ac f ≠ 0)) 12) := (hnf.2 37 (by decide) (by decide) (by decide) (by decide)).trans ((hfb.2 37 (by decide) (by decide) (by decide)).trans h37)
      refine r_aload_n C 2 (dk oX10_takeItem 22 rfl) rfl ?_
      refine r_aload_n C 2 (dk oX10_takeItem 23 rfl) rfl ?_
      refine r_getI C (dk oX10_takeItem 24 rfl) fl_X10_228 rfl (km hn rfl) ?_
      rw [h37n]
      refine r_iload C 0 (dk oX10_takeItem 25 rfl) rfl ?_
      refine r_isi C Z (dk oX10_takeItem 26 rfl) cl_X10_231 st_X10_has (c_X10_has I29 J (bS (fun f => decide (ac f ≠ 0)) 12) ((nmV t L (itP t L (sk t L a_) k_))) (by omega) (by omega)) rfl rfl (Nat.le_of_ble_eq_true rfl) ⟨Nat.le_of_ble_eq_true rfl, Nat.le_of_ble_eq_true rfl⟩ ⟨Nat.zero_le _, Nat.zero_le _⟩ (fun r48 I48 J48 h48 => ?_)
      obtain ⟨h48, e1_, e2_⟩ := h48
      have e1_ := e1_.symm
      have e2_ := e2_.symm
      subst e1_
      subst e2_
      subst h48
      refine r_if_ne (tgt := 58) C (dk oX10_takeItem 27 rfl) (by decide) (fun hb51 => ?_) (fun hb51 => ?_)
      · rw [b32_n, seen_b hv12, decide_eq_true_eq] at hb51
        refine r_iconst C (dk oX10_takeItem 30 rfl) (v := nI 0) (by decide) ?_
        refine r_topI (show nI 0 = b32 (decide (ac (nmV t L (itP t L (sk t L a_) k_)) = 0)) from b32_df hb51) ?_
        refine r_iconst C (dk oX10_takeItem 31 rfl) (v := nI 4) (by decide) ?_
        refine r_aload_n C 2 (dk oX10_takeItem 32 rfl) rfl ?_
        refine r_getI C (dk oX10_takeItem 33 rfl) fl_X10_152 rfl (km hn rfl) ?_
        rw [hn3]
        refine r_ivi C Z (dk oX10_takeItem 34 rfl) cl_X10_173 ci_X10_want rfl (km hn rfl) (c_X10_want hn I29 J (decide (ac (nmV t L (itP t L (sk t L a_) k_)) = 0)) (nI 4) (nI (itP t L (sk t L a_) k_)) (nI 0) (hn1.trans (by rw [hz38]))) rfl rfl (Nat.le_of_ble_eq_true rfl) ⟨Nat.le_of_ble_eq_true rfl, Nat.le_of_ble_eq_true rfl⟩ ⟨Nat.zero_le _, Nat.zero_le _⟩ (fun r64 I64 J64 h64 => ?_)
        obtain ⟨e1_, hW64, e2_⟩ := h64
        have e1_ := e1_.symm
        have e2_ := e2_.symm
        subst e1_
        subst e2_
        refine r_if_eq (tgt := 118) C (dk oX10_takeItem 35 rfl) (by decide) (fun hb67 => ?_) (fun hb67 => ?_)
        · rw [b32_0, decide_eq_false_iff_not] at hb67
          have hb67 := want_0 hb67
          have hI64 := want_t hW64 hb67
          subst hI64
          refine hret (dk oX10_takeItem 66 rfl) ?_
          first
            | exact ⟨rfl, hfb.P.tr hnf.P, Or.inl ⟨(nmF t L (itP t L (sk t L a_) k_) 0 11), _, ks, k_, ac, Nat.pos_of_ne_zero hz38, by have := @nmF_lt t L (itP t L (sk t L a_) k_) 0 11; omega, hn1, by rw [hn2, if_neg hz38], rchP.one (pS_num hz38)⟩⟩
            | exact ⟨rfl, (hXn.up 29 _ (by decide)).up 30 _ (by decide), Or.inl ⟨4, _, ks, k_, ac, by decide, by decide, by rw [up2_off (by decide), up2_at], up2_at, rchP.one (pS_4 hz38 hb67)⟩⟩
            | exact ⟨rfl, (hXn.up 29 _ (by decide)).up 30 _ (by decide), Or.inl ⟨5, _, ks, k_, ac, by decide, by decide, by rw [up2_off (by decide), up2_at], up2_at, rchP.one (pS_5 hz38 hb67 (nbf hb89))⟩⟩
            | (refine ⟨rfl, (hXn.up 37 _ (by decide)).ua hv12, Or.inr ⟨nE t L (itP t L (sk t L a_) k_), (fun f => if f = (nmV t L (itP t L (sk t L a_) k_)) then (itA t L (sk t L a_) k_) else ac f), ⟨?_, ?_, nE_le (by rw [← hsab]; exact sk_le habL), ?_, ?_, ?_, hks, ?_, fun f hf => ?_, fun f => ?_⟩, rchP.one (pS_ok hz38 hb67 hb89), ?_⟩⟩
               · exact hT.of (by rw [up2_ne (by decide), up2_off (by decide)]; exact hXn.2.1 25 (by decide) (by decide) (by decide) (by decide) (by decide) (by decide) (by decide)) (by rw [up2_ne (by decide), up2_ne (by decide)]; exact hXn.1 141 (by decide) (by decide))
               · rw [up2_ne (by decide), up2_off (by decide)]; exact h26v
               · rw [up2_ne (by decide), up2_off (by decide), hn1, hz38]
               · rw [up2_ne (by decide), up2_off (by decide), hn2, if_pos hz38]; exact (hfb.2 30 (by decide) (by decide) (by decide)).trans h30
               · rw [up2_ne (by decide), up2_off (by decide)]; exact (hnf.2 36 (by decide) (by decide) (by decide) (by decide)).trans ((hfb.2 36 (by decide) (by decide) (by decide)).trans h36)
               · rw [up2_ne (by decide), up2_at, bS_set 12 hv12]
                 refine congrArg nI (bS_cong 12 (fun f hf => ?_))
                 show (if f = (nmV t L (itP t L (sk t L a_) k_)) then true else decide (ac f ≠ 0)) = decide ((if f = (nmV t L (itP t L (sk t L a_) k_)) then (itA t L (sk t L a_) k_) else ac f) ≠ 0)
                 by_cases e : f = (nmV t L (itP t L (sk t L a_) k_))
                 · rw [if_pos e, if_pos e, decide_eq_true (Nat.ne_of_gt (itA_pos hk.1))]
                 · rw [if_neg e, if_neg e]
               · show _ = nI (if f = (nmV t L (itP t L (sk t L a_) k_)) then (itA t L (sk t L a_) k_) else ac f)
                 by_cases e : f = (nmV t L (itP t L (sk t L a_) k_))
                 · rw [if_pos e, e, up2_at]
                 · rw [if_neg e, up2_off (by omega), up2_ne (by decide), (hnf.1 125 (by decide)), (hfb.1 125 (by decide))]
                   exact hac f hf
               · show (if f = (nmV t L (itP t L (sk t L a_) k_)) then (itA t L (sk t L a_) k_) else ac f) ≤ 6
                 split
                 · exact itA_le hk.2
                 · exact hac6 f
               · have h1 := @sk_ge t L (nE t L (itP t L (sk t L a_) k_))
                 have h2 : sk t L a_ ≤ (itP t L (sk t L a_) k_) := by
                   unfold itP
                   split
                   · have := @sk_ge t L (sk t L a_ + 3); omega
                   · exact Nat.le_refl _
                 omega)
        · rw [b32_n, decide_eq_true_eq] at hb67
          have hb67 := want_1 (by decide) hb67
          have hI64 := want_f hW64 hb67
          subst hI64
          refine r_aload_n C 2 (dk oX10_takeItem 36 rfl) rfl ?_
          refine r_aload_n C 2 (dk oX10_takeItem 37 rfl) rfl ?_
          refine r_iload_n C 1 (dk oX10_takeItem 38 rfl) rfl ?_
          refine r_iload C 0 (dk oX10_takeItem 39 rfl) rfl ?_
          refine r_iload_n C 4 (dk oX10_takeItem 40 rfl) rfl ?_
          refine r_iconst C (dk oX10_takeItem 41 rfl) (v := nI 2) (by decide) ?_
          refine r_irem C (dk oX10_takeItem 42 rfl) (by decide) ?_
          rw [mod2 (by omega)]
          refine r_ivi C Z (dk oX10_takeItem 43 rfl) cl_X10_117 ci_X10_mayBe rfl (km hn rfl) (c_X10_mayBe hn I64 J (nmV t L (itP t L (sk t L a_) k_)) (itA t L (sk t L a_) k_) p_ hv12 ⟨itA_pos hk.1, itA_le hk.2⟩ (by
    have hMn := hM.P hXn
    have h := hok (nmV t L (itP t L (sk t L a_) k_)) hv12
    unfold fsOK at h ⊢
    rw [show (fun i => I64 (134 + 1 + i) (nmV t L (itP t L (sk t L a_) k_))) 0 = Φ (nmV t L (itP t L (sk t L a_) k_)) 0 from hMn _ hv12 0 (by decide), show (fun i => I64 (134 + 1 + i) (nmV t L (itP t L (sk t L a_) k_))) 1 = Φ (nmV t L (itP t L (sk t L a_) k_)) 1 from hMn _ hv12 1 (by decide), show (fun i => I64 (134 + 1 + i) (nmV t L (itP t L (sk t L a_) k_))) 2 = Φ (nmV t L (itP t L (sk t L a_) k_)) 2 from hMn _ hv12 2 (by decide)]
    exact h)) rfl rfl (Nat.le_of_ble_eq_true rfl) ⟨Nat.le_of_ble_eq_true rfl, Nat.le_of_ble_eq_true rfl⟩ ⟨Nat.zero_le _, Nat.zero_le _⟩ (fun r78 I78 J78 h78 => ?_)
          obtain ⟨h78, e1_, e2_⟩ := h78
          have e1_ := e1_.symm
          have e2_ := e2_.symm
          subst e1_
          subst e2_
          subst h78
          have hMn := hM.P hXn
          rw [alw_cong (φ := fun i => I64 (134 + 1 + i) (nmV t L (itP t L (sk t L a_) k_))) (ψ := Φ (nmV t L (itP t L (sk t L a_) k_))) (hMn _ hv12 0 (by decide)) (hMn _ hv12 2 (by decide))]
          refine r_topI (show b32 (alw (itA t L (sk t L a_) k_) p_ (Φ (nmV t L (itP t L (sk t L a_) k_)))) = b32 (decide (alw (itA t L (sk t L a_) k_) p_ (Φ (nmV t L (itP t L (sk t L a_) k_))) = true)) from by cases alw (itA t L (sk t L a_) k_) p_ (Φ (nmV t L (itP t L (sk t L a_) k_))) <;> rfl) ?_
          refine r_iconst C (dk oX10_takeItem 44 rfl) (v := nI 5) (by decide) ?_
          refine r_aload_n C 2 (dk oX10_takeItem 45 rfl) rfl ?_
          refine r_getI C (dk oX10_takeItem 46 rfl) fl_X10_152 rfl (km hn rfl) ?_
          rw [hn3]
          refine r_ivi C Z (dk oX10_takeItem 47 rfl) cl_X10_173 ci_X10_want rfl (km hn rfl) (c_X10_want hn I64 J (decide (alw (itA t L (sk t L a_) k_) p_ (Φ (nmV t L (itP t L (sk t L a_) k_))) = true)) (nI 5) (nI (itP t L (sk t L a_) k_)) (nI 0) (hn1.trans (by rw [hz38]))) rfl rfl (Nat.le_of_ble_eq_true rfl) ⟨Nat.le_of_ble_eq_true rfl, Nat.le_of_ble_eq_true rfl⟩ ⟨Nat.zero_le _, Nat.zero_le _⟩ (fun r86 I86 J86 h86 => ?_)
          obtain ⟨e1_, hW86, e2_⟩ := h86
          have e1_ := e1_.symm
          have e2_ := e2_.symm
          subst e1_
          subst e2_
          refine r_if_eq (tgt := 118) C (dk oX10_takeItem 48 rfl) (by decide) (fun hb89 => ?_) (fun hb89 => ?_)
          · rw [b32_0, decide_eq_false_iff_not] at hb89
            have hb89 := want_0 hb89
            have hI86 := want_t hW86 hb89
            subst hI86
            refine hret (dk oX10_takeItem 66 rfl) ?_
            first
              | exact ⟨rfl, hfb.P.tr hnf.P, Or.inl ⟨(nmF t L (itP t L (sk t L a_) k_) 0 11), _, ks, k_, ac, Nat.pos_of_ne_zero hz38, by have := @nmF_lt t L (itP t L (sk t L a_) k_) 0 11; omega, hn1, by rw [hn2, if_neg hz38], rchP.one (pS_num hz38)⟩⟩
              | exact ⟨rfl, (hXn.up 29 _ (by decide)).up 30 _ (by decide), Or.inl ⟨4, _, ks, k_, ac, by decide, by decide, by rw [up2_off (by decide), up2_at], up2_at, rchP.one (pS_4 hz38 hb67)⟩⟩
              | exact ⟨rfl, (hXn.up 29 _ (by decide)).up 30 _ (by decide), Or.inl ⟨5, _, ks, k_, ac, by decide, by decide, by rw [up2_off (by decide), up2_at], up2_at, rchP.one (pS_5 hz38 hb67 (nbf hb89))⟩⟩
              | (refine ⟨rfl, (hXn.up 37 _ (by decide)).ua hv12, Or.inr ⟨nE t L (itP t L (sk t L a_) k_), (fun f => if f = (nmV t L (itP t L (sk t L a_) k_)) then (itA t L (sk t L a_) k_) else ac f), ⟨?_, ?_, nE_le (by rw [← hsab]; exact sk_le habL), ?_, ?_, ?_, hks, ?_, fun f hf => ?_, fun f => ?_⟩, rchP.one (pS_ok hz38 hb67 hb89), ?_⟩⟩
                 · exact hT.of (by rw [up2_ne (by decide), up2_off (by decide)]; exact hXn.2.1 25 (by decide) (by decide) (by decide) (by decide) (by decide) (by decide) (by decide)) (by rw [up2_ne (by decide), up2_ne (by decide)]; exact hXn.1 141 (by decide) (by decide))
                 · rw [up2_ne (by decide), up2_off (by decide)]; exact h26v
                 · rw [up2_ne (by decide), up2_off (by decide), hn1, hz38]
                 · rw [up2_ne (by decide), up2_off (by decide), hn2, if_pos hz38]; exact (hfb.2 30 (by decide) (by decide) (by decide)).trans h30
                 · rw [up2_ne (by decide), up2_off (by decide)]; exact (hnf.2 36 (by decide) (by decide) (by decide) (by decide)).trans ((hfb.2 36 (by decide) (by decide) (by decide)).trans h36)
                 · rw [up2_ne (by decide), up2_at, bS_set 12 hv12]
                   refine congrArg nI (bS_cong 12 (fun f hf => ?_))
                   show (if f = (nmV t L (itP t L (sk t L a_) k_)) then true else decide (ac f ≠ 0)) = decide ((if f = (nmV t L (itP t L (sk t L a_) k_)) then (itA t L (sk t L a_) k_) else ac f) ≠ 0)
                   by_cases e : f = (nmV t L (itP t L (sk t L a_) k_))
                   · rw [if_pos e, if_pos e, decide_eq_true (Nat.ne_of_gt (itA_pos hk.1))]
                   · rw [if_neg e, if_neg e]
                 · show _ = nI (if f = (nmV t L (itP t L (sk t L a_) k_)) then (itA t L (sk t L a_) k_) else ac f)
                   by_cases e : f = (nmV t L (itP t L (sk t L a_) k_))
                   · rw [if_pos e, e, up2_at]
                   · rw [if_neg e, up2_off (by omega), up2_ne (by decide), (hnf.1 125 (by decide)), (hfb.1 125 (by decide))]
                     exact hac f hf
                 · show (if f = (nmV t L (itP t L (sk t L a_) k_)) then (itA t L (sk t L a_) k_) else ac f) ≤ 6
                   split
                   · exact itA_le hk.2
                   · exact hac6 f
                 · have h1 := @sk_ge t L (nE t L (itP t L (sk t L a_) k_))
                   have h2 : sk t L a_ ≤ (itP t L (sk t L a_) k_) := by
                     unfold itP
                     split
                     · have := @sk_ge t L (sk t L a_ + 3); omega
                     · exact Nat.le_refl _
                   omega)
          · rw [b32_n, decide_eq_true_eq] at hb89
            have hb89 := want_1 (by decide) hb89
            have hI86 := want_f hW86 hb89
            subst hI86
            refine r_aload_n C 2 (dk oX10_takeItem 49 rfl) rfl ?_
            refine r_dup C (dk oX10_takeItem 50 rfl) rfl ?_
            refine r_getI C (dk oX10_takeItem 51 rfl) fl_X10_228 rfl (km hn rfl) ?_
            rw [h37n]
            refine r_iconst C (dk oX10_takeItem 52 rfl) (v := nI 1) (by decide) ?_
            refine r_iload C 0 (dk oX10_takeItem 53 rfl) rfl ?_
            refine r_ishl C (dk oX10_takeItem 54 rfl) ?_
            refine r_ior C (dk oX10_takeItem 55 rfl) ?_
            rw [or_bit (by omega)]
            refine r_putI C (dk oX10_takeItem 56 rfl) fl_X10_228 ft_10_37 rfl (km hn rfl) ?_
            refine r_aload_n C 2 (dk oX10_takeItem 57 rfl) rfl ?_
            refine r_getR C (dk oX10_takeItem 58 rfl) fl_X10_32 rfl (km hn rfl) ?_
            refine r_bipush C (dk oX10_takeItem 59 rfl) (v := nI 12) (by decide) ?_
            refine r_iload_n C 4 (dk oX10_takeItem 60 rfl) rfl ?_
            refine r_imul C (dk oX10_takeItem 61 rfl) ?_
            rw [pk_mul]
            refine r_iload C 0 (dk oX10_takeItem 62 rfl) rfl ?_
            refine r_iadd C (dk oX10_takeItem 63 rfl) ?_
            rw [nI_add]
            refine r_iload_n C 1 (dk oX10_takeItem 64 rfl) rfl ?_
            refine r_iast C _ (dk oX10_takeItem 65 rfl) rfl (km hn rfl) rfl (by omega) (by decide) ?_
            refine hret (dk oX10_takeItem 66 rfl) ?_
            first
              | exact ⟨rfl, hfb.P.tr hnf.P, Or.inl ⟨(nmF t L (itP t L (sk t L a_) k_) 0 11), _, ks, k_, ac, Nat.pos_of_ne_zero hz38, by have := @nmF_lt t L (itP t L (sk t L a_) k_) 0 11; omega, hn1, by rw [hn2, if_neg hz38], rchP.one (pS_num hz38)⟩⟩
              | exact ⟨rfl, (hXn.up 29 _ (by decide)).up 30 _ (by decide), Or.inl ⟨4, _, ks, k_, ac, by decide, by decide, by rw [up2_off (by decide), up2_at], up2_at, rchP.one (pS_4 hz38 hb67)⟩⟩
              | exact ⟨rfl, (hXn.up 29 _ (by decide)).up 30 _ (by decide), Or.inl ⟨5, _, ks, k_, ac, by decide, by decide, by rw [up2_off (by decide), up2_at], up2_at, rchP.one (pS_5 hz38 hb67 (nbf hb89))⟩⟩
              | (refine ⟨rfl, (hXn.up 37 _ (by decide)).ua hv12, Or.inr ⟨nE t L (itP t L (sk t L a_) k_), (fun f => if f = (nmV t L (itP t L (sk t L a_) k_)) then (itA t L (sk t L a_) k_) else ac f), ⟨?_, ?_, nE_le (by rw [← hsab]; exact sk_le habL), ?_, ?_, ?_, hks, ?_, fun f hf => ?_, fun f => ?_⟩, rchP.one (pS_ok hz38 hb67 hb89), ?_⟩⟩
                 · exact hT.of (by rw [up2_ne (by decide), up2_off (by decide)]; exact hXn.2.1 25 (by decide) (by decide) (by decide) (by decide) (by decide) (by decide) (by decide)) (by rw [up2_ne (by decide), up2_ne (by decide)]; exact hXn.1 141 (by decide) (by decide))
                 · rw [up2_ne (by decide), up2_off (by decide)]; exact h26v
                 · rw [up2_ne (by decide), up2_off (by decide), hn1, hz38]
                 · rw [up2_ne (by decide), up2_off (by decide), hn2, if_pos hz38]; exact (hfb.2 30 (by decide) (by decide) (by decide)).trans h30
                 · rw [up2_ne (by decide), up2_off (by decide)]; exact (hnf.2 36 (by decide) (by decide) (by decide) (by decide)).trans ((hfb.2 36 (by decide) (by decide) (by decide)).trans h36)
                 · rw [up2_ne (by decide), up2_at, bS_set 12 hv12]
                   refine congrArg nI (bS_cong 12 (fun f hf => ?_))
                   show (if f = (nmV t L (itP t L (sk t L a_) k_)) then true else decide (ac f ≠ 0)) = decide ((if f = (nmV t L (itP t L (sk t L a_) k_)) then (itA t L (sk t L a_) k_) else ac f) ≠ 0)
                   by_cases e : f = (nmV t L (itP t L (sk t L a_) k_))
                   · rw [if_pos e, if_pos e, decide_eq_true (Nat.ne_of_gt (itA_pos hk.1))]
                   · rw [if_neg e, if_neg e]
                 · show _ = nI (if f = (nmV t L (itP t L (sk t L a_) k_)) then (itA t L (sk t L a_) k_) else ac f)
                   by_cases e : f = (nmV t L (itP t L (sk t L a_) k_))
                   · rw [if_pos e, e, up2_at]
                   · rw [if_neg e, up2_off (by omega), up2_ne (by decide), (hnf.1 125 (by decide)), (hfb.1 125 (by decide))]
                     exact hac f hf
                 · show (if f = (nmV t L (itP t L (sk t L a_) k_)) then (itA t L (sk t L a_) k_) else ac f) ≤ 6
                   split
                   · exact itA_le hk.2
                   · exact hac6 f
                 · have h1 := @sk_ge t L (nE t L (itP t L (sk t L a_) k_))
                   have h2 : sk t L a_ ≤ (itP t L (sk t L a_) k_) := by
                     unfold itP
                     split
                     · have := @sk_ge t L (sk t L a_ + 3); omega
                     · exact Nat.le_refl _
                   omega)
      · rw [b32_0, seen_b hv12, decide_eq_false_iff_not] at hb51
        refine r_iconst C (dk oX10_takeItem 28 rfl) (v := nI 1) (by decide) ?_
        refine r_topI (show nI 1 = b32 (decide (ac (nmV t L (itP t L (sk t L a_) k_)) = 0)) from b32_dt (Classical.not_not.mp hb51)) ?_
        refine r_goto (tgt := 59) C (dk oX10_takeItem 29 rfl) (by decide) ?_
        refine r_iconst C (dk oX10_takeItem 31 rfl) (v := nI 4) (by decide) ?_
        refine r_aload_n C 2 (dk oX10_takeItem 32 rfl) rfl ?_
        refine r_getI C (dk oX10_takeItem 33 rfl) fl_X10_152 rfl (km hn rfl) ?_
        rw [hn3]
        refine r_ivi C Z (dk oX10_takeItem 34 rfl) cl_X10_173 ci_X10_want rfl (km hn rfl) (c_X10_want hn I29 J (decide (ac (nmV t L (itP t L (sk t L a_) k_)) = 0)) (nI 4) (nI (itP t L (sk t L a_) k_)) (nI 0) (hn1.trans (by rw [hz38]))) rfl rfl (Nat.le_of_ble_eq_true rfl) ⟨Nat.le_of_ble_eq_true rfl, Nat.le_of_ble_eq_true rfl⟩ ⟨Nat.zero_le _, Nat.zero_le _⟩ (fun r64 I64 J64 h64 => ?_)
        obtain ⟨e1_, hW64, e2_⟩ := h64
        have e1_ := e1_.symm
        have e2_ := e2_.symm
        subst e1_
        subst e2_
        refine r_if_eq (tgt := 118) C (dk oX10_takeItem 35 rfl) (by decide) (fun hb67 => ?_) (fun hb67 => ?_)
        · rw [b32_0, decide_eq_false_iff_not] at hb67
          have hb67 := want_0 hb67
          have hI64 := want_t hW64 hb67
          subst hI64
          refine hret (dk oX10_takeItem 66 rfl) ?_
          first
            | exact ⟨rfl, hfb.P.tr hnf.P, Or.inl ⟨(nmF t L (itP t L (sk t L a_) k_) 0 11), _, ks, k_, ac, Nat.pos_of_ne_zero hz38, by have := @nmF_lt t L (itP t L (sk t L a_) k_) 0 11; omega, hn1, by rw [hn2, if_neg hz38], rchP.one (pS_num hz38)⟩⟩
            | exact ⟨rfl, (hXn.up 29 _ (by decide)).up 30 _ (by decide), Or.inl ⟨4, _, ks, k_, ac, by decide, by decide, by rw [up2_off (by decide), up2_at], up2_at, rchP.one (pS_4 hz38 hb67)⟩⟩
            | exact ⟨rfl, (hXn.up 29 _ (by decide)).up 30 _ (by decide), Or.inl ⟨5, _, ks, k_, ac, by decide, by decide, by rw [up2_off (by decide), up2_at], up2_at, rchP.one (pS_5 hz38 hb67 (nbf hb89))⟩⟩
            | (refine ⟨rfl, (hXn.up 37 _ (by decide)).ua hv12, Or.inr ⟨nE t L (itP t L (sk t L a_) k_), (fun f => if f = (nmV t L (itP t L (sk t L a_) k_)) then (itA t L (sk t L a_) k_) else ac f), ⟨?_, ?_, nE_le (by rw [← hsab]; exact sk_le habL), ?_, ?_, ?_, hks, ?_, fun f hf => ?_, fun f => ?_⟩, rchP.one (pS_ok hz38 hb67 hb89), ?_⟩⟩
               · exact hT.of (by rw [up2_ne (by decide), up2_off (by decide)]; exact hXn.2.1 25 (by decide) (by decide) (by decide) (by decide) (by decide) (by decide) (by decide)) (by rw [up2_ne (by decide), up2_ne (by decide)]; exact hXn.1 141 (by decide) (by decide))
               · rw [up2_ne (by decide), up2_off (by decide)]; exact h26v
               · rw [up2_ne (by decide), up2_off (by decide), hn1, hz38]
               · rw [up2_ne (by decide), up2_off (by decide), hn2, if_pos hz38]; exact (hfb.2 30 (by decide) (by decide) (by decide)).trans h30
               · rw [up2_ne (by decide), up2_off (by decide)]; exact (hnf.2 36 (by decide) (by decide) (by decide) (by decide)).trans ((hfb.2 36 (by decide) (by decide) (by decide)).trans h36)
               · rw [up2_ne (by decide), up2_at, bS_set 12 hv12]
                 refine congrArg nI (bS_cong 12 (fun f hf => ?_))
                 show (if f = (nmV t L (itP t L (sk t L a_) k_)) then true else decide (ac f ≠ 0)) = decide ((if f = (nmV t L (itP t L (sk t L a_) k_)) then (itA t L (sk t L a_) k_) else ac f) ≠ 0)
                 by_cases e : f = (nmV t L (itP t L (sk t L a_) k_))
                 · rw [if_pos e, if_pos e, decide_eq_true (Nat.ne_of_gt (itA_pos hk.1))]
                 · rw [if_neg e, if_neg e]
               · show _ = nI (if f = (nmV t L (itP t L (sk t L a_) k_)) then (itA t L (sk t L a_) k_) else ac f)
                 by_cases e : f = (nmV t L (itP t L (sk t L a_) k_))
                 · rw [if_pos e, e, up2_at]
                 · rw [if_neg e, up2_off (by omega), up2_ne (by decide), (hnf.1 125 (by decide)), (hfb.1 125 (by decide))]
                   exact hac f hf
               · show (if f = (nmV t L (itP t L (sk t L a_) k_)) then (itA t L (sk t L a_) k_) else ac f) ≤ 6
                 split
                 · exact itA_le hk.2
                 · exact hac6 f
               · have h1 := @sk_ge t L (nE t L (itP t L (sk t L a_) k_))
                 have h2 : sk t L a_ ≤ (itP t L (sk t L a_) k_) := by
                   unfold itP
                   split
                   · have := @sk_ge t L (sk t L a_ + 3); omega
                   · exact Nat.le_refl _
                 omega)
        · rw [b32_n, decide_eq_true_eq] at hb67
          have hb67 := want_1 (by decide) hb67
          have hI64 := want_f hW64 hb67
          subst hI64
          refine r_aload_n C 2 (dk oX10_takeItem 36 rfl) rfl ?_
          refine r_aload_n C 2 (dk oX10_takeItem 37 rfl) rfl ?_
          refine r_iload_n C 1 (dk oX10_takeItem 38 rfl) rfl ?_
          refine r_iload C 0 (dk oX10_takeItem 39 rfl) rfl ?_
          refine r_iload_n C 4 (dk oX10_takeItem 40 rfl) rfl ?_
          refine r_iconst C (dk oX10_takeItem 41 rfl) (v := nI 2) (by decide) ?_
          refine r_irem C (dk oX10_takeItem 42 rfl) (by decide) ?_
          rw [mod2 (by omega)]
          refine r_ivi C Z (dk oX10_takeItem 43 rfl) cl_X10_117 ci_X10_mayBe rfl (km hn rfl) (c_X10_mayBe hn I64 J (nmV t L (itP t L (sk t L a_) k_)) (itA t L (sk t L a_) k_) p_ hv12 ⟨itA_pos hk.1, itA_le hk.2⟩ (by
    have hMn := hM.P hXn
    have h := hok (nmV t L (itP t L (sk t L a_) k_)) hv12
    unfold fsOK at h ⊢
    rw [show (fun i => I64 (134 + 1 + i) (nmV t L (itP t L (sk t L a_) k_))) 0 = Φ (nmV t L (itP t L (sk t L a_) k_)) 0 from hMn _ hv12 0 (by decide), show (fun i => I64 (134 + 1 + i) (nmV t L (itP t L (sk t L a_) k_))) 1 = Φ (nmV t L (itP t L (sk t L a_) k_)) 1 from hMn _ hv12 1 (by decide), show (fun i => I64 (134 + 1 + i) (nmV t L (itP t L (sk t L a_) k_))) 2 = Φ (nmV t L (itP t L (sk t L a_) k_)) 2 from hMn _ hv12 2 (by decide)]
    exact h)) rfl rfl (Nat.le_of_ble_eq_true rfl) ⟨Nat.le_of_ble_eq_true rfl, Nat.le_of_ble_eq_true rfl⟩ ⟨Nat.zero_le _, Nat.zero_le _⟩ (fun r78 I78 J78 h78 => ?_)
          obtain ⟨h78, e1_, e2_⟩ := h78
          have e1_ := e1_.symm
          have e2_ := e2_.symm
          subst e1_
          subst e2_
          subst h78
          have hMn := hM.P hXn
          rw [alw_cong (φ := fun i => I64 (134 + 1 + i) (nmV t L (itP t L (sk t L a_) k_))) (ψ := Φ (nmV t L (itP t L (sk t L a_) k_))) (hMn _ hv12 0 (by decide)) (hMn _ hv12 2 (by decide))]
          refine r_topI (show b32 (alw (itA t L (sk t L a_) k_) p_ (Φ (nmV t L (itP t L (sk t L a_) k_)))) = b32 (decide (alw (itA t L (sk t L a_) k_) p_ (Φ (nmV t L (itP t L (sk t L a_) k_))) = true)) from by cases alw (itA t L (sk t L a_) k_) p_ (Φ (nmV t L (itP t L (sk t L a_) k_))) <;> rfl) ?_
          refine r_iconst C (dk oX10_takeItem 44 rfl) (v := nI 5) (by decide) ?_
          refine r_aload_n C 2 (dk oX10_takeItem 45 rfl) rfl ?_
          refine r_getI C (dk oX10_takeItem 46 rfl) fl_X10_152 rfl (km hn rfl) ?_
          rw [hn3]
          refine r_ivi C Z (dk oX10_takeItem 47 rfl) cl_X10_173 ci_X10_want rfl (km hn rfl) (c_X10_want hn I64 J (decide (alw (itA t L (sk t L a_) k_) p_ (Φ (nmV t L (itP t L (sk t L a_) k_))) = true)) (nI 5) (nI (itP t L (sk t L a_) k_)) (nI 0) (hn1.trans (by rw [hz38]))) rfl rfl (Nat.le_of_ble_eq_true rfl) ⟨Nat.le_of_ble_eq_true rfl, Nat.le_of_ble_eq_true rfl⟩ ⟨Nat.zero_le _, Nat.zero_le _⟩ (fun r86 I86 J86 h86 => ?_)
          obtain ⟨e1_, hW86, e2_⟩ := h86
          have e1_ := e1_.symm
          have e2_ := e2_.symm
          subst e1_
          subst e2_
          refine r_if_eq (tgt := 118) C (dk oX10_takeItem 48 rfl) (by decide) (fun hb89 => ?_) (fun hb89 => ?_)
          · rw [b32_0, decide_eq_false_iff_not] at hb89
            have hb89 := want_0 hb89
            have hI86 := want_t hW86 hb89
            subst hI86
            refine hret (dk oX10_takeItem 66 rfl) ?_
            first
              | exact ⟨rfl, hfb.P.tr hnf.P, Or.inl ⟨(nmF t L (itP t L (sk t L a_) k_) 0 11), _, ks, k_, ac, Nat.pos_of_ne_zero hz38, by have := @nmF_lt t L (itP t L (sk t L a_) k_) 0 11; omega, hn1, by rw [hn2, if_neg hz38], rchP.one (pS_num hz38)⟩⟩
              | exact ⟨rfl, (hXn.up 29 _ (by decide)).up 30 _ (by decide), Or.inl ⟨4, _, ks, k_, ac, by decide, by decide, by rw [up2_off (by decide), up2_at], up2_at, rchP.one (pS_4 hz38 hb67)⟩⟩
              | exact ⟨rfl, (hXn.up 29 _ (by decide)).up 30 _ (by decide), Or.inl ⟨5, _, ks, k_, ac, by decide, by decide, by rw [up2_off (by decide), up2_at], up2_at, rchP.one (pS_5 hz38 hb67 (nbf hb89))⟩⟩
              | (refine ⟨rfl, (hXn.up 37 _ (by decide)).ua hv12, Or.inr ⟨nE t L (itP t L (sk t L a_) k_), (fun f => if f = (nmV t L (itP t L (sk t L a_) k_)) then (itA t L (sk t L a_) k_) else ac f), ⟨?_, ?_, nE_le (by rw [← hsab]; exact sk_le habL), ?_, ?_, ?_, hks, ?_, fun f hf => ?_, fun f => ?_⟩, rchP.one (pS_ok hz38 hb67 hb89), ?_⟩⟩
                 · exact hT.of (by rw [up2_ne (by decide), up2_off (by decide)]; exact hXn.2.1 25 (by decide) (by decide) (by decide) (by decide) (by decide) (by decide) (by decide)) (by rw [up2_ne (by decide), up2_ne (by decide)]; exact hXn.1 141 (by decide) (by decide))
                 · rw [up2_ne (by decide), up2_off (by decide)]; exact h26v
                 · rw [up2_ne (by decide), up2_off (by decide), hn1, hz38]
                 · rw [up2_ne (by decide), up2_off (by decide), hn2, if_pos hz38]; exact (hfb.2 30 (by decide) (by decide) (by decide)).trans h30
                 · rw [up2_ne (by decide), up2_off (by decide)]; exact (hnf.2 36 (by decide) (by decide) (by decide) (by decide)).trans ((hfb.2 36 (by decide) (by decide) (by decide)).trans h36)
                 · rw [up2_ne (by decide), up2_at, bS_set 12 hv12]
                   refine congrArg nI (bS_cong 12 (fun f hf => ?_))
                   show (if f = (nmV t L (itP t L (sk t L a_) k_)) then true else decide (ac f ≠ 0)) = decide ((if f = (nmV t L (itP t L (sk t L a_) k_)) then (itA t L (sk t L a_) k_) else ac f) ≠ 0)
                   by_cases e : f = (nmV t L (itP t L (sk t L a_) k_))
                   · rw [if_pos e, if_pos e, decide_eq_true (Nat.ne_of_gt (itA_pos hk.1))]
                   · rw [if_neg e, if_neg e]
                 · show _ = nI (if f = (nmV t L (itP t L (sk t L a_) k_)) then (itA t L (sk t L a_) k_) else ac f)
                   by_cases e : f = (nmV t L (itP t L (sk t L a_) k_))
                   · rw [if_pos e, e, up2_at]
                   · rw [if_neg e, up2_off (by omega), up2_ne (by decide), (hnf.1 125 (by decide)), (hfb.1 125 (by decide))]
                     exact hac f hf
                 · show (if f = (nmV t L (itP t L (sk t L a_) k_)) then (itA t L (sk t L a_) k_) else ac f) ≤ 6
                   split
                   · exact itA_le hk.2
                   · exact hac6 f
                 · have h1 := @sk_ge t L (nE t L (itP t L (sk t L a_) k_))
                   have h2 : sk t L a_ ≤ (itP t L (sk t L a_) k_) := by
                     unfold itP
                     split
                     · have := @sk_ge t L (sk t L a_ + 3); omega
                     · exact Nat.le_refl _
                   omega)
          · rw [b32_n, decide_eq_true_eq] at hb89
            have hb89 := want_1 (by decide) hb89
            have hI86 := want_f hW86 hb89
            subst hI86
            refine r_aload_n C 2 (dk oX10_takeItem 49 rfl) rfl ?_
            refine r_dup C (dk oX10_takeItem 50 rfl) rfl ?_
            refine r_getI C (dk oX10_takeItem 51 rfl) fl_X10_228 rfl (km hn rfl) ?_
            rw [h37n]
            refine r_iconst C (dk oX10_takeItem 52 rfl) (v := nI 1) (by decide) ?_
            refine r_iload C 0 (dk oX10_takeItem 53 rfl) rfl ?_
            refine r_ishl C (dk oX10_takeItem 54 rfl) ?_
            refine r_ior C (dk oX10_takeItem 55 rfl) ?_
            rw [or_bit (by omega)]
            refine r_putI C (dk oX10_takeItem 56 rfl) fl_X10_228 ft_10_37 rfl (km hn rfl) ?_
            refine r_aload_n C 2 (dk oX10_takeItem 57 rfl) rfl ?_
            refine r_getR C (dk oX10_takeItem 58 rfl) fl_X10_32 rfl (km hn rfl) ?_
            refine r_bipush C (dk oX10_takeItem 59 rfl) (v := nI 12) (by decide) ?_
            refine r_iload_n C 4 (dk oX10_takeItem 60 rfl) rfl ?_
            refine r_imul C (dk oX10_takeItem 61 rfl) ?_
            rw [pk_mul]
            refine r_iload C 0 (dk oX10_takeItem 62 rfl) rfl ?_
            refine r_iadd C (dk oX10_takeItem 63 rfl) ?_
            rw [nI_add]
            refine r_iload_n C 1 (dk oX10_takeItem 64 rfl) rfl ?_
            refine r_iast C _ (dk oX10_takeItem 65 rfl) rfl (km hn rfl) rfl (by omega) (by decide) ?_
            refine hret (dk oX10_takeItem 66 rfl) ?_
            first
              | exact ⟨rfl, hfb.P.tr hnf.P, Or.inl ⟨(nmF t L (itP t L (sk t L a_) k_) 0 11), _, ks, k_, ac, Nat.pos_of_ne_zero hz38, by have := @nmF_lt t L (itP t L (sk t L a_) k_) 0 11; omega, hn1, by rw [hn2, if_neg hz38], rchP.one (pS_num hz38)⟩⟩
              | exact ⟨rfl, (hXn.up 29 _ (by decide)).up 30 _ (by decide), Or.inl ⟨4, _, ks, k_, ac, by decide, by decide, by rw [up2_off (by decide), up2_at], up2_at, rchP.one (pS_4 hz38 hb67)⟩⟩
              | exact ⟨rfl, (hXn.up 29 _ (by decide)).up 30 _ (by decide), Or.inl ⟨5, _, ks, k_, ac, by decide, by decide, by rw [up2_off (by decide), up2_at], up2_at, rchP.one (pS_5 hz38 hb67 (nbf hb89))⟩⟩
              | (refine ⟨rfl, (hXn.up 37 _ (by decide)).ua hv12, Or.inr ⟨nE t L (itP t L (sk t L a_) k_), (fun f => if f = (nmV t L (itP t L (sk t L a_) k_)) then (itA t L (sk t L a_) k_) else ac f), ⟨?_, ?_, nE_le (by rw [← hsab]; exact sk_le habL), ?_, ?_, ?_, hks, ?_, fun f hf => ?_, fun f => ?_⟩, rchP.one (pS_ok hz38 hb67 hb89), ?_⟩⟩
                 · exact hT.of (by rw [up2_ne (by decide), up2_off (by decide)]; exact hXn.2.1 25 (by decide) (by decide) (by decide) (by decide) (by decide) (by decide) (by decide)) (by rw [up2_ne (by decide), up2_ne (by decide)]; exact hXn.1 141 (by decide) (by decide))
                 · rw [up2_ne (by decide), up2_off (by decide)]; exact h26v
                 · rw [up2_ne (by decide), up2_off (by decide), hn1, hz38]
                 · rw [up2_ne (by decide), up2_off (by decide), hn2, if_pos hz38]; exact (hfb.2 30 (by decide) (by decide) (by decide)).trans h30
                 · rw [up2_ne (by decide), up2_off (by decide)]; exact (hnf.2 36 (by decide) (by decide) (by decide) (by decide)).trans ((hfb.2 36 (by decide) (by decide) (by decide)).trans h36)
                 · rw [up2_ne (by decide), up2_at, bS_set 12 hv12]
                   refine congrArg nI (bS_cong 12 (fun f hf => ?_))
                   show (if f = (nmV t L (itP t L (sk t L a_) k_)) then true else decide (ac f ≠ 0)) = decide ((if f = (nmV t L (itP t L (sk t L a_) k_)) then (itA t L (sk t L a_) k_) else ac f) ≠ 0)
                   by_cases e : f = (nmV t L (itP t L (sk t L a_) k_))
                   · rw [if_pos e, if_pos e, decide_eq_true (Nat.ne_of_gt (itA_pos hk.1))]
                   · rw [if_neg e, if_neg e]
                 · show _ = nI (if f = (nmV t L (itP t L (sk t L a_) k_)) then (itA t L (sk t L a_) k_) else ac f)
                   by_cases e : f = (nmV t L (itP t L (sk t L a_) k_))
                   · rw [if_pos e, e, up2_at]
                   · rw [if_neg e, up2_off (by omega), up2_ne (by decide), (hnf.1 125 (by decide)), (hfb.1 125 (by decide))]
                     exact hac f hf
                 · show (if f = (nmV t L (itP t L (sk t L a_) k_)) then (itA t L (sk t L a_) k_) else ac f) ≤ 6
                   split
                   · exact itA_le hk.2
                   · exact hac6 f
                 · have h1 := @sk_ge t L (nE t L (itP t L (sk t L a_) k_))
                   have h2 : sk t L a_ ≤ (itP t L (sk t L a_) k_) := by
                     unfold itP
                     split
                     · have := @sk_ge t L (sk t L a_ + 3); omega
                     · exact Nat.le_refl _
                   omega)
  · simp (disch := omega) only [nI_leI, nI_ltI, nI_eq, nI_eq0] at hb2
    refine r_aload_n C 0 (dk oX10_takeItem 3 rfl) rfl ?_
    refine r_iconst C (dk oX10_takeItem 4 rfl) (v := nI 3) (by decide) ?_
    refine r_bipush C (dk oX10_takeItem 5 rfl) (v := nI 110) (by decide) ?_
    refine r_bipush C (dk oX10_takeItem 6 rfl) (v := nI 111) (by decide) ?_
    refine r_bipush C (dk oX10_takeItem 7 rfl) (v := nI 116) (by decide) ?_
    refine r_ivi C Z (dk oX10_takeItem 8 rfl) cl_X10_200 ci_X10_isNext rfl (km hn rfl) (c_X10_isNext hn I J t L hT a_ h26 haL 3 110 111 116 (by decide) (by decide) wNot (by decide)) rfl rfl (Nat.le_of_ble_eq_true rfl) ⟨Nat.le_of_ble_eq_true rfl, Nat.le_of_ble_eq_true rfl⟩ ⟨Nat.zero_le _, Nat.zero_le _⟩ (fun r13 I13 J13 h13 => ?_)
    obtain ⟨e1_, h26n, h27n, hfn, e2_⟩ := h13
    have e1_ := e1_.symm
    have e2_ := e2_.symm
    subst e1_
    subst e2_
    refine r_if_eq (tgt := 23) C (dk oX10_takeItem 9 rfl) (by decide) (fun hb16 => ?_) (fun hb16 => ?_)
    · rw [b32_0] at hb16
      refine r_iload_n C 1 (dk oX10_takeItem 12 rfl) rfl ?_
      obtain ⟨Ib, ab, hIb, hfb, h26b, habL, hsab, hst⟩ : ∃ Ib ab, Ib = I13 ∧ tkF I Ib ∧ Ib 117 26 = nI ab ∧ ab ≤ L ∧ sk t L ab = (itP t L (sk t L a_) k_) ∧ nI (itA t L (sk t L a_) k_) = nI k_ := ⟨I13, sk t L a_, rfl, hfn, by rw [h26n, hb16, if_neg (by decide)], hsL, by unfold itP; rw [if_neg (fun q => by rw [hb16] at q; exact absurd q.2 (by decide)), sk_sk], by unfold itA; rw [if_neg (fun q => by rw [hb16] at q; exact absurd q.2 (by decide))]⟩
      rw [← hIb]
      clear hIb
      refine r_topI hst.symm ?_
      refine r_istore_n (lo' := [(3, _), (0, _), (1, _), (2, _)]) C (dk oX10_takeItem 13 rfl) rfl (by decide) rfl ?_
      refine r_aload_n C 1 (dk oX10_takeItem 14 rfl) rfl ?_
      refine r_iconst C (dk oX10_takeItem 15 rfl) (v := nI 0) (by decide) ?_
      refine r_bipush C (dk oX10_takeItem 16 rfl) (v := nI 11) (by decide) ?_
      refine r_ivi C Z (dk oX10_takeItem 17 rfl) cl_X10_204 ci_X10_takeNumber rfl (km hn rfl) (c_X10_takeNumber hn Ib J t L (hT.tk hfb) ab h26b habL ((hfb.2 29 (by decide) (by decide) (by decide)).trans h29) 0 11 (by decide) (by decide)) rfl rfl (Nat.le_of_ble_eq_true rfl) ⟨Nat.le_of_ble_eq_true rfl, Nat.le_of_ble_eq_true rfl⟩ ⟨Nat.zero_le _, Nat.zero_le _⟩ (fun r29 I29 J29 h29 => ?_)
      obtain ⟨hn1, hn2, hn3, hn4, hn5, hnf, e2_⟩ := h29
      rw [hsab] at hn1 hn2 hn3 hn4
      have e2_ := e2_.symm
      subst e2_
      refine r_istore (lo' := [(4, _), (3, _), (0, _), (1, _), (2, _)]) C (dk oX10_takeItem 18 rfl) (by decide) rfl ?_
      refine r_aload_n C 2 (dk oX10_takeItem 19 rfl) rfl ?_
      refine r_getI C (dk oX10_takeItem 20 rfl) fl_X10_145 rfl (km hn rfl) ?_
      rw [hn1]
      refine r_if_ne (tgt := 118) C (dk oX10_takeItem 21 rfl) (by decide) (fun hb38 => ?_) (fun hb38 => ?_)
      · have hz38 : ¬ (nmF t L (itP t L (sk t L a_) k_) 0 11) = 0 := by
          have := @nmF_lt t L (itP t L (sk t L a_) k_) 0 11
          rw [nI_eq0 (by omega)] at hb38
          exact hb38
        refine hret (dk oX10_takeItem 66 rfl) ?_
        first
          | exact ⟨rfl, hfb.P.tr hnf.P, Or.inl ⟨(nmF t L (itP t L (sk t L a_) k_) 0 11), _, ks, k_, ac, Nat.pos_of_ne_zero hz38, by have := @nmF_lt t L (itP t L (sk t L a_) k_) 0 11; omega, hn1, by rw [hn2, if_neg hz38], rchP.one (pS_num hz38)⟩⟩
          | exact ⟨rfl, (hXn.up 29 _ (by decide)).up 30 _ (by decide), Or.inl ⟨4, _, ks, k_, ac, by decide, by decide, by rw [up2_off (by decide), up2_at], up2_at, rchP.one (pS_4 hz38 hb67)⟩⟩
          | exact ⟨rfl, (hXn.up 29 _ (by decide)).up 30 _ (by decide), Or.inl ⟨5, _, ks, k_, ac, by decide, by decide, by rw [up2_off (by decide), up2_at], up2_at, rchP.one (pS_5 hz38 hb67 (nbf hb89))⟩⟩
          | (refine ⟨rfl, (hXn.up 37 _ (by decide)).ua hv12, Or.inr ⟨nE t L (itP t L (sk t L a_) k_), (fun f => if f = (nmV t L (itP t L (sk t L a_) k_)) then (itA t L (sk t L a_) k_) else ac f), ⟨?_, ?_, nE_le (by rw [← hsab]; exact sk_le habL), ?_, ?_, ?_, hks, ?_, fun f hf => ?_, fun f => ?_⟩, rchP.one (pS_ok hz38 hb67 hb89), ?_⟩⟩
             · exact hT.of (by rw [up2_ne (by decide), up2_off (by decide)]; exact hXn.2.1 25 (by decide) (by decide) (by decide) (by decide) (by decide) (by decide) (by decide)) (by rw [up2_ne (by decide), up2_ne (by decide)]; exact hXn.1 141 (by decide) (by decide))
             · rw [up2_ne (by decide), up2_off (by decide)]; exact h26v
             · rw [up2_ne (by decide), up2_off (by decide), hn1, hz38]
             · rw [up2_ne (by decide), up2_off (by decide), hn2, if_pos hz38]; exact (hfb.2 30 (by decide) (by decide) (by decide)).trans h30
             · rw [up2_ne (by decide), up2_off (by decide)]; exact (hnf.2 36 (by decide) (by decide) (by decide) (by decide)).trans ((hfb.2 36 (by decide) (by decide) (by decide)).trans h36)
             · rw [up2_ne (by decide), up2_at, bS_set 12 hv12]
               refine congrArg nI (bS_cong 12 (fun f hf => ?_))
               show (if f = (nmV t L (itP t L (sk t L a_) k_)) then true else decide (ac f ≠ 0)) = decide ((if f = (nmV t L (itP t L (sk t L a_) k_)) then (itA t L (sk t L a_) k_) else ac f) ≠ 0)
               by_cases e : f = (nmV t L (itP t L (sk t L a_) k_))
               · rw [if_pos e, if_pos e, decide_eq_true (Nat.ne_of_gt (itA_pos hk.1))]
               · rw [if_neg e, if_neg e]
             · show _ = nI (if f = (nmV t L (itP t L (sk t L a_) k_)) then (itA t L (sk t L a_) k_) else ac f)
               by_cases e : f = (nmV t L (itP t L (sk t L a_) k_))
               · rw [if_pos e, e, up2_at]
               · rw [if_neg e, up2_off (by omega), up2_ne (by decide), (hnf.1 125 (by decide)), (hfb.1 125 (by decide))]
                 exact hac f hf
             · show (if f = (nmV t L (itP t L (sk t L a_) k_)) then (itA t L (sk t L a_) k_) else ac f) ≤ 6
               split
               · exact itA_le hk.2
               · exact hac6 f
             · have h1 := @sk_ge t L (nE t L (itP t L (sk t L a_) k_))
               have h2 : sk t L a_ ≤ (itP t L (sk t L a_) k_) := by
                 unfold itP
                 split
                 · have := @sk_ge t L (sk t L a_ + 3); omega
                 · exact Nat.le_refl _
               omega)
      · have hz38 : (nmF t L (itP t L (sk t L a_) k_) 0 11) = 0 := by
          have := @nmF_lt t L (itP t L (sk t L a_) k_) 0 11
          rw [nI_eq0 (by omega)] at hb38
          exact hb38
        obtain ⟨hrv, h26v⟩ := hn4 hz38
        have hrv := hrv.symm
        subst hrv
        obtain ⟨hfg1, hfg2, hfg3, hfg4, _⟩ := nmF_fig hz38
        have hv12 : (nmV t L (itP t L (sk t L a_) k_)) < 12 := by omega
        have hac6v := hac6 (nmV t L (itP t L (sk t L a_) k_))
        have hbs := @bS_lt (fun f => decide (ac f ≠ 0)) 12
        have hXn : mPX p_ I I29 := (hfb.P).tr hnf.P
        have h37n : I29 117 37 = nI (bS (fun f => decide (ac f ≠ 0)) 12) := (hnf.2 37 (by decide) (by decide) (by decide) (by decide)).trans ((hfb.2 37 (by decide) (by decide) (by decide)).trans h37)
        refine r_aload_n C 2 (dk oX10_takeItem 22 rfl) rfl ?_
        refine r_aload_n C 2 (dk oX10_takeItem 23 rfl) rfl ?_
        refine r_getI C (dk oX10_takeItem 24 rfl) fl_X10_228 rfl (km hn rfl) ?_
        rw [h37n]
        refine r_iload C 0 (dk oX10_takeItem 25 rfl) rfl ?_
        refine r_isi C Z (dk oX10_takeItem 26 rfl) cl_X10_231 st_X10_has (c_X10_has I29 J (bS (fun f => decide (ac f ≠ 0)) 12) ((nmV t L (itP t L (sk t L a_) k_))) (by omega) (by omega)) rfl rfl (Nat.le_of_ble_eq_true rfl) ⟨Nat.le_of_ble_eq_true rfl, Nat.le_of_ble_eq_true rfl⟩ ⟨Nat.zero_le _, Nat.zero_le _⟩ (fun r48 I48 J48 h48 => ?_)
        obtain ⟨h48, e1_, e2_⟩ := h48
        have e1_ := e1_.symm
        have e2_ := e2_.symm
        subst e1_
        subst e2_
        subst h48
        refine r_if_ne (tgt := 58) C (dk oX10_takeItem 27 rfl) (by decide) (fun hb51 => ?_) (fun hb51 => ?_)
        · rw [b32_n, seen_b hv12, decide_eq_true_eq] at hb51
          refine r_iconst C (dk oX10_takeItem 30 rfl) (v := nI 0) (by decide) ?_
          refine r_topI (show nI 0 = b32 (decide (ac (nmV t L (itP t L (sk t L a_) k_)) = 0)) from b32_df hb51) ?_
          refine r_iconst C (dk oX10_takeItem 31 rfl) (v := nI 4) (by decide) ?_
          refine r_aload_n C 2 (dk oX10_takeItem 32 rfl) rfl ?_
          refine r_getI C (dk oX10_takeItem 33 rfl) fl_X10_152 rfl (km hn rfl) ?_
          rw [hn3]
          refine r_ivi C Z (dk oX10_takeItem 34 rfl) cl_X10_173 ci_X10_want rfl (km hn rfl) (c_X10_want hn I29 J (decide (ac (nmV t L (itP t L (sk t L a_) k_)) = 0)) (nI 4) (nI (itP t L (sk t L a_) k_)) (nI 0) (hn1.trans (by rw [hz38]))) rfl rfl (Nat.le_of_ble_eq_true rfl) ⟨Nat.le_of_ble_eq_true rfl, Nat.le_of_ble_eq_true rfl⟩ ⟨Nat.zero_le _, Nat.zero_le _⟩ (fun r64 I64 J64 h64 => ?_)
          obtain ⟨e1_, hW64, e2_⟩ := h64
          have e1_ := e1_.symm
          have e2_ := e2_.symm
          subst e1_
          subst e2_
          refine r_if_eq (tgt := 118) C (dk oX10_takeItem 35 rfl) (by decide) (fun hb67 => ?_) (fun hb67 => ?_)
          · rw [b32_0, decide_eq_false_iff_not] at hb67
            have hb67 := want_0 hb67
            have hI64 := want_t hW64 hb67
            subst hI64
            refine hret (dk oX10_takeItem 66 rfl) ?_
            first
              | exact ⟨rfl, hfb.P.tr hnf.P, Or.inl ⟨(nmF t L (itP t L (sk t L a_) k_) 0 11), _, ks, k_, ac, Nat.pos_of_ne_zero hz38, by have := @nmF_lt t L (itP t L (sk t L a_) k_) 0 11; omega, hn1, by rw [hn2, if_neg hz38], rchP.one (pS_num hz38)⟩⟩
              | exact ⟨rfl, (hXn.up 29 _ (by decide)).up 30 _ (by decide), Or.inl ⟨4, _, ks, k_, ac, by decide, by decide, by rw [up2_off (by decide), up2_at], up2_at, rchP.one (pS_4 hz38 hb67)⟩⟩
              | exact ⟨rfl, (hXn.up 29 _ (by decide)).up 30 _ (by decide), Or.inl ⟨5, _, ks, k_, ac, by decide, by decide, by rw [up2_off (by decide), up2_at], up2_at, rchP.one (pS_5 hz38 hb67 (nbf hb89))⟩⟩
              | (refine ⟨rfl, (hXn.up 37 _ (by decide)).ua hv12, Or.inr ⟨nE t L (itP t L (sk t L a_) k_), (fun f => if f = (nmV t L (itP t L (sk t L a_) k_)) then (itA t L (sk t L a_) k_) else ac f), ⟨?_, ?_, nE_le (by rw [← hsab]; exact sk_le habL), ?_, ?_, ?_, hks, ?_, fun f hf => ?_, fun f => ?_⟩, rchP.one (pS_ok hz38 hb67 hb89), ?_⟩⟩
                 · exact hT.of (by rw [up2_ne (by decide), up2_off (by decide)]; exact hXn.2.1 25 (by decide) (by decide) (by decide) (by decide) (by decide) (by decide) (by decide)) (by rw [up2_ne (by decide), up2_ne (by decide)]; exact hXn.1 141 (by decide) (by decide))
                 · rw [up2_ne (by decide), up2_off (by decide)]; exact h26v
                 · rw [up2_ne (by decide), up2_off (by decide), hn1, hz38]
                 · rw [up2_ne (by decide), up2_off (by decide), hn2, if_pos hz38]; exact (hfb.2 30 (by decide) (by decide) (by decide)).trans h30
                 · rw [up2_ne (by decide), up2_off (by decide)]; exact (hnf.2 36 (by decide) (by decide) (by decide) (by decide)).trans ((hfb.2 36 (by decide) (by decide) (by decide)).trans h36)
                 · rw [up2_ne (by decide), up2_at, bS_set 12 hv12]
                   refine congrArg nI (bS_cong 12 (fun f hf => ?_))
                   show (if f = (nmV t L (itP t L (sk t L a_) k_)) then true else decide (ac f ≠ 0)) = decide ((if f = (nmV t L (itP t L (sk t L a_) k_)) then (itA t L (sk t L a_) k_) else ac f) ≠ 0)
                   by_cases e : f = (nmV t L (itP t L (sk t L a_) k_))
                   · rw [if_pos e, if_pos e, decide_eq_true (Nat.ne_of_gt (itA_pos hk.1))]
                   · rw [if_neg e, if_neg e]
                 · show _ = nI (if f = (nmV t L (itP t L (sk t L a_) k_)) then (itA t L (sk t L a_) k_) else ac f)
                   by_cases e : f = (nmV t L (itP t L (sk t L a_) k_))
                   · rw [if_pos e, e, up2_at]
                   · rw [if_neg e, up2_off (by omega), up2_ne (by decide), (hnf.1 125 (by decide)), (hfb.1 125 (by decide))]
                     exact hac f hf
                 · show (if f = (nmV t L (itP t L (sk t L a_) k_)) then (itA t L (sk t L a_) k_) else ac f) ≤ 6
                   split
                   · exact itA_le hk.2
                   · exact hac6 f
                 · have h1 := @sk_ge t L (nE t L (itP t L (sk t L a_) k_))
                   have h2 : sk t L a_ ≤ (itP t L (sk t L a_) k_) := by
                     unfold itP
                     split
                     · have := @sk_ge t L (sk t L a_ + 3); omega
                     · exact Nat.le_refl _
                   omega)
          · rw [b32_n, decide_eq_true_eq] at hb67
            have hb67 := want_1 (by decide) hb67
            have hI64 := want_f hW64 hb67
            subst hI64
            refine r_aload_n C 2 (dk oX10_takeItem 36 rfl) rfl ?_
            refine r_aload_n C 2 (dk oX10_takeItem 37 rfl) rfl ?_
            refine r_iload_n C 1 (dk oX10_takeItem 38 rfl) rfl ?_
            refine r_iload C 0 (dk oX10_takeItem 39 rfl) rfl ?_
            refine r_iload_n C 4 (dk oX10_takeItem 40 rfl) rfl ?_
            refine r_iconst C (dk oX10_takeItem 41 rfl) (v := nI 2) (by decide) ?_
            refine r_irem C (dk oX10_takeItem 42 rfl) (by decide) ?_
            rw [mod2 (by omega)]
            refine r_ivi C Z (dk oX10_takeItem 43 rfl) cl_X10_117 ci_X10_mayBe rfl (km hn rfl) (c_X10_mayBe hn I64 J (nmV t L (itP t L (sk t L a_) k_)) (itA t L (sk t L a_) k_) p_ hv12 ⟨itA_pos hk.1, itA_le hk.2⟩ (by
    have hMn := hM.P hXn
    have h := hok (nmV t L (itP t L (sk t L a_) k_)) hv12
    unfold fsOK at h ⊢
    rw [show (fun i => I64 (134 + 1 + i) (nmV t L (itP t L (sk t L a_) k_))) 0 = Φ (nmV t L (itP t L (sk t L a_) k_)) 0 from hMn _ hv12 0 (by decide), show (fun i => I64 (134 + 1 + i) (nmV t L (itP t L (sk t L a_) k_))) 1 = Φ (nmV t L (itP t L (sk t L a_) k_)) 1 from hMn _ hv12 1 (by decide), show (fun i => I64 (134 + 1 + i) (nmV t L (itP t L (sk t L a_) k_))) 2 = Φ (nmV t L (itP t L (sk t L a_) k_)) 2 from hMn _ hv12 2 (by decide)]
    exact h)) rfl rfl (Nat.le_of_ble_eq_true rfl) ⟨Nat.le_of_ble_eq_true rfl, Nat.le_of_ble_eq_true rfl⟩ ⟨Nat.zero_le _, Nat.zero_le _⟩ (fun r78 I78 J78 h78 => ?_)
            obtain ⟨h78, e1_, e2_⟩ := h78
            have e1_ := e1_.symm
            have e2_ := e2_.symm
            subst e1_
            subst e2_
            subst h78
            have hMn := hM.P hXn
            rw [alw_cong (φ := fun i => I64 (134 + 1 + i) (nmV t L (itP t L (sk t L a_) k_))) (ψ := Φ (nmV t L (itP t L (sk t L a_) k_))) (hMn _ hv12 0 (by decide)) (hMn _ hv12 2 (by decide))]
            refine r_topI (show b32 (alw (itA t L (sk t L a_) k_) p_ (Φ (nmV t L (itP t L (sk t L a_) k_)))) = b32 (decide (alw (itA t L (sk t L a_) k_) p_ (Φ (nmV t L (itP t L (sk t L a_) k_))) = true)) from by cases alw (itA t L (sk t L a_) k_) p_ (Φ (nmV t L (itP t L (sk t L a_) k_))) <;> rfl) ?_
            refine r_iconst C (dk oX10_takeItem 44 rfl) (v := nI 5) (by decide) ?_
            refine r_aload_n C 2 (dk oX10_takeItem 45 rfl) rfl ?_
            refine r_getI C (dk oX10_takeItem 46 rfl) fl_X10_152 rfl (km hn rfl) ?_
            rw [hn3]
            refine r_ivi C Z (dk oX10_takeItem 47 rfl) cl_X10_173 ci_X10_want rfl (km hn rfl) (c_X10_want hn I64 J (decide (alw (itA t L (sk t L a_) k_) p_ (Φ (nmV t L (itP t L (sk t L a_) k_))) = true)) (nI 5) (nI (itP t L (sk t L a_) k_)) (nI 0) (hn1.trans (by rw [hz38]))) rfl rfl (Nat.le_of_ble_eq_true rfl) ⟨Nat.le_of_ble_eq_true rfl, Nat.le_of_ble_eq_true rfl⟩ ⟨Nat.zero_le _, Nat.zero_le _⟩ (fun r86 I86 J86 h86 => ?_)
            obtain ⟨e1_, hW86, e2_⟩ := h86
            have e1_ := e1_.symm
            have e2_ := e2_.symm
            subst e1_
            subst e2_
            refine r_if_eq (tgt := 118) C (dk oX10_takeItem 48 rfl) (by decide) (fun hb89 => ?_) (fun hb89 => ?_)
            · rw [b32_0, decide_eq_false_iff_not] at hb89
              have hb89 := want_0 hb89
              have hI86 := want_t hW86 hb89
              subst hI86
              refine hret (dk oX10_takeItem 66 rfl) ?_
              first
                | exact ⟨rfl, hfb.P.tr hnf.P, Or.inl ⟨(nmF t L (itP t L (sk t L a_) k_) 0 11), _, ks, k_, ac, Nat.pos_of_ne_zero hz38, by have := @nmF_lt t L (itP t L (sk t L a_) k_) 0 11; omega, hn1, by rw [hn2, if_neg hz38], rchP.one (pS_num hz38)⟩⟩
                | exact ⟨rfl, (hXn.up 29 _ (by decide)).up 30 _ (by decide), Or.inl ⟨4, _, ks, k_, ac, by decide, by decide, by rw [up2_off (by decide), up2_at], up2_at, rchP.one (pS_4 hz38 hb67)⟩⟩
                | exact ⟨rfl, (hXn.up 29 _ (by decide)).up 30 _ (by decide), Or.inl ⟨5, _, ks, k_, ac, by decide, by decide, by rw [up2_off (by decide), up2_at], up2_at, rchP.one (pS_5 hz38 hb67 (nbf hb89))⟩⟩
                | (refine ⟨rfl, (hXn.up 37 _ (by decide)).ua hv12, Or.inr ⟨nE t L (itP t L (sk t L a_) k_), (fun f => if f = (nmV t L (itP t L (sk t L a_) k_)) then (itA t L (sk t L a_) k_) else ac f), ⟨?_, ?_, nE_le (by rw [← hsab]; exact sk_le habL), ?_, ?_, ?_, hks, ?_, fun f hf => ?_, fun f => ?_⟩, rchP.one (pS_ok hz38 hb67 hb89), ?_⟩⟩
                   · exact hT.of (by rw [up2_ne (by decide), up2_off (by decide)]; exact hXn.2.1 25 (by decide) (by decide) (by decide) (by decide) (by decide) (by decide) (by decide)) (by rw [up2_ne (by decide), up2_ne (by decide)]; exact hXn.1 141 (by decide) (by decide))
                   · rw [up2_ne (by decide), up2_off (by decide)]; exact h26v
                   · rw [up2_ne (by decide), up2_off (by decide), hn1, hz38]
                   · rw [up2_ne (by decide), up2_off (by decide), hn2, if_pos hz38]; exact (hfb.2 30 (by decide) (by decide) (by decide)).trans h30
                   · rw [up2_ne (by decide), up2_off (by decide)]; exact (hnf.2 36 (by decide) (by decide) (by decide) (by decide)).trans ((hfb.2 36 (by decide) (by decide) (by decide)).trans h36)
                   · rw [up2_ne (by decide), up2_at, bS_set 12 hv12]
                     refine congrArg nI (bS_cong 12 (fun f hf => ?_))
                     show (if f = (nmV t L (itP t L (sk t L a_) k_)) then true else decide (ac f ≠ 0)) = decide ((if f = (nmV t L (itP t L (sk t L a_) k_)) then (itA t L (sk t L a_) k_) else ac f) ≠ 0)
                     by_cases e : f = (nmV t L (itP t L (sk t L a_) k_))
                     · rw [if_pos e, if_pos e, decide_eq_true (Nat.ne_of_gt (itA_pos hk.1))]
                     · rw [if_neg e, if_neg e]
                   · show _ = nI (if f = (nmV t L (itP t L (sk t L a_) k_)) then (itA t L (sk t L a_) k_) else ac f)
                     by_cases e : f = (nmV t L (itP t L (sk t L a_) k_))
                     · rw [if_pos e, e, up2_at]
                     · rw [if_neg e, up2_off (by omega), up2_ne (by decide), (hnf.1 125 (by decide)), (hfb.1 125 (by decide))]
                       exact hac f hf
                   · show (if f = (nmV t L (itP t L (sk t L a_) k_)) then (itA t L (sk t L a_) k_) else ac f) ≤ 6
                     split
                     · exact itA_le hk.2
                     · exact hac6 f
                   · have h1 := @sk_ge t L (nE t L (itP t L (sk t L a_) k_))
                     have h2 : sk t L a_ ≤ (itP t L (sk t L a_) k_) := by
                       unfold itP
                       split
                       · have := @sk_ge t L (sk t L a_ + 3); omega
                       · exact Nat.le_refl _
                     omega)
            · rw [b32_n, decide_eq_true_eq] at hb89
              have hb89 := want_1 (by decide) hb89
              have hI86 := want_f hW86 hb89
              subst hI86
              refine r_aload_n C 2 (dk oX10_takeItem 49 rfl) rfl ?_
              refine r_dup C (dk oX10_takeItem 50 rfl) rfl ?_
              refine r_getI C (dk oX10_takeItem 51 rfl) fl_X10_228 rfl (km hn rfl) ?_
              rw [h37n]
              refine r_iconst C (dk oX10_takeItem 52 rfl) (v := nI 1) (by decide) ?_
              refine r_iload C 0 (dk oX10_takeItem 53 rfl) rfl ?_
              refine r_ishl C (dk oX10_takeItem 54 rfl) ?_
              refine r_ior C (dk oX10_takeItem 55 rfl) ?_
              rw [or_bit (by omega)]
              refine r_putI C (dk oX10_takeItem 56 rfl) fl_X10_228 ft_10_37 rfl (km hn rfl) ?_
              refine r_aload_n C 2 (dk oX10_takeItem 57 rfl) rfl ?_
              refine r_getR C (dk oX10_takeItem 58 rfl) fl_X10_32 rfl (km hn rfl) ?_
              refine r_bipush C (dk oX10_takeItem 59 rfl) (v := nI 12) (by decide) ?_
              refine r_iload_n C 4 (dk oX10_takeItem 60 rfl) rfl ?_
              refine r_imul C (dk oX10_takeItem 61 rfl) ?_
              rw [pk_mul]
              refine r_iload C 0 (dk oX10_takeItem 62 rfl) rfl ?_
              refine r_iadd C (dk oX10_takeItem 63 rfl) ?_
              rw [nI_add]
              refine r_iload_n C 1 (dk oX10_takeItem 64 rfl) rfl ?_
              refine r_iast C _ (dk oX10_takeItem 65 rfl) rfl (km hn rfl) rfl (by omega) (by decide) ?_
              refine hret (dk oX10_takeItem 66 rfl) ?_
              first
                | exact ⟨rfl, hfb.P.tr hnf.P, Or.inl ⟨(nmF t L (itP t L (sk t L a_) k_) 0 11), _, ks, k_, ac, Nat.pos_of_ne_zero hz38, by have := @nmF_lt t L (itP t L (sk t L a_) k_) 0 11; omega, hn1, by rw [hn2, if_neg hz38], rchP.one (pS_num hz38)⟩⟩
                | exact ⟨rfl, (hXn.up 29 _ (by decide)).up 30 _ (by decide), Or.inl ⟨4, _, ks, k_, ac, by decide, by decide, by rw [up2_off (by decide), up2_at], up2_at, rchP.one (pS_4 hz38 hb67)⟩⟩
                | exact ⟨rfl, (hXn.up 29 _ (by decide)).up 30 _ (by decide), Or.inl ⟨5, _, ks, k_, ac, by decide, by decide, by rw [up2_off (by decide), up2_at], up2_at, rchP.one (pS_5 hz38 hb67 (nbf hb89))⟩⟩
                | (refine ⟨rfl, (hXn.up 37 _ (by decide)).ua hv12, Or.inr ⟨nE t L (itP t L (sk t L a_) k_), (fun f => if f = (nmV t L (itP t L (sk t L a_) k_)) then (itA t L (sk t L a_) k_) else ac f), ⟨?_, ?_, nE_le (by rw [← hsab]; exact sk_le habL), ?_, ?_, ?_, hks, ?_, fun f hf => ?_, fun f => ?_⟩, rchP.one (pS_ok hz38 hb67 hb89), ?_⟩⟩
                   · exact hT.of (by rw [up2_ne (by decide), up2_off (by decide)]; exact hXn.2.1 25 (by decide) (by decide) (by decide) (by decide) (by decide) (by decide) (by decide)) (by rw [up2_ne (by decide), up2_ne (by decide)]; exact hXn.1 141 (by decide) (by decide))
                   · rw [up2_ne (by decide), up2_off (by decide)]; exact h26v
                   · rw [up2_ne (by decide), up2_off (by decide), hn1, hz38]
                   · rw [up2_ne (by decide), up2_off (by decide), hn2, if_pos hz38]; exact (hfb.2 30 (by decide) (by decide) (by decide)).trans h30
                   · rw [up2_ne (by decide), up2_off (by decide)]; exact (hnf.2 36 (by decide) (by decide) (by decide) (by decide)).trans ((hfb.2 36 (by decide) (by decide) (by decide)).trans h36)
                   · rw [up2_ne (by decide), up2_at, bS_set 12 hv12]
                     refine congrArg nI (bS_cong 12 (fun f hf => ?_))
                     show (if f = (nmV t L (itP t L (sk t L a_) k_)) then true else decide (ac f ≠ 0)) = decide ((if f = (nmV t L (itP t L (sk t L a_) k_)) then (itA t L (sk t L a_) k_) else ac f) ≠ 0)
                     by_cases e : f = (nmV t L (itP t L (sk t L a_) k_))
                     · rw [if_pos e, if_pos e, decide_eq_true (Nat.ne_of_gt (itA_pos hk.1))]
                     · rw [if_neg e, if_neg e]
                   · show _ = nI (if f = (nmV t L (itP t L (sk t L a_) k_)) then (itA t L (sk t L a_) k_) else ac f)
                     by_cases e : f = (nmV t L (itP t L (sk t L a_) k_))
                     · rw [if_pos e, e, up2_at]
                     · rw [if_neg e, up2_off (by omega), up2_ne (by decide), (hnf.1 125 (by decide)), (hfb.1 125 (by decide))]
                       exact hac f hf
                   · show (if f = (nmV t L (itP t L (sk t L a_) k_)) then (itA t L (sk t L a_) k_) else ac f) ≤ 6
                     split
                     · exact itA_le hk.2
                     · exact hac6 f
                   · have h1 := @sk_ge t L (nE t L (itP t L (sk t L a_) k_))
                     have h2 : sk t L a_ ≤ (itP t L (sk t L a_) k_) := by
                       unfold itP
                       split
                       · have := @sk_ge t L (sk t L a_ + 3); omega
                       · exact Nat.le_refl _
                     omega)
        · rw [b32_0, seen_b hv12, decide_eq_false_iff_not] at hb51
          refine r_iconst C (dk oX10_takeItem 28 rfl) (v := nI 1) (by decide) ?_
          refine r_topI (show nI 1 = b32 (decide (ac (nmV t L (itP t L (sk t L a_) k_)) = 0)) from b32_dt (Classical.not_not.mp hb51)) ?_
          refine r_goto (tgt := 59) C (dk oX10_takeItem 29 rfl) (by decide) ?_
          refine r_iconst C (dk oX10_takeItem 31 rfl) (v := nI 4) (by decide) ?_
          refine r_aload_n C 2 (dk oX10_takeItem 32 rfl) rfl ?_
          refine r_getI C (dk oX10_takeItem 33 rfl) fl_X10_152 rfl (km hn rfl) ?_
          rw [hn3]
          refine r_ivi C Z (dk oX10_takeItem 34 rfl) cl_X10_173 ci_X10_want rfl (km hn rfl) (c_X10_want hn I29 J (decide (ac (nmV t L (itP t L (sk t L a_) k_)) = 0)) (nI 4) (nI (itP t L (sk t L a_) k_)) (nI 0) (hn1.trans (by rw [hz38]))) rfl rfl (Nat.le_of_ble_eq_true rfl) ⟨Nat.le_of_ble_eq_true rfl, Nat.le_of_ble_eq_true rfl⟩ ⟨Nat.zero_le _, Nat.zero_le _⟩ (fun r64 I64 J64 h64 => ?_)
          obtain ⟨e1_, hW64, e2_⟩ := h64
          have e1_ := e1_.symm
          have e2_ := e2_.symm
          subst e1_
          subst e2_
          refine r_if_eq (tgt := 118) C (dk oX10_takeItem 35 rfl) (by decide) (fun hb67 => ?_) (fun hb67 => ?_)
          · rw [b32_0, decide_eq_false_iff_not] at hb67
            have hb67 := want_0 hb67
            have hI64 := want_t hW64 hb67
            subst hI64
            refine hret (dk oX10_takeItem 66 rfl) ?_
            first
              | exact ⟨rfl, hfb.P.tr hnf.P, Or.inl ⟨(nmF t L (itP t L (sk t L a_) k_) 0 11), _, ks, k_, ac, Nat.pos_of_ne_zero hz38, by have := @nmF_lt t L (itP t L (sk t L a_) k_) 0 11; omega, hn1, by rw [hn2, if_neg hz38], rchP.one (pS_num hz38)⟩⟩
              | exact ⟨rfl, (hXn.up 29 _ (by decide)).up 30 _ (by decide), Or.inl ⟨4, _, ks, k_, ac, by decide, by decide, by rw [up2_off (by decide), up2_at], up2_at, rchP.one (pS_4 hz38 hb67)⟩⟩
              | exact ⟨rfl, (hXn.up 29 _ (by decide)).up 30 _ (by decide), Or.inl ⟨5, _, ks, k_, ac, by decide, by decide, by rw [up2_off (by decide), up2_at], up2_at, rchP.one (pS_5 hz38 hb67 (nbf hb89))⟩⟩
              | (refine ⟨rfl, (hXn.up 37 _ (by decide)).ua hv12, Or.inr ⟨nE t L (itP t L (sk t L a_) k_), (fun f => if f = (nmV t L (itP t L (sk t L a_) k_)) then (itA t L (sk t L a_) k_) else ac f), ⟨?_, ?_, nE_le (by rw [← hsab]; exact sk_le habL), ?_, ?_, ?_, hks, ?_, fun f hf => ?_, fun f => ?_⟩, rchP.one (pS_ok hz38 hb67 hb89), ?_⟩⟩
                 · exact hT.of (by rw [up2_ne (by decide), up2_off (by decide)]; exact hXn.2.1 25 (by decide) (by decide) (by decide) (by decide) (by decide) (by decide) (by decide)) (by rw [up2_ne (by decide), up2_ne (by decide)]; exact hXn.1 141 (by decide) (by decide))
                 · rw [up2_ne (by decide), up2_off (by decide)]; exact h26v
                 · rw [up2_ne (by decide), up2_off (by decide), hn1, hz38]
                 · rw [up2_ne (by decide), up2_off (by decide), hn2, if_pos hz38]; exact (hfb.2 30 (by decide) (by decide) (by decide)).trans h30
                 · rw [up2_ne (by decide), up2_off (by decide)]; exact (hnf.2 36 (by decide) (by decide) (by decide) (by decide)).trans ((hfb.2 36 (by decide) (by decide) (by decide)).trans h36)
                 · rw [up2_ne (by decide), up2_at, bS_set 12 hv12]
                   refine congrArg nI (bS_cong 12 (fun f hf => ?_))
                   show (if f = (nmV t L (itP t L (sk t L a_) k_)) then true else decide (ac f ≠ 0)) = decide ((if f = (nmV t L (itP t L (sk t L a_) k_)) then (itA t L (sk t L a_) k_) else ac f) ≠ 0)
                   by_cases e : f = (nmV t L (itP t L (sk t L a_) k_))
                   · rw [if_pos e, if_pos e, decide_eq_true (Nat.ne_of_gt (itA_pos hk.1))]
                   · rw [if_neg e, if_neg e]
                 · show _ = nI (if f = (nmV t L (itP t L (sk t L a_) k_)) then (itA t L (sk t L a_) k_) else ac f)
                   by_cases e : f = (nmV t L (itP t L (sk t L a_) k_))
                   · rw [if_pos e, e, up2_at]
                   · rw [if_neg e, up2_off (by omega), up2_ne (by decide), (hnf.1 125 (by decide)), (hfb.1 125 (by decide))]
                     exact hac f hf
                 · show (if f = (nmV t L (itP t L (sk t L a_) k_)) then (itA t L (sk t L a_) k_) else ac f) ≤ 6
                   split
                   · exact itA_le hk.2
                   · exact hac6 f
                 · have h1 := @sk_ge t L (nE t L (itP t L (sk t L a_) k_))
                   have h2 : sk t L a_ ≤ (itP t L (sk t L a_) k_) := by
                     unfold itP
                     split
                     · have := @sk_ge t L (sk t L a_ + 3); omega
                     · exact Nat.le_refl _
                   omega)
          · rw [b32_n, decide_eq_true_eq] at hb67
            have hb67 := want_1 (by decide) hb67
            have hI64 := want_f hW64 hb67
            subst hI64
            refine r_aload_n C 2 (dk oX10_takeItem 36 rfl) rfl ?_
            refine r_aload_n C 2 (dk oX10_takeItem 37 rfl) rfl ?_
            refine r_iload_n C 1 (dk oX10_takeItem 38 rfl) rfl ?_
            refine r_iload C 0 (dk oX10_takeItem 39 rfl) rfl ?_
            refine r_iload_n C 4 (dk oX10_takeItem 40 rfl) rfl ?_
            refine r_iconst C (dk oX10_takeItem 41 rfl) (v := nI 2) (by decide) ?_
            refine r_irem C (dk oX10_takeItem 42 rfl) (by decide) ?_
            rw [mod2 (by omega)]
            refine r_ivi C Z (dk oX10_takeItem 43 rfl) cl_X10_117 ci_X10_mayBe rfl (km hn rfl) (c_X10_mayBe hn I64 J (nmV t L (itP t L (sk t L a_) k_)) (itA t L (sk t L a_) k_) p_ hv12 ⟨itA_pos hk.1, itA_le hk.2⟩ (by
    have hMn := hM.P hXn
    have h := hok (nmV t L (itP t L (sk t L a_) k_)) hv12
    unfold fsOK at h ⊢
    rw [show (fun i => I64 (134 + 1 + i) (nmV t L (itP t L (sk t L a_) k_))) 0 = Φ (nmV t L (itP t L (sk t L a_) k_)) 0 from hMn _ hv12 0 (by decide), show (fun i => I64 (134 + 1 + i) (nmV t L (itP t L (sk t L a_) k_))) 1 = Φ (nmV t L (itP t L (sk t L a_) k_)) 1 from hMn _ hv12 1 (by decide), show (fun i => I64 (134 + 1 + i) (nmV t L (itP t L (sk t L a_) k_))) 2 = Φ (nmV t L (itP t L (sk t L a_) k_)) 2 from hMn _ hv12 2 (by decide)]
    exact h)) rfl rfl (Nat.le_of_ble_eq_true rfl) ⟨Nat.le_of_ble_eq_true rfl, Nat.le_of_ble_eq_true rfl⟩ ⟨Nat.zero_le _, Nat.zero_le _⟩ (fun r78 I78 J78 h78 => ?_)
            obtain ⟨h78, e1_, e2_⟩ := h78
            have e1_ := e1_.symm
            have e2_ := e2_.symm
            subst e1_
            subst e2_
            subst h78
            have hMn := hM.P hXn
            rw [alw_cong (φ := fun i => I64 (134 + 1 + i) (nmV t L (itP t L (sk t L a_) k_))) (ψ := Φ (nmV t L (itP t L (sk t L a_) k_))) (hMn _ hv12 0 (by decide)) (hMn _ hv12 2 (by decide))]
            refine r_topI (show b32 (alw (itA t L (sk t L a_) k_) p_ (Φ (nmV t L (itP t L (sk t L a_) k_)))) = b32 (decide (alw (itA t L (sk t L a_) k_) p_ (Φ (nmV t L (itP t L (sk t L a_) k_))) = true)) from by cases alw (itA t L (sk t L a_) k_) p_ (Φ (nmV t L (itP t L (sk t L a_) k_))) <;> rfl) ?_
            refine r_iconst C (dk oX10_takeItem 44 rfl) (v := nI 5) (by decide) ?_
            refine r_aload_n C 2 (dk oX10_takeItem 45 rfl) rfl ?_
            refine r_getI C (dk oX10_takeItem 46 rfl) fl_X10_152 rfl (km hn rfl) ?_
            rw [hn3]
            refine r_ivi C Z (dk oX10_takeItem 47 rfl) cl_X10_173 ci_X10_want rfl (km hn rfl) (c_X10_want hn I64 J (decide (alw (itA t L (sk t L a_) k_) p_ (Φ (nmV t L (itP t L (sk t L a_) k_))) = true)) (nI 5) (nI (itP t L (sk t L a_) k_)) (nI 0) (hn1.trans (by rw [hz38]))) rfl rfl (Nat.le_of_ble_eq_true rfl) ⟨Nat.le_of_ble_eq_true rfl, Nat.le_of_ble_eq_true rfl⟩ ⟨Nat.zero_le _, Nat.zero_le _⟩ (fun r86 I86 J86 h86 => ?_)
            obtain ⟨e1_, hW86, e2_⟩ := h86
            have e1_ := e1_.symm
            have e2_ := e2_.symm
            subst e1_
            subst e2_
            refine r_if_eq (tgt := 118) C (dk oX10_takeItem 48 rfl) (by decide) (fun hb89 => ?_) (fun hb89 => ?_)
            · rw [b32_0, decide_eq_false_iff_not] at hb89
              have hb89 := want_0 hb89
              have hI86 := want_t hW86 hb89
              subst hI86
              refine hret (dk oX10_takeItem 66 rfl) ?_
              first
                | exact ⟨rfl, hfb.P.tr hnf.P, Or.inl ⟨(nmF t L (itP t L (sk t L a_) k_) 0 11), _, ks, k_, ac, Nat.pos_of_ne_zero hz38, by have := @nmF_lt t L (itP t L (sk t L a_) k_) 0 11; omega, hn1, by rw [hn2, if_neg hz38], rchP.one (pS_num hz38)⟩⟩
                | exact ⟨rfl, (hXn.up 29 _ (by decide)).up 30 _ (by decide), Or.inl ⟨4, _, ks, k_, ac, by decide, by decide, by rw [up2_off (by decide), up2_at], up2_at, rchP.one (pS_4 hz38 hb67)⟩⟩
                | exact ⟨rfl, (hXn.up 29 _ (by decide)).up 30 _ (by decide), Or.inl ⟨5, _, ks, k_, ac, by decide, by decide, by rw [up2_off (by decide), up2_at], up2_at, rchP.one (pS_5 hz38 hb67 (nbf hb89))⟩⟩
                | (refine ⟨rfl, (hXn.up 37 _ (by decide)).ua hv12, Or.inr ⟨nE t L (itP t L (sk t L a_) k_), (fun f => if f = (nmV t L (itP t L (sk t L a_) k_)) then (itA t L (sk t L a_) k_) else ac f), ⟨?_, ?_, nE_le (by rw [← hsab]; exact sk_le habL), ?_, ?_, ?_, hks, ?_, fun f hf => ?_, fun f => ?_⟩, rchP.one (pS_ok hz38 hb67 hb89), ?_⟩⟩
                   · exact hT.of (by rw [up2_ne (by decide), up2_off (by decide)]; exact hXn.2.1 25 (by decide) (by decide) (by decide) (by decide) (by decide) (by decide) (by decide)) (by rw [up2_ne (by decide), up2_ne (by decide)]; exact hXn.1 141 (by decide) (by decide))
                   · rw [up2_ne (by decide), up2_off (by decide)]; exact h26v
                   · rw [up2_ne (by decide), up2_off (by decide), hn1, hz38]
                   · rw [up2_ne (by decide), up2_off (by decide), hn2, if_pos hz38]; exact (hfb.2 30 (by decide) (by decide) (by decide)).trans h30
                   · rw [up2_ne (by decide), up2_off (by decide)]; exact (hnf.2 36 (by decide) (by decide) (by decide) (by decide)).trans ((hfb.2 36 (by decide) (by decide) (by decide)).trans h36)
                   · rw [up2_ne (by decide), up2_at, bS_set 12 hv12]
                     refine congrArg nI (bS_cong 12 (fun f hf => ?_))
                     show (if f = (nmV t L (itP t L (sk t L a_) k_)) then true else decide (ac f ≠ 0)) = decide ((if f = (nmV t L (itP t L (sk t L a_) k_)) then (itA t L (sk t L a_) k_) else ac f) ≠ 0)
                     by_cases e : f = (nmV t L (itP t L (sk t L a_) k_))
                     · rw [if_pos e, if_pos e, decide_eq_true (Nat.ne_of_gt (itA_pos hk.1))]
                     · rw [if_neg e, if_neg e]
                   · show _ = nI (if f = (nmV t L (itP t L (sk t L a_) k_)) then (itA t L (sk t L a_) k_) else ac f)
                     by_cases e : f = (nmV t L (itP t L (sk t L a_) k_))
                     · rw [if_pos e, e, up2_at]
                     · rw [if_neg e, up2_off (by omega), up2_ne (by decide), (hnf.1 125 (by decide)), (hfb.1 125 (by decide))]
                       exact hac f hf
                   · show (if f = (nmV t L (itP t L (sk t L a_) k_)) then (itA t L (sk t L a_) k_) else ac f) ≤ 6
                     split
                     · exact itA_le hk.2
                     · exact hac6 f
                   · have h1 := @sk_ge t L (nE t L (itP t L (sk t L a_) k_))
                     have h2 : sk t L a_ ≤ (itP t L (sk t L a_) k_) := by
                       unfold itP
                       split
                       · have := @sk_ge t L (sk t L a_ + 3); omega
                       · exact Nat.le_refl _
                     omega)
            · rw [b32_n, decide_eq_true_eq] at hb89
              have hb89 := want_1 (by decide) hb89
              have hI86 := want_f hW86 hb89
              subst hI86
              refine r_aload_n C 2 (dk oX10_takeItem 49 rfl) rfl ?_
              refine r_dup C (dk oX10_takeItem 50 rfl) rfl ?_
              refine r_getI C (dk oX10_takeItem 51 rfl) fl_X10_228 rfl (km hn rfl) ?_
              rw [h37n]
              refine r_iconst C (dk oX10_takeItem 52 rfl) (v := nI 1) (by decide) ?_
              refine r_iload C 0 (dk oX10_takeItem 53 rfl) rfl ?_
              refine r_ishl C (dk oX10_takeItem 54 rfl) ?_
              refine r_ior C (dk oX10_takeItem 55 rfl) ?_
              rw [or_bit (by omega)]
              refine r_putI C (dk oX10_takeItem 56 rfl) fl_X10_228 ft_10_37 rfl (km hn rfl) ?_
              refine r_aload_n C 2 (dk oX10_takeItem 57 rfl) rfl ?_
              refine r_getR C (dk oX10_takeItem 58 rfl) fl_X10_32 rfl (km hn rfl) ?_
              refine r_bipush C (dk oX10_takeItem 59 rfl) (v := nI 12) (by decide) ?_
              refine r_iload_n C 4 (dk oX10_takeItem 60 rfl) rfl ?_
              refine r_imul C (dk oX10_takeItem 61 rfl) ?_
              rw [pk_mul]
              refine r_iload C 0 (dk oX10_takeItem 62 rfl) rfl ?_
              refine r_iadd C (dk oX10_takeItem 63 rfl) ?_
              rw [nI_add]
              refine r_iload_n C 1 (dk oX10_takeItem 64 rfl) rfl ?_
              refine r_iast C _ (dk oX10_takeItem 65 rfl) rfl (km hn rfl) rfl (by omega) (by decide) ?_
              refine hret (dk oX10_takeItem 66 rfl) ?_
              first
                | exact ⟨rfl, hfb.P.tr hnf.P, Or.inl ⟨(nmF t L (itP t L (sk t L a_) k_) 0 11), _, ks, k_, ac, Nat.pos_of_ne_zero hz38, by have := @nmF_lt t L (itP t L (sk t L a_) k_) 0 11; omega, hn1, by rw [hn2, if_neg hz38], rchP.one (pS_num hz38)⟩⟩
                | exact ⟨rfl, (hXn.up 29 _ (by decide)).up 30 _ (by decide), Or.inl ⟨4, _, ks, k_, ac, by decide, by decide, by rw [up2_off (by decide), up2_at], up2_at, rchP.one (pS_4 hz38 hb67)⟩⟩
                | exact ⟨rfl, (hXn.up 29 _ (by decide)).up 30 _ (by decide), Or.inl ⟨5, _, ks, k_, ac, by decide, by decide, by rw [up2_off (by decide), up2_at], up2_at, rchP.one (pS_5 hz38 hb67 (nbf hb89))⟩⟩
                | (refine ⟨rfl, (hXn.up 37 _ (by decide)).ua hv12, Or.inr ⟨nE t L (itP t L (sk t L a_) k_), (fun f => if f = (nmV t L (itP t L (sk t L a_) k_)) then (itA t L (sk t L a_) k_) else ac f), ⟨?_, ?_, nE_le (by rw [← hsab]; exact sk_le habL), ?_, ?_, ?_, hks, ?_, fun f hf => ?_, fun f => ?_⟩, rchP.one (pS_ok hz38 hb67 hb89), ?_⟩⟩
                   · exact hT.of (by rw [up2_ne (by decide), up2_off (by decide)]; exact hXn.2.1 25 (by decide) (by decide) (by decide) (by decide) (by decide) (by decide) (by decide)) (by rw [up2_ne (by decide), up2_ne (by decide)]; exact hXn.1 141 (by decide) (by decide))
                   · rw [up2_ne (by decide), up2_off (by decide)]; exact h26v
                   · rw [up2_ne (by decide), up2_off (by decide), hn1, hz38]
                   · rw [up2_ne (by decide), up2_off (by decide), hn2, if_pos hz38]; exact (hfb.2 30 (by decide) (by decide) (by decide)).trans h30
                   · rw [up2_ne (by decide), up2_off (by decide)]; exact (hnf.2 36 (by decide) (by decide) (by decide) (by decide)).trans ((hfb.2 36 (by decide) (by decide) (by decide)).trans h36)
                   · rw [up2_ne (by decide), up2_at, bS_set 12 hv12]
                     refine congrArg nI (bS_cong 12 (fun f hf => ?_))
                     show (if f = (nmV t L (itP t L (sk t L a_) k_)) then true else decide (ac f ≠ 0)) = decide ((if f = (nmV t L (itP t L (sk t L a_) k_)) then (itA t L (sk t L a_) k_) else ac f) ≠ 0)
                     by_cases e : f = (nmV t L (itP t L (sk t L a_) k_))
                     · rw [if_pos e, if_pos e, decide_eq_true (Nat.ne_of_gt (itA_pos hk.1))]
                     · rw [if_neg e, if_neg e]
                   · show _ = nI (if f = (nmV t L (itP t L (sk t L a_) k_)) then (itA t L (sk t L a_) k_) else ac f)
                     by_cases e : f = (nmV t L (itP t L (sk t L a_) k_))
                     · rw [if_pos e, e, up2_at]
                     · rw [if_neg e, up2_off (by omega), up2_ne (by decide), (hnf.1 125 (by decide)), (hfb.1 125 (by decide))]
                       exact hac f hf
                   · show (if f = (nmV t L (itP t L (sk t L a_) k_)) then (itA t L (sk t L a_) k_) else ac f) ≤ 6
                     split
                     · exact itA_le hk.2
                     · exact hac6 f
                   · have h1 := @sk_ge t L (nE t L (itP t L (sk t L a_) k_))
                     have h2 : sk t L a_ ≤ (itP t L (sk t L a_) k_) := by
                       unfold itP
                       split
                       · have := @sk_ge t L (sk t L a_ + 3); omega
                       · exact Nat.le_refl _
                     omega)
    · rw [b32_n] at hb16
      refine r_iconst C (dk oX10_takeItem 10 rfl) (v := nI 2) (by decide) ?_
      refine r_goto (tgt := 24) C (dk oX10_takeItem 11 rfl) (by decide) ?_
      obtain ⟨Ib, ab, hIb, hfb, h26b, habL, hsab, hst⟩ : ∃ Ib ab, Ib = I13 ∧ tkF I Ib ∧ Ib 117 26 = nI ab ∧ ab ≤ L ∧ sk t L ab = (itP t L (sk t L a_) k_) ∧ nI (itA t L (sk t L a_) k_) = nI 2 := ⟨I13, sk t L a_ + 3, rfl, hfn, by rw [h26n, hb16, if_pos rfl], isW_lt (w := wNot) hsL hb16, by unfold itP; rw [if_pos ⟨hb2, hb16⟩], by unfold itA; rw [if_pos ⟨hb2, hb16⟩]⟩
      rw [← hIb]
      clear hIb
      refine r_topI hst.symm ?_
      refine r_istore_n (lo' := [(3, _), (0, _), (1, _), (2, _)]) C (dk oX10_takeItem 13 rfl) rfl (by decide) rfl ?_
      refine r_aload_n C 1 (dk oX10_takeItem 14 rfl) rfl ?_
      refine r_iconst C (dk oX10_takeItem 15 rfl) (v := nI 0) (by decide) ?_
      refine r_bipush C (dk oX10_takeItem 16 rfl) (v := nI 11) (by decide) ?_
      refine r_ivi C Z (dk oX10_takeItem 17 rfl) cl_X10_204 ci_X10_takeNumber rfl (km hn rfl) (c_X10_takeNumber hn Ib J t L (hT.tk hfb) ab h26b habL ((hfb.2 29 (by decide) (by decide) (by decide)).trans h29) 0 11 (by decide) (by decide)) rfl rfl (Nat.le_of_ble_eq_true rfl) ⟨Nat.le_of_ble_eq_true rfl, Nat.le_of_ble_eq_true rfl⟩ ⟨Nat.zero_le _, Nat.zero_le _⟩ (fun r29 I29 J29 h29 => ?_)
      obtain ⟨hn1, hn2, hn3, hn4, hn5, hnf, e2_⟩ := h29
      rw [hsab] at hn1 hn2 hn3 hn4
      have e2_ := e2_.symm
      subst e2_
      refine r_istore (lo' := [(4, _), (3, _), (0, _), (1, _), (2, _)]) C (dk oX10_takeItem 18 rfl) (by decide) rfl ?_
      refine r_aload_n C 2 (dk oX10_takeItem 19 rfl) rfl ?_
      refine r_getI C (dk oX10_takeItem 20 rfl) fl_X10_145 rfl (km hn rfl) ?_
      rw [hn1]
      refine r_if_ne (tgt := 118) C (dk oX10_takeItem 21 rfl) (by decide) (fun hb38 => ?_) (fun hb38 => ?_)
      · have hz38 : ¬ (nmF t L (itP t L (sk t L a_) k_) 0 11) = 0 := by
          have := @nmF_lt t L (itP t L (sk t L a_) k_) 0 11
          rw [nI_eq0 (by omega)] at hb38
          exact hb38
        refine hret (dk oX10_takeItem 66 rfl) ?_
        first
          | exact ⟨rfl, hfb.P.tr hnf.P, Or.inl ⟨(nmF t L (itP t L (sk t L a_) k_) 0 11), _, ks, k_, ac, Nat.pos_of_ne_zero hz38, by have := @nmF_lt t L (itP t L (sk t L a_) k_) 0 11; omega, hn1, by rw [hn2, if_neg hz38], rchP.one (pS_num hz38)⟩⟩
          | exact ⟨rfl, (hXn.up 29 _ (by decide)).up 30 _ (by decide), Or.inl ⟨4, _, ks, k_, ac, by decide, by decide, by rw [up2_off (by decide), up2_at], up2_at, rchP.one (pS_4 hz38 hb67)⟩⟩
          | exact ⟨rfl, (hXn.up 29 _ (by decide)).up 30 _ (by decide), Or.inl ⟨5, _, ks, k_, ac, by decide, by decide, by rw [up2_off (by decide), up2_at], up2_at, rchP.one (pS_5 hz38 hb67 (nbf hb89))⟩⟩
          | (refine ⟨rfl, (hXn.up 37 _ (by decide)).ua hv12, Or.inr ⟨nE t L (itP t L (sk t L a_) k_), (fun f => if f = (nmV t L (itP t L (sk t L a_) k_)) then (itA t L (sk t L a_) k_) else ac f), ⟨?_, ?_, nE_le (by rw [← hsab]; exact sk_le habL), ?_, ?_, ?_, hks, ?_, fun f hf => ?_, fun f => ?_⟩, rchP.one (pS_ok hz38 hb67 hb89), ?_⟩⟩
             · exact hT.of (by rw [up2_ne (by decide), up2_off (by decide)]; exact hXn.2.1 25 (by decide) (by decide) (by decide) (by decide) (by decide) (by decide) (by decide)) (by rw [up2_ne (by decide), up2_ne (by decide)]; exact hXn.1 141 (by decide) (by decide))
             · rw [up2_ne (by decide), up2_off (by decide)]; exact h26v
             · rw [up2_ne (by decide), up2_off (by decide), hn1, hz38]
             · rw [up2_ne (by decide), up2_off (by decide), hn2, if_pos hz38]; exact (hfb.2 30 (by decide) (by decide) (by decide)).trans h30
             · rw [up2_ne (by decide), up2_off (by decide)]; exact (hnf.2 36 (by decide) (by decide) (by decide) (by decide)).trans ((hfb.2 36 (by decide) (by decide) (by decide)).trans h36)
             · rw [up2_ne (by decide), up2_at, bS_set 12 hv12]
               refine congrArg nI (bS_cong 12 (fun f hf => ?_))
               show (if f = (nmV t L (itP t L (sk t L a_) k_)) then true else decide (ac f ≠ 0)) = decide ((if f = (nmV t L (itP t L (sk t L a_) k_)) then (itA t L (sk t L a_) k_) else ac f) ≠ 0)
               by_cases e : f = (nmV t L (itP t L (sk t L a_) k_))
               · rw [if_pos e, if_pos e, decide_eq_true (Nat.ne_of_gt (itA_pos hk.1))]
               · rw [if_neg e, if_neg e]
             · show _ = nI (if f = (nmV t L (itP t L (sk t L a_) k_)) then (itA t L (sk t L a_) k_) else ac f)
               by_cases e : f = (nmV t L (itP t L (sk t L a_) k_))
               · rw [if_pos e, e, up2_at]
               · rw [if_neg e, up2_off (by omega), up2_ne (by decide), (hnf.1 125 (by decide)), (hfb.1 125 (by decide))]
                 exact hac f hf
             · show (if f = (nmV t L (itP t L (sk t L a_) k_)) then (itA t L (sk t L a_) k_) else ac f) ≤ 6
               split
               · exact itA_le hk.2
               · exact hac6 f
             · have h1 := @sk_ge t L (nE t L (itP t L (sk t L a_) k_))
               have h2 : sk t L a_ ≤ (itP t L (sk t L a_) k_) := by
                 unfold itP
                 split
                 · have := @sk_ge t L (sk t L a_ + 3); omega
                 · exact Nat.le_refl _
               omega)
      · have hz38 : (nmF t L (itP t L (sk t L a_) k_) 0 11) = 0 := by
          have := @nmF_lt t L (itP t L (sk t L a_) k_) 0 11
          rw [nI_eq0 (by omega)] at hb38
          exact hb38
        obtain ⟨hrv, h26v⟩ := hn4 hz38
        have hrv := hrv.symm
        subst hrv
        obtain ⟨hfg1, hfg2, hfg3, hfg4, _⟩ := nmF_fig hz38
        have hv12 : (nmV t L (itP t L (sk t L a_) k_)) < 12 := by omega
        have hac6v := hac6 (nmV t L (itP t L (sk t L a_) k_))
        have hbs := @bS_lt (fun f => decide (ac f ≠ 0)) 12
        have hXn : mPX p_ I I29 := (hfb.P).tr hnf.P
        have h37n : I29 117 37 = nI (bS (fun f => decide (ac f ≠ 0)) 12) := (hnf.2 37 (by decide) (by decide) (by decide) (by decide)).trans ((hfb.2 37 (by decide) (by decide) (by decide)).trans h37)
        refine r_aload_n C 2 (dk oX10_takeItem 22 rfl) rfl ?_
        refine r_aload_n C 2 (dk oX10_takeItem 23 rfl) rfl ?_
        refine r_getI C (dk oX10_takeItem 24 rfl) fl_X10_228 rfl (km hn rfl) ?_
        rw [h37n]
        refine r_iload C 0 (dk oX10_takeItem 25 rfl) rfl ?_
        refine r_isi C Z (dk oX10_takeItem 26 rfl) cl_X10_231 st_X10_has (c_X10_has I29 J (bS (fun f => decide (ac f ≠ 0)) 12) ((nmV t L (itP t L (sk t L a_) k_))) (by omega) (by omega)) rfl rfl (Nat.le_of_ble_eq_true rfl) ⟨Nat.le_of_ble_eq_true rfl, Nat.le_of_ble_eq_true rfl⟩ ⟨Nat.zero_le _, Nat.zero_le _⟩ (fun r48 I48 J48 h48 => ?_)
        obtain ⟨h48, e1_, e2_⟩ := h48
        have e1_ := e1_.symm
        have e2_ := e2_.symm
        subst e1_
        subst e2_
        subst h48
        refine r_if_ne (tgt := 58) C (dk oX10_takeItem 27 rfl) (by decide) (fun hb51 => ?_) (fun hb51 => ?_)
        · rw [b32_n, seen_b hv12, decide_eq_true_eq] at hb51
          refine r_iconst C (dk oX10_takeItem 30 rfl) (v := nI 0) (by decide) ?_
          refine r_topI (show nI 0 = b32 (decide (ac (nmV t L (itP t L (sk t L a_) k_)) = 0)) from b32_df hb51) ?_
          refine r_iconst C (dk oX10_takeItem 31 rfl) (v := nI 4) (by decide) ?_
          refine r_aload_n C 2 (dk oX10_takeItem 32 rfl) rfl ?_
          refine r_getI C (dk oX10_takeItem 33 rfl) fl_X10_152 rfl (km hn rfl) ?_
          rw [hn3]
          refine r_ivi C Z (dk oX10_takeItem 34 rfl) cl_X10_173 ci_X10_want rfl (km hn rfl) (c_X10_want hn I29 J (decide (ac (nmV t L (itP t L (sk t L a_) k_)) = 0)) (nI 4) (nI (itP t L (sk t L a_) k_)) (nI 0) (hn1.trans (by rw [hz38]))) rfl rfl (Nat.le_of_ble_eq_true rfl) ⟨Nat.le_of_ble_eq_true rfl, Nat.le_of_ble_eq_true rfl⟩ ⟨Nat.zero_le _, Nat.zero_le _⟩ (fun r64 I64 J64 h64 => ?_)
          obtain ⟨e1_, hW64, e2_⟩ := h64
          have e1_ := e1_.symm
          have e2_ := e2_.symm
          subst e1_
          subst e2_
          refine r_if_eq (tgt := 118) C (dk oX10_takeItem 35 rfl) (by decide) (fun hb67 => ?_) (fun hb67 => ?_)
          · rw [b32_0, decide_eq_false_iff_not] at hb67
            have hb67 := want_0 hb67
            have hI64 := want_t hW64 hb67
            subst hI64
            refine hret (dk oX10_takeItem 66 rfl) ?_
            first
              | exact ⟨rfl, hfb.P.tr hnf.P, Or.inl ⟨(nmF t L (itP t L (sk t L a_) k_) 0 11), _, ks, k_, ac, Nat.pos_of_ne_zero hz38, by have := @nmF_lt t L (itP t L (sk t L a_) k_) 0 11; omega, hn1, by rw [hn2, if_neg hz38], rchP.one (pS_num hz38)⟩⟩
              | exact ⟨rfl, (hXn.up 29 _ (by decide)).up 30 _ (by decide), Or.inl ⟨4, _, ks, k_, ac, by decide, by decide, by rw [up2_off (by decide), up2_at], up2_at, rchP.one (pS_4 hz38 hb67)⟩⟩
              | exact ⟨rfl, (hXn.up 29 _ (by decide)).up 30 _ (by decide), Or.inl ⟨5, _, ks, k_, ac, by decide, by decide, by rw [up2_off (by decide), up2_at], up2_at, rchP.one (pS_5 hz38 hb67 (nbf hb89))⟩⟩
              | (refine ⟨rfl, (hXn.up 37 _ (by decide)).ua hv12, Or.inr ⟨nE t L (itP t L (sk t L a_) k_), (fun f => if f = (nmV t L (itP t L (sk t L a_) k_)) then (itA t L (sk t L a_) k_) else ac f), ⟨?_, ?_, nE_le (by rw [← hsab]; exact sk_le habL), ?_, ?_, ?_, hks, ?_, fun f hf => ?_, fun f => ?_⟩, rchP.one (pS_ok hz38 hb67 hb89), ?_⟩⟩
                 · exact hT.of (by rw [up2_ne (by decide), up2_off (by decide)]; exact hXn.2.1 25 (by decide) (by decide) (by decide) (by decide) (by decide) (by decide) (by decide)) (by rw [up2_ne (by decide), up2_ne (by decide)]; exact hXn.1 141 (by decide) (by decide))
                 · rw [up2_ne (by decide), up2_off (by decide)]; exact h26v
                 · rw [up2_ne (by decide), up2_off (by decide), hn1, hz38]
                 · rw [up2_ne (by decide), up2_off (by decide), hn2, if_pos hz38]; exact (hfb.2 30 (by decide) (by decide) (by decide)).trans h30
                 · rw [up2_ne (by decide), up2_off (by decide)]; exact (hnf.2 36 (by decide) (by decide) (by decide) (by decide)).trans ((hfb.2 36 (by decide) (by decide) (by decide)).trans h36)
                 · rw [up2_ne (by decide), up2_at, bS_set 12 hv12]
                   refine congrArg nI (bS_cong 12 (fun f hf => ?_))
                   show (if f = (nmV t L (itP t L (sk t L a_) k_)) then true else decide (ac f ≠ 0)) = decide ((if f = (nmV t L (itP t L (sk t L a_) k_)) then (itA t L (sk t L a_) k_) else ac f) ≠ 0)
                   by_cases e : f = (nmV t L (itP t L (sk t L a_) k_))
                   · rw [if_pos e, if_pos e, decide_eq_true (Nat.ne_of_gt (itA_pos hk.1))]
                   · rw [if_neg e, if_neg e]
                 · show _ = nI (if f = (nmV t L (itP t L (sk t L a_) k_)) then (itA t L (sk t L a_) k_) else ac f)
                   by_cases e : f = (nmV t L (itP t L (sk t L a_) k_))
                   · rw [if_pos e, e, up2_at]
                   · rw [if_neg e, up2_off (by omega), up2_ne (by decide), (hnf.1 125 (by decide)), (hfb.1 125 (by decide))]
                     exact hac f hf
                 · show (if f = (nmV t L (itP t L (sk t L a_) k_)) then (itA t L (sk t L a_) k_) else ac f) ≤ 6
                   split
                   · exact itA_le hk.2
                   · exact hac6 f
                 · have h1 := @sk_ge t L (nE t L (itP t L (sk t L a_) k_))
                   have h2 : sk t L a_ ≤ (itP t L (sk t L a_) k_) := by
                     unfold itP
                     split
                     · have := @sk_ge t L (sk t L a_ + 3); omega
                     · exact Nat.le_refl _
                   omega)
          · rw [b32_n, decide_eq_true_eq] at hb67
            have hb67 := want_1 (by decide) hb67
            have hI64 := want_f hW64 hb67
            subst hI64
            refine r_aload_n C 2 (dk oX10_takeItem 36 rfl) rfl ?_
            refine r_aload_n C 2 (dk oX10_takeItem 37 rfl) rfl ?_
            refine r_iload_n C 1 (dk oX10_takeItem 38 rfl) rfl ?_
            refine r_iload C 0 (dk oX10_takeItem 39 rfl) rfl ?_
            refine r_iload_n C 4 (dk oX10_takeItem 40 rfl) rfl ?_
            refine r_iconst C (dk oX10_takeItem 41 rfl) (v := nI 2) (by decide) ?_
            refine r_irem C (dk oX10_takeItem 42 rfl) (by decide) ?_
            rw [mod2 (by omega)]
            refine r_ivi C Z (dk oX10_takeItem 43 rfl) cl_X10_117 ci_X10_mayBe rfl (km hn rfl) (c_X10_mayBe hn I64 J (nmV t L (itP t L (sk t L a_) k_)) (itA t L (sk t L a_) k_) p_ hv12 ⟨itA_pos hk.1, itA_le hk.2⟩ (by
    have hMn := hM.P hXn
    have h := hok (nmV t L (itP t L (sk t L a_) k_)) hv12
    unfold fsOK at h ⊢
    rw [show (fun i => I64 (134 + 1 + i) (nmV t L (itP t L (sk t L a_) k_))) 0 = Φ (nmV t L (itP t L (sk t L a_) k_)) 0 from hMn _ hv12 0 (by decide), show (fun i => I64 (134 + 1 + i) (nmV t L (itP t L (sk t L a_) k_))) 1 = Φ (nmV t L (itP t L (sk t L a_) k_)) 1 from hMn _ hv12 1 (by decide), show (fun i => I64 (134 + 1 + i) (nmV t L (itP t L (sk t L a_) k_))) 2 = Φ (nmV t L (itP t L (sk t L a_) k_)) 2 from hMn _ hv12 2 (by decide)]
    exact h)) rfl rfl (Nat.le_of_ble_eq_true rfl) ⟨Nat.le_of_ble_eq_true rfl, Nat.le_of_ble_eq_true rfl⟩ ⟨Nat.zero_le _, Nat.zero_le _⟩ (fun r78 I78 J78 h78 => ?_)
            obtain ⟨h78, e1_, e2_⟩ := h78
            have e1_ := e1_.symm
            have e2_ := e2_.symm
            subst e1_
            subst e2_
            subst h78
            have hMn := hM.P hXn
            rw [alw_cong (φ := fun i => I64 (134 + 1 + i) (nmV t L (itP t L (sk t L a_) k_))) (ψ := Φ (nmV t L (itP t L (sk t L a_) k_))) (hMn _ hv12 0 (by decide)) (hMn _ hv12 2 (by decide))]
            refine r_topI (show b32 (alw (itA t L (sk t L a_) k_) p_ (Φ (nmV t L (itP t L (sk t L a_) k_)))) = b32 (decide (alw (itA t L (sk t L a_) k_) p_ (Φ (nmV t L (itP t L (sk t L a_) k_))) = true)) from by cases alw (itA t L (sk t L a_) k_) p_ (Φ (nmV t L (itP t L (sk t L a_) k_))) <;> rfl) ?_
            refine r_iconst C (dk oX10_takeItem 44 rfl) (v := nI 5) (by decide) ?_
            refine r_aload_n C 2 (dk oX10_takeItem 45 rfl) rfl ?_
            refine r_getI C (dk oX10_takeItem 46 rfl) fl_X10_152 rfl (km hn rfl) ?_
            rw [hn3]
            refine r_ivi C Z (dk oX10_takeItem 47 rfl) cl_X10_173 ci_X10_want rfl (km hn rfl) (c_X10_want hn I64 J (decide (alw (itA t L (sk t L a_) k_) p_ (Φ (nmV t L (itP t L (sk t L a_) k_))) = true)) (nI 5) (nI (itP t L (sk t L a_) k_)) (nI 0) (hn1.trans (by rw [hz38]))) rfl rfl (Nat.le_of_ble_eq_true rfl) ⟨Nat.le_of_ble_eq_true rfl, Nat.le_of_ble_eq_true rfl⟩ ⟨Nat.zero_le _, Nat.zero_le _⟩ (fun r86 I86 J86 h86 => ?_)
            obtain ⟨e1_, hW86, e2_⟩ := h86
            have e1_ := e1_.symm
            have e2_ := e2_.symm
            subst e1_
            subst e2_
            refine r_if_eq (tgt := 118) C (dk oX10_takeItem 48 rfl) (by decide) (fun hb89 => ?_) (fun hb89 => ?_)
            · rw [b32_0, decide_eq_false_iff_not] at hb89
              have hb89 := want_0 hb89
              have hI86 := want_t hW86 hb89
              subst hI86
              refine hret (dk oX10_takeItem 66 rfl) ?_
              first
                | exact ⟨rfl, hfb.P.tr hnf.P, Or.inl ⟨(nmF t L (itP t L (sk t L a_) k_) 0 11), _, ks, k_, ac, Nat.pos_of_ne_zero hz38, by have := @nmF_lt t L (itP t L (sk t L a_) k_) 0 11; omega, hn1, by rw [hn2, if_neg hz38], rchP.one (pS_num hz38)⟩⟩
                | exact ⟨rfl, (hXn.up 29 _ (by decide)).up 30 _ (by decide), Or.inl ⟨4, _, ks, k_, ac, by decide, by decide, by rw [up2_off (by decide), up2_at], up2_at, rchP.one (pS_4 hz38 hb67)⟩⟩
                | exact ⟨rfl, (hXn.up 29 _ (by decide)).up 30 _ (by decide), Or.inl ⟨5, _, ks, k_, ac, by decide, by decide, by rw [up2_off (by decide), up2_at], up2_at, rchP.one (pS_5 hz38 hb67 (nbf hb89))⟩⟩
                | (refine ⟨rfl, (hXn.up 37 _ (by decide)).ua hv12, Or.inr ⟨nE t L (itP t L (sk t L a_) k_), (fun f => if f = (nmV t L (itP t L (sk t L a_) k_)) then (itA t L (sk t L a_) k_) else ac f), ⟨?_, ?_, nE_le (by rw [← hsab]; exact sk_le habL), ?_, ?_, ?_, hks, ?_, fun f hf => ?_, fun f => ?_⟩, rchP.one (pS_ok hz38 hb67 hb89), ?_⟩⟩
                   · exact hT.of (by rw [up2_ne (by decide), up2_off (by decide)]; exact hXn.2.1 25 (by decide) (by decide) (by decide) (by decide) (by decide) (by decide) (by decide)) (by rw [up2_ne (by decide), up2_ne (by decide)]; exact hXn.1 141 (by decide) (by decide))
                   · rw [up2_ne (by decide), up2_off (by decide)]; exact h26v
                   · rw [up2_ne (by decide), up2_off (by decide), hn1, hz38]
                   · rw [up2_ne (by decide), up2_off (by decide), hn2, if_pos hz38]; exact (hfb.2 30 (by decide) (by decide) (by decide)).trans h30
                   · rw [up2_ne (by decide), up2_off (by decide)]; exact (hnf.2 36 (by decide) (by decide) (by decide) (by decide)).trans ((hfb.2 36 (by decide) (by decide) (by decide)).trans h36)
                   · rw [up2_ne (by decide), up2_at, bS_set 12 hv12]
                     refine congrArg nI (bS_cong 12 (fun f hf => ?_))
                     show (if f = (nmV t L (itP t L (sk t L a_) k_)) then true else decide (ac f ≠ 0)) = decide ((if f = (nmV t L (itP t L (sk t L a_) k_)) then (itA t L (sk t L a_) k_) else ac f) ≠ 0)
                     by_cases e : f = (nmV t L (itP t L (sk t L a_) k_))
                     · rw [if_pos e, if_pos e, decide_eq_true (Nat.ne_of_gt (itA_pos hk.1))]
                     · rw [if_neg e, if_neg e]
                   · show _ = nI (if f = (nmV t L (itP t L (sk t L a_) k_)) then (itA t L (sk t L a_) k_) else ac f)
                     by_cases e : f = (nmV t L (itP t L (sk t L a_) k_))
                     · rw [if_pos e, e, up2_at]
                     · rw [if_neg e, up2_off (by omega), up2_ne (by decide), (hnf.1 125 (by decide)), (hfb.1 125 (by decide))]
                       exact hac f hf
                   · show (if f = (nmV t L (itP t L (sk t L a_) k_)) then (itA t L (sk t L a_) k_) else ac f) ≤ 6
                     split
                     · exact itA_le hk.2
                     · exact hac6 f
                   · have h1 := @sk_ge t L (nE t L (itP t L (sk t L a_) k_))
                     have h2 : sk t L a_ ≤ (itP t L (sk t L a_) k_) := by
                       unfold itP
                       split
                       · have := @sk_ge t L (sk t L a_ + 3); omega
                       · exact Nat.le_refl _
                     omega)
            · rw [b32_n, decide_eq_true_eq] at hb89
              have hb89 := want_1 (by decide) hb89
              have hI86 := want_f hW86 hb89
              subst hI86
              refine r_aload_n C 2 (dk oX10_takeItem 49 rfl) rfl ?_
              refine r_dup C (dk oX10_takeItem 50 rfl) rfl ?_
              refine r_getI C (dk oX10_takeItem 51 rfl) fl_X10_228 rfl (km hn rfl) ?_
              rw [h37n]
              refine r_iconst C (dk oX10_takeItem 52 rfl) (v := nI 1) (by decide) ?_
              refine r_iload C 0 (dk oX10_takeItem 53 rfl) rfl ?_
              refine r_ishl C (dk oX10_takeItem 54 rfl) ?_
              refine r_ior C (dk oX10_takeItem 55 rfl) ?_
              rw [or_bit (by omega)]
              refine r_putI C (dk oX10_takeItem 56 rfl) fl_X10_228 ft_10_37 rfl (km hn rfl) ?_
              refine r_aload_n C 2 (dk oX10_takeItem 57 rfl) rfl ?_
              refine r_getR C (dk oX10_takeItem 58 rfl) fl_X10_32 rfl (km hn rfl) ?_
              refine r_bipush C (dk oX10_takeItem 59 rfl) (v := nI 12) (by decide) ?_
              refine r_iload_n C 4 (dk oX10_takeItem 60 rfl) rfl ?_
              refine r_imul C (dk oX10_takeItem 61 rfl) ?_
              rw [pk_mul]
              refine r_iload C 0 (dk oX10_takeItem 62 rfl) rfl ?_
              refine r_iadd C (dk oX10_takeItem 63 rfl) ?_
              rw [nI_add]
              refine r_iload_n C 1 (dk oX10_takeItem 64 rfl) rfl ?_
              refine r_iast C _ (dk oX10_takeItem 65 rfl) rfl (km hn rfl) rfl (by omega) (by decide) ?_
              refine hret (dk oX10_takeItem 66 rfl) ?_
              first
                | exact ⟨rfl, hfb.P.tr hnf.P, Or.inl ⟨(nmF t L (itP t L (sk t L a_) k_) 0 11), _, ks, k_, ac, Nat.pos_of_ne_zero hz38, by have := @nmF_lt t L (itP t L (sk t L a_) k_) 0 11; omega, hn1, by rw [hn2, if_neg hz38], rchP.one (pS_num hz38)⟩⟩
                | exact ⟨rfl, (hXn.up 29 _ (by decide)).up 30 _ (by decide), Or.inl ⟨4, _, ks, k_, ac, by decide, by decide, by rw [up2_off (by decide), up2_at], up2_at, rchP.one (pS_4 hz38 hb67)⟩⟩
                | exact ⟨rfl, (hXn.up 29 _ (by decide)).up 30 _ (by decide), Or.inl ⟨5, _, ks, k_, ac, by decide, by decide, by rw [up2_off (by decide), up2_at], up2_at, rchP.one (pS_5 hz38 hb67 (nbf hb89))⟩⟩
                | (refine ⟨rfl, (hXn.up 37 _ (by decide)).ua hv12, Or.inr ⟨nE t L (itP t L (sk t L a_) k_), (fun f => if f = (nmV t L (itP t L (sk t L a_) k_)) then (itA t L (sk t L a_) k_) else ac f), ⟨?_, ?_, nE_le (by rw [← hsab]; exact sk_le habL), ?_, ?_, ?_, hks, ?_, fun f hf => ?_, fun f => ?_⟩, rchP.one (pS_ok hz38 hb67 hb89), ?_⟩⟩
                   · exact hT.of (by rw [up2_ne (by decide), up2_off (by decide)]; exact hXn.2.1 25 (by decide) (by decide) (by decide) (by decide) (by decide) (by decide) (by decide)) (by rw [up2_ne (by decide), up2_ne (by decide)]; exact hXn.1 141 (by decide) (by decide))
                   · rw [up2_ne (by decide), up2_off (by decide)]; exact h26v
                   · rw [up2_ne (by decide), up2_off (by decide), hn1, hz38]
                   · rw [up2_ne (by decide), up2_off (by decide), hn2, if_pos hz38]; exact (hfb.2 30 (by decide) (by decide) (by decide)).trans h30
                   · rw [up2_ne (by decide), up2_off (by decide)]; exact (hnf.2 36 (by decide) (by decide) (by decide) (by decide)).trans ((hfb.2 36 (by decide) (by decide) (by decide)).trans h36)
                   · rw [up2_ne (by decide), up2_at, bS_set 12 hv12]
                     refine congrArg nI (bS_cong 12 (fun f hf => ?_))
                     show (if f = (nmV t L (itP t L (sk t L a_) k_)) then true else decide (ac f ≠ 0)) = decide ((if f = (nmV t L (itP t L (sk t L a_) k_)) then (itA t L (sk t L a_) k_) else ac f) ≠ 0)
                     by_cases e : f = (nmV t L (itP t L (sk t L a_) k_))
                     · rw [if_pos e, if_pos e, decide_eq_true (Nat.ne_of_gt (itA_pos hk.1))]
                     · rw [if_neg e, if_neg e]
                   · show _ = nI (if f = (nmV t L (itP t L (sk t L a_) k_)) then (itA t L (sk t L a_) k_) else ac f)
                     by_cases e : f = (nmV t L (itP t L (sk t L a_) k_))
                     · rw [if_pos e, e, up2_at]
                     · rw [if_neg e, up2_off (by omega), up2_ne (by decide), (hnf.1 125 (by decide)), (hfb.1 125 (by decide))]
                       exact hac f hf
                   · show (if f = (nmV t L (itP t L (sk t L a_) k_)) then (itA t L (sk t L a_) k_) else ac f) ≤ 6
                     split
                     · exact itA_le hk.2
                     · exact hac6 f
                   · have h1 := @sk_ge t L (nE t L (itP t L (sk t L a_) k_))
                     have h2 : sk t L a_ ≤ (itP t L (sk t L a_) k_) := by
                       unfold itP
                       split
                       · have := @sk_ge t L (sk t L a_ + 3); omega
                       · exact Nat.le_refl _
                     omega)
        · rw [b32_0, seen_b hv12, decide_eq_false_iff_not] at hb51
          refine r_iconst C (dk oX10_takeItem 28 rfl) (v := nI 1) (by decide) ?_
          refine r_topI (show nI 1 = b32 (decide (ac (nmV t L (itP t L (sk t L a_) k_)) = 0)) from b32_dt (Classical.not_not.mp hb51)) ?_
          refine r_goto (tgt := 59) C (dk oX10_takeItem 29 rfl) (by decide) ?_
          refine r_iconst C (dk oX10_takeItem 31 rfl) (v := nI 4) (by decide) ?_
          refine r_aload_n C 2 (dk oX10_takeItem 32 rfl) rfl ?_
          refine r_getI C (dk oX10_takeItem 33 rfl) fl_X10_152 rfl (km hn rfl) ?_
          rw [hn3]
          refine r_ivi C Z (dk oX10_takeItem 34 rfl) cl_X10_173 ci_X10_want rfl (km hn rfl) (c_X10_want hn I29 J (decide (ac (nmV t L (itP t L (sk t L a_) k_)) = 0)) (nI 4) (nI (itP t L (sk t L a_) k_)) (nI 0) (hn1.trans (by rw [hz38]))) rfl rfl (Nat.le_of_ble_eq_true rfl) ⟨Nat.le_of_ble_eq_true rfl, Nat.le_of_ble_eq_true rfl⟩ ⟨Nat.zero_le _, Nat.zero_le _⟩ (fun r64 I64 J64 h64 => ?_)
          obtain ⟨e1_, hW64, e2_⟩ := h64
          have e1_ := e1_.symm
          have e2_ := e2_.symm
          subst e1_
          subst e2_
          refine r_if_eq (tgt := 118) C (dk oX10_takeItem 35 rfl) (by decide) (fun hb67 => ?_) (fun hb67 => ?_)
          · rw [b32_0, decide_eq_false_iff_not] at hb67
            have hb67 := want_0 hb67
            have hI64 := want_t hW64 hb67
            subst hI64
            refine hret (dk oX10_takeItem 66 rfl) ?_
            first
              | exact ⟨rfl, hfb.P.tr hnf.P, Or.inl ⟨(nmF t L (itP t L (sk t L a_) k_) 0 11), _, ks, k_, ac, Nat.pos_of_ne_zero hz38, by have := @nmF_lt t L (itP t L (sk t L a_) k_) 0 11; omega, hn1, by rw [hn2, if_neg hz38], rchP.one (pS_num hz38)⟩⟩
              | exact ⟨rfl, (hXn.up 29 _ (by decide)).up 30 _ (by decide), Or.inl ⟨4, _, ks, k_, ac, by decide, by decide, by rw [up2_off (by decide), up2_at], up2_at, rchP.one (pS_4 hz38 hb67)⟩⟩
              | exact ⟨rfl, (hXn.up 29 _ (by decide)).up 30 _ (by decide), Or.inl ⟨5, _, ks, k_, ac, by decide, by decide, by rw [up2_off (by decide), up2_at], up2_at, rchP.one (pS_5 hz38 hb67 (nbf hb89))⟩⟩
              | (refine ⟨rfl, (hXn.up 37 _ (by decide)).ua hv12, Or.inr ⟨nE t L (itP t L (sk t L a_) k_), (fun f => if f = (nmV t L (itP t L (sk t L a_) k_)) then (itA t L (sk t L a_) k_) else ac f), ⟨?_, ?_, nE_le (by rw [← hsab]; exact sk_le habL), ?_, ?_, ?_, hks, ?_, fun f hf => ?_, fun f => ?_⟩, rchP.one (pS_ok hz38 hb67 hb89), ?_⟩⟩
                 · exact hT.of (by rw [up2_ne (by decide), up2_off (by decide)]; exact hXn.2.1 25 (by decide) (by decide) (by decide) (by decide) (by decide) (by decide) (by decide)) (by rw [up2_ne (by decide), up2_ne (by decide)]; exact hXn.1 141 (by decide) (by decide))
                 · rw [up2_ne (by decide), up2_off (by decide)]; exact h26v
                 · rw [up2_ne (by decide), up2_off (by decide), hn1, hz38]
                 · rw [up2_ne (by decide), up2_off (by decide), hn2, if_pos hz38]; exact (hfb.2 30 (by decide) (by decide) (by decide)).trans h30
                 · rw [up2_ne (by decide), up2_off (by decide)]; exact (hnf.2 36 (by decide) (by decide) (by decide) (by decide)).trans ((hfb.2 36 (by decide) (by decide) (by decide)).trans h36)
                 · rw [up2_ne (by decide), up2_at, bS_set 12 hv12]
                   refine congrArg nI (bS_cong 12 (fun f hf => ?_))
                   show (if f = (nmV t L (itP t L (sk t L a_) k_)) then true else decide (ac f ≠ 0)) = decide ((if f = (nmV t L (itP t L (sk t L a_) k_)) then (itA t L (sk t L a_) k_) else ac f) ≠ 0)
                   by_cases e : f = (nmV t L (itP t L (sk t L a_) k_))
                   · rw [if_pos e, if_pos e, decide_eq_true (Nat.ne_of_gt (itA_pos hk.1))]
                   · rw [if_neg e, if_neg e]
                 · show _ = nI (if f = (nmV t L (itP t L (sk t L a_) k_)) then (itA t L (sk t L a_) k_) else ac f)
                   by_cases e : f = (nmV t L (itP t L (sk t L a_) k_))
                   · rw [if_pos e, e, up2_at]
                   · rw [if_neg e, up2_off (by omega), up2_ne (by decide), (hnf.1 125 (by decide)), (hfb.1 125 (by decide))]
                     exact hac f hf
                 · show (if f = (nmV t L (itP t L (sk t L a_) k_)) then (itA t L (sk t L a_) k_) else ac f) ≤ 6
                   split
                   · exact itA_le hk.2
                   · exact hac6 f
                 · have h1 := @sk_ge t L (nE t L (itP t L (sk t L a_) k_))
                   have h2 : sk t L a_ ≤ (itP t L (sk t L a_) k_) := by
                     unfold itP
                     split
                     · have := @sk_ge t L (sk t L a_ + 3); omega
                     · exact Nat.le_refl _
                   omega)
          · rw [b32_n, decide_eq_true_eq] at hb67
            have hb67 := want_1 (by decide) hb67
            have hI64 := want_f hW64 hb67
            subst hI64
            refine r_aload_n C 2 (dk oX10_takeItem 36 rfl) rfl ?_
            refine r_aload_n C 2 (dk oX10_takeItem 37 rfl) rfl ?_
            refine r_iload_n C 1 (dk oX10_takeItem 38 rfl) rfl ?_
            refine r_iload C 0 (dk oX10_takeItem 39 rfl) rfl ?_
            refine r_iload_n C 4 (dk oX10_takeItem 40 rfl) rfl ?_
            refine r_iconst C (dk oX10_takeItem 41 rfl) (v := nI 2) (by decide) ?_
            refine r_irem C (dk oX10_takeItem 42 rfl) (by decide) ?_
            rw [mod2 (by omega)]
            refine r_ivi C Z (dk oX10_takeItem 43 rfl) cl_X10_117 ci_X10_mayBe rfl (km hn rfl) (c_X10_mayBe hn I64 J (nmV t L (itP t L (sk t L a_) k_)) (itA t L (sk t L a_) k_) p_ hv12 ⟨itA_pos hk.1, itA_le hk.2⟩ (by
    have hMn := hM.P hXn
    have h := hok (nmV t L (itP t L (sk t L a_) k_)) hv12
    unfold fsOK at h ⊢
    rw [show (fun i => I64 (134 + 1 + i) (nmV t L (itP t L (sk t L a_) k_))) 0 = Φ (nmV t L (itP t L (sk t L a_) k_)) 0 from hMn _ hv12 0 (by decide), show (fun i => I64 (134 + 1 + i) (nmV t L (itP t L (sk t L a_) k_))) 1 = Φ (nmV t L (itP t L (sk t L a_) k_)) 1 from hMn _ hv12 1 (by decide), show (fun i => I64 (134 + 1 + i) (nmV t L (itP t L (sk t L a_) k_))) 2 = Φ (nmV t L (itP t L (sk t L a_) k_)) 2 from hMn _ hv12 2 (by decide)]
    exact h)) rfl rfl (Nat.le_of_ble_eq_true rfl) ⟨Nat.le_of_ble_eq_true rfl, Nat.le_of_ble_eq_true rfl⟩ ⟨Nat.zero_le _, Nat.zero_le _⟩ (fun r78 I78 J78 h78 => ?_)
            obtain ⟨h78, e1_, e2_⟩ := h78
            have e1_ := e1_.symm
            have e2_ := e2_.symm
            subst e1_
            subst e2_
            subst h78
            have hMn := hM.P hXn
            rw [alw_cong (φ := fun i => I64 (134 + 1 + i) (nmV t L (itP t L (sk t L a_) k_))) (ψ := Φ (nmV t L (itP t L (sk t L a_) k_))) (hMn _ hv12 0 (by decide)) (hMn _ hv12 2 (by decide))]
            refine r_topI (show b32 (alw (itA t L (sk t L a_) k_) p_ (Φ (nmV t L (itP t L (sk t L a_) k_)))) = b32 (decide (alw (itA t L (sk t L a_) k_) p_ (Φ (nmV t L (itP t L (sk t L a_) k_))) = true)) from by cases alw (itA t L (sk t L a_) k_) p_ (Φ (nmV t L (itP t L (sk t L a_) k_))) <;> rfl) ?_
            refine r_iconst C (dk oX10_takeItem 44 rfl) (v := nI 5) (by decide) ?_
            refine r_aload_n C 2 (dk oX10_takeItem 45 rfl) rfl ?_
            refine r_getI C (dk oX10_takeItem 46 rfl) fl_X10_152 rfl (km hn rfl) ?_
            rw [hn3]
            refine r_ivi C Z (dk oX10_takeItem 47 rfl) cl_X10_173 ci_X10_want rfl (km hn rfl) (c_X10_want hn I64 J (decide (alw (itA t L (sk t L a_) k_) p_ (Φ (nmV t L (itP t L (sk t L a_) k_))) = true)) (nI 5) (nI (itP t L (sk t L a_) k_)) (nI 0) (hn1.trans (by rw [hz38]))) rfl rfl (Nat.le_of_ble_eq_true rfl) ⟨Nat.le_of_ble_eq_true rfl, Nat.le_of_ble_eq_true rfl⟩ ⟨Nat.zero_le _, Nat.zero_le _⟩ (fun r86 I86 J86 h86 => ?_)
            obtain ⟨e1_, hW86, e2_⟩ := h86
            have e1_ := e1_.symm
            have e2_ := e2_.symm
            subst e1_
            subst e2_
            refine r_if_eq (tgt := 118) C (dk oX10_takeItem 48 rfl) (by decide) (fun hb89 => ?_) (fun hb89 => ?_)
            · rw [b32_0, decide_eq_false_iff_not] at hb89
              have hb89 := want_0 hb89
              have hI86 := want_t hW86 hb89
              subst hI86
              refine hret (dk oX10_takeItem 66 rfl) ?_
              first
                | exact ⟨rfl, hfb.P.tr hnf.P, Or.inl ⟨(nmF t L (itP t L (sk t L a_) k_) 0 11), _, ks, k_, ac, Nat.pos_of_ne_zero hz38, by have := @nmF_lt t L (itP t L (sk t L a_) k_) 0 11; omega, hn1, by rw [hn2, if_neg hz38], rchP.one (pS_num hz38)⟩⟩
                | exact ⟨rfl, (hXn.up 29 _ (by decide)).up 30 _ (by decide), Or.inl ⟨4, _, ks, k_, ac, by decide, by decide, by rw [up2_off (by decide), up2_at], up2_at, rchP.one (pS_4 hz38 hb67)⟩⟩
                | exact ⟨rfl, (hXn.up 29 _ (by decide)).up 30 _ (by decide), Or.inl ⟨5, _, ks, k_, ac, by decide, by decide, by rw [up2_off (by decide), up2_at], up2_at, rchP.one (pS_5 hz38 hb67 (nbf hb89))⟩⟩
                | (refine ⟨rfl, (hXn.up 37 _ (by decide)).ua hv12, Or.inr ⟨nE t L (itP t L (sk t L a_) k_), (fun f => if f = (nmV t L (itP t L (sk t L a_) k_)) then (itA t L (sk t L a_) k_) else ac f), ⟨?_, ?_, nE_le (by rw [← hsab]; exact sk_le habL), ?_, ?_, ?_, hks, ?_, fun f hf => ?_, fun f => ?_⟩, rchP.one (pS_ok hz38 hb67 hb89), ?_⟩⟩
                   · exact hT.of (by rw [up2_ne (by decide), up2_off (by decide)]; exact hXn.2.1 25 (by decide) (by decide) (by decide) (by decide) (by decide) (by decide) (by decide)) (by rw [up2_ne (by decide), up2_ne (by decide)]; exact hXn.1 141 (by decide) (by decide))
                   · rw [up2_ne (by decide), up2_off (by decide)]; exact h26v
                   · rw [up2_ne (by decide), up2_off (by decide), hn1, hz38]
                   · rw [up2_ne (by decide), up2_off (by decide), hn2, if_pos hz38]; exact (hfb.2 30 (by decide) (by decide) (by decide)).trans h30
                   · rw [up2_ne (by decide), up2_off (by decide)]; exact (hnf.2 36 (by decide) (by decide) (by decide) (by decide)).trans ((hfb.2 36 (by decide) (by decide) (by decide)).trans h36)
                   · rw [up2_ne (by decide), up2_at, bS_set 12 hv12]
                     refine congrArg nI (bS_cong 12 (fun f hf => ?_))
                     show (if f = (nmV t L (itP t L (sk t L a_) k_)) then true else decide (ac f ≠ 0)) = decide ((if f = (nmV t L (itP t L (sk t L a_) k_)) then (itA t L (sk t L a_) k_) else ac f) ≠ 0)
                     by_cases e : f = (nmV t L (itP t L (sk t L a_) k_))
                     · rw [if_pos e, if_pos e, decide_eq_true (Nat.ne_of_gt (itA_pos hk.1))]
                     · rw [if_neg e, if_neg e]
                   · show _ = nI (if f = (nmV t L (itP t L (sk t L a_) k_)) then (itA t L (sk t L a_) k_) else ac f)
                     by_cases e : f = (nmV t L (itP t L (sk t L a_) k_))
                     · rw [if_pos e, e, up2_at]
                     · rw [if_neg e, up2_off (by omega), up2_ne (by decide), (hnf.1 125 (by decide)), (hfb.1 125 (by decide))]
                       exact hac f hf
                   · show (if f = (nmV t L (itP t L (sk t L a_) k_)) then (itA t L (sk t L a_) k_) else ac f) ≤ 6
                     split
                     · exact itA_le hk.2
                     · exact hac6 f
                   · have h1 := @sk_ge t L (nE t L (itP t L (sk t L a_) k_))
                     have h2 : sk t L a_ ≤ (itP t L (sk t L a_) k_) := by
                       unfold itP
                       split
                       · have := @sk_ge t L (sk t L a_ + 3); omega
                       · exact Nat.le_refl _
                     omega)
            · rw [b32_n, decide_eq_true_eq] at hb89
              have hb89 := want_1 (by decide) hb89
              have hI86 := want_f hW86 hb89
              subst hI86
              refine r_aload_n C 2 (dk oX10_takeItem 49 rfl) rfl ?_
              refine r_dup C (dk oX10_takeItem 50 rfl) rfl ?_
              refine r_getI C (dk oX10_takeItem 51 rfl) fl_X10_228 rfl (km hn rfl) ?_
              rw [h37n]
              refine r_iconst C (dk oX10_takeItem 52 rfl) (v := nI 1) (by decide) ?_
              refine r_iload C 0 (dk oX10_takeItem 53 rfl) rfl ?_
              refine r_ishl C (dk oX10_takeItem 54 rfl) ?_
              refine r_ior C (dk oX10_takeItem 55 rfl) ?_
              rw [or_bit (by omega)]
              refine r_putI C (dk oX10_takeItem 56 rfl) fl_X10_228 ft_10_37 rfl (km hn rfl) ?_
              refine r_aload_n C 2 (dk oX10_takeItem 57 rfl) rfl ?_
              refine r_getR C (dk oX10_takeItem 58 rfl) fl_X10_32 rfl (km hn rfl) ?_
              refine r_bipush C (dk oX10_takeItem 59 rfl) (v := nI 12) (by decide) ?_
              refine r_iload_n C 4 (dk oX10_takeItem 60 rfl) rfl ?_
              refine r_imul C (dk oX10_takeItem 61 rfl) ?_
              rw [pk_mul]
              refine r_iload C 0 (dk oX10_takeItem 62 rfl) rfl ?_
              refine r_iadd C (dk oX10_takeItem 63 rfl) ?_
              rw [nI_add]
              refine r_iload_n C 1 (dk oX10_takeItem 64 rfl) rfl ?_
              refine r_iast C _ (dk oX10_takeItem 65 rfl) rfl (km hn rfl) rfl (by omega) (by decide) ?_
              refine hret (dk oX10_takeItem 66 rfl) ?_
              first
                | exact ⟨rfl, hfb.P.tr hnf.P, Or.inl ⟨(nmF t L (itP t L (sk t L a_) k_) 0 11), _, ks, k_, ac, Nat.pos_of_ne_zero hz38, by have := @nmF_lt t L (itP t L (sk t L a_) k_) 0 11; omega, hn1, by rw [hn2, if_neg hz38], rchP.one (pS_num hz38)⟩⟩
                | exact ⟨rfl, (hXn.up 29 _ (by decide)).up 30 _ (by decide), Or.inl ⟨4, _, ks, k_, ac, by decide, by decide, by rw [up2_off (by decide), up2_at], up2_at, rchP.one (pS_4 hz38 hb67)⟩⟩
                | exact ⟨rfl, (hXn.up 29 _ (by decide)).up 30 _ (by decide), Or.inl ⟨5, _, ks, k_, ac, by decide, by decide, by rw [up2_off (by decide), up2_at], up2_at, rchP.one (pS_5 hz38 hb67 (nbf hb89))⟩⟩
                | (refine ⟨rfl, (hXn.up 37 _ (by decide)).ua hv12, Or.inr ⟨nE t L (itP t L (sk t L a_) k_), (fun f => if f = (nmV t L (itP t L (sk t L a_) k_)) then (itA t L (sk t L a_) k_) else ac f), ⟨?_, ?_, nE_le (by rw [← hsab]; exact sk_le habL), ?_, ?_, ?_, hks, ?_, fun f hf => ?_, fun f => ?_⟩, rchP.one (pS_ok hz38 hb67 hb89), ?_⟩⟩
                   · exact hT.of (by rw [up2_ne (by decide), up2_off (by decide)]; exact hXn.2.1 25 (by decide) (by decide) (by decide) (by decide) (by decide) (by decide) (by decide)) (by rw [up2_ne (by decide), up2_ne (by decide)]; exact hXn.1 141 (by decide) (by decide))
                   · rw [up2_ne (by decide), up2_off (by decide)]; exact h26v
                   · rw [up2_ne (by decide), up2_off (by decide), hn1, hz38]
                   · rw [up2_ne (by decide), up2_off (by decide), hn2, if_pos hz38]; exact (hfb.2 30 (by decide) (by decide) (by decide)).trans h30
                   · rw [up2_ne (by decide), up2_off (by decide)]; exact (hnf.2 36 (by decide) (by decide) (by decide) (by decide)).trans ((hfb.2 36 (by decide) (by decide) (by decide)).trans h36)
                   · rw [up2_ne (by decide), up2_at, bS_set 12 hv12]
                     refine congrArg nI (bS_cong 12 (fun f hf => ?_))
                     show (if f = (nmV t L (itP t L (sk t L a_) k_)) then true else decide (ac f ≠ 0)) = decide ((if f = (nmV t L (itP t L (sk t L a_) k_)) then (itA t L (sk t L a_) k_) else ac f) ≠ 0)
                     by_cases e : f = (nmV t L (itP t L (sk t L a_) k_))
                     · rw [if_pos e, if_pos e, decide_eq_true (Nat.ne_of_gt (itA_pos hk.1))]
                     · rw [if_neg e, if_neg e]
                   · show _ = nI (if f = (nmV t L (itP t L (sk t L a_) k_)) then (itA t L (sk t L a_) k_) else ac f)
                     by_cases e : f = (nmV t L (itP t L (sk t L a_) k_))
                     · rw [if_pos e, e, up2_at]
                     · rw [if_neg e, up2_off (by omega), up2_ne (by decide), (hnf.1 125 (by decide)), (hfb.1 125 (by decide))]
                       exact hac f hf
                   · show (if f = (nmV t L (itP t L (sk t L a_) k_)) then (itA t L (sk t L a_) k_) else ac f) ≤ 6
                     split
                     · exact itA_le hk.2
                     · exact hac6 f
                   · have h1 := @sk_ge t L (nE t L (itP t L (sk t L a_) k_))
                     have h2 : sk t L a_ ≤ (itP t L (sk t L a_) k_) := by
                       unfold itP
                       split
                       · have := @sk_ge t L (sk t L a_ + 3); omega
                       · exact Nat.le_refl _
                     omega)

end MOD21
