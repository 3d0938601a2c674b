section MOD23
variable {l : Launch} {n : Nat} {ad : Nat → Nat} {cA : Nat → ClassId} {D : va_G} {z : Zw}
theorem hr_lt {t : Nat → Nat} {L s : Nat} (ht : s < L → t s < 256) : hrN t L s < 0 ↔ ¬ s < L := by
  unfold hrN
  by_cases h : s < L
  · have := ht h
    rw [if_pos h]
    exact Iff.intro (fun q => absurd q (nI_lt0 (by omega))) (fun q => absurd h q)
  · rw [if_neg h]
    exact Iff.intro (fun _ => h) (fun _ => by decide)
/-- what a paper's reading leaves of the memory -/
def paM (p : Nat) (I I' : MI) : Prop := (∀ k, k ≠ 117 → k ≠ 125 → (k < 135 ∨ 140 < k) → I' k = I k) ∧ (∀ i, i = 17 ∨ i = 25 → I' 117 i = I 117 i) ∧ ∀ j, j < 12 * p ∨ 12 * p + 12 ≤ j → I' 125 j = I 125 j
theorem paM.tr {p : Nat} {I I1 I2 : MI} (h1 : paM p I I1) (h2 : paM p I1 I2) : paM p I I2 := ⟨fun k a b c => (h2.1 k a b c).trans (h1.1 k a b c), fun i a => (h2.2.1 i a).trans (h1.2.1 i a), fun j hj => (h2.2.2 j hj).trans (h1.2.2 j hj)⟩
theorem mPX.M {p : Nat} {I I' : MI} (h : mPX p I I') : paM p I I' := ⟨fun k a b _ => h.1 k a b, fun i a => h.2.1 i (by omega) (by omega) (by omega) (by omega) (by omega) (by omega) (by omega), h.2.2⟩
theorem MM.rp {I I' : MI} {τ : St} {f pl : Nat} (h : MM I τ) (hnp : (sPp τ).1 < 10) (hm : paM (sPp τ).1 I I') (h30 : I' 117 30 = if f = 0 then -1 else nI pl) : MM (up2 I' 117 25 (nI 0)) (rdS τ f pl) := by
  have hc : ∀ k, 117 < k → k < 135 → k ≠ 125 → up2 I' 117 25 (nI 0) k = I k := fun k a b c => by rw [up2_ne (by omega)]; exact hm.1 k (by omega) c (by omega)
  have h5 : ∀ j, j < 12 * (sPp τ).1 ∨ 12 * (sPp τ).1 + 12 ≤ j → up2 I' 117 25 (nI 0) 125 j = I 125 j := fun j hj => by rw [up2_ne (by decide)]; exact hm.2.2 j hj
  refine h.rd ⟨h.1.1.st (fun k a b => hc k (by omega) (by omega) (by omega)), ⟨h.1.2.1.1, by rw [hc 122 (by decide) (by decide) (by decide)]; exact h.1.2.1.2.1, fun p hp => ?_⟩, h.1.2.2.1.st (fun k a b => hc k (by omega) (by omega) (by omega)), by rw [hc 133 (by decide) (by decide) (by decide)]; exact h.1.2.2.2.1, h.1.2.2.2.2.1, h.1.2.2.2.2.2⟩ (fun k a b j hj => ?_) (by rw [up2_off (by decide)]; exact hm.2.1 17 (Or.inl rfl)) (by rw [hc 132 (by decide) (by decide) (by decide)]) (hc 134 (by decide) (by decide) (by decide)) up2_at (by rw [up2_off (by decide)]; exact h30) (by unfold MZs; rw [hc 124 (by decide) (by decide) (by decide), hc 131 (by decide) (by decide) (by decide)]; exact h.2.2.2.2.2)
  · have hp2 : p < (sPp τ).1 := hp
    have q := h.1.2.1.2.2 p hp
    rw [hc 123 (by decide) (by decide) (by decide), hc 124 (by decide) (by decide) (by decide)]
    exact ⟨q.1, q.2.1, q.2.2.1, fun f hf => by rw [h5 _ (by omega)]; exact q.2.2.2 f hf⟩
  · by_cases e : k = 125
    · subst e
      have hj : 120 ≤ j := hj
      exact h5 j (by omega)
    · rw [hc k a (by omega) e]
theorem MM.pa {I : MI} {τ : St} {d : Nat} {b : Bool} {aa : Nat → Nat} (h : MM I τ) (hnp : (sPp τ).1 < 10) (hd : d < 1000) (haa : ∀ f, f < 12 → I 125 (12 * (sPp τ).1 + f) = nI (aa f)) (ha6 : ∀ f, aa f ≤ 6) (hb : b = decide (0 < (sPp τ).1 ∧ sDu τ < d - (sPp τ).2.1 ((sPp τ).1 - 1))) : MM (up2 (up2 (up2 I 123 (sPp τ).1 (nI d)) 124 (sPp τ).1 (b32 b)) 122 0 (nI ((sPp τ).1 + 1))) (stP τ (adP (sPp τ) d (sDu τ) aa)) := by
  have hF : ∀ k, k ≠ 122 → k ≠ 123 → k ≠ 124 → up2 (up2 (up2 I 123 (sPp τ).1 (nI d)) 124 (sPp τ).1 (b32 b)) 122 0 (nI ((sPp τ).1 + 1)) k = I k := fun k a c e => by rw [up2_ne a, up2_ne e, up2_ne c]
  have hP := h.1.2.1
  have hz := h.2.2.2.2.2
  refine MM.mk (σ := (τ.1.1, adP (sPp τ) d (sDu τ) aa, τ.1.2.2)) h ⟨h.1.1.st (fun k a b => hF k (by omega) (by omega) (by omega)), ⟨by show (sPp τ).1 + 1 ≤ 10; omega, up2_at, fun p hp => ?_⟩, h.1.2.2.1.st (fun k a b => hF k (by omega) (by omega) (by omega)), by rw [hF 133 (by decide) (by decide) (by decide)]; exact h.1.2.2.2.1, h.1.2.2.2.2.1, h.1.2.2.2.2.2⟩ (((lo0.up (by show (sPp τ).1 < 10; exact hnp)).tr (lo0.up (by show (sPp τ).1 < 10; exact hnp))).tr (lo0.up (by decide))) (h.2.1.u (by rw [hF 117 (by decide) (by decide) (by decide)]) (by rw [hF 132 (by decide) (by decide) (by decide)]) rfl rfl) (hF 134 (by decide) (by decide) (by decide)) (by rw [hF 117 (by decide) (by decide) (by decide)]) (by rw [hF 117 (by decide) (by decide) (by decide)]) (hF 141 (by decide) (by decide) (by decide)) ⟨fun j hj => ?_, fun j hj => by rw [hF 131 (by decide) (by decide) (by decide)]; exact hz.2 j hj⟩
  · have hp2 : p < (sPp τ).1 + 1 := hp
    show _ = nI (if p = (sPp τ).1 then d else (sPp τ).2.1 p) ∧ (if p = (sPp τ).1 then d else (sPp τ).2.1 p) < 1000 ∧ _ = b32 (if p = (sPp τ).1 then decide (0 < (sPp τ).1 ∧ sDu τ < d - (sPp τ).2.1 ((sPp τ).1 - 1)) else (sPp τ).2.2.1 p) ∧ ∀ f, f < 12 → _ = nI ((if p = (sPp τ).1 then aa else (sPp τ).2.2.2 p) f) ∧ (if p = (sPp τ).1 then aa else (sPp τ).2.2.2 p) f ≤ 6
    rw [z_add]
    by_cases e : p = (sPp τ).1
    · subst e
      simp only [if_pos]
      refine ⟨?_, hd, ?_, fun f hf => ⟨?_, ha6 f⟩⟩
      · rw [up2_ne (by decide), up2_ne (by decide), up2_at]
      · rw [up2_ne (by decide), up2_at, hb]
      · rw [z_add, hF 125 (by decide) (by decide) (by decide)]
        exact haa f hf
    · simp only [if_neg e]
      have q := hP.2.2 p (by show p < (sPp τ).1; omega)
      rw [z_add] at q
      refine ⟨?_, q.2.1, ?_, fun f hf => by rw [hF 125 (by decide) (by decide) (by decide)]; exact q.2.2.2 f hf⟩
      · rw [up2_ne (by decide), up2_ne (by decide), up2_off e]; exact q.1
      · rw [up2_ne (by decide), up2_off e, up2_ne (by decide)]; exact q.2.2.1
  · rw [up2_ne (by decide)]
    by_cases e : j = (sPp τ).1
    · rw [e, up2_at]; exact b32_or b
    · rw [up2_off e, up2_ne (by decide)]; exact hz.1 j hj
/-- where a paper's reading ends -/
def paE (τ : St) (I1 I' : MI) (f pl : Nat) (a : Nat → Nat) : Prop := PP (sT τ) (sL τ) (sPp τ).1 (sPhi τ) f pl a ∧ paM (sPp τ).1 I1 I' ∧ I' 117 29 = nI f ∧ I' 117 30 = (if f = 0 then -1 else nI pl) ∧ (f = 0 → (∀ g, g < 12 → I' 125 (12 * (sPp τ).1 + g) = nI (a g)) ∧ ∀ g, a g ≤ 6)
theorem paE.b {τ : St} {I1 I' : MI} (hm : paM (sPp τ).1 I1 I') (h : mPB (sT τ) (sL τ) (sPp τ).1 (sPhi τ) (0, sk (sT τ) (sL τ) 0, 0, 0, ac0) I') : ∃ f pl a, paE τ I1 I' f pl a := by
  obtain ⟨f, s', ks, k, a, h1, h2, h3, h4, h5⟩ := h
  exact ⟨f, s', ac0, ⟨h2, by rw [if_neg (by omega)]; exact ⟨ks, k, a, h5⟩⟩, hm, h3, by rw [h4, if_neg (by omega)], fun e => absurd e (by omega)⟩
theorem paE.e {τ : St} {I1 I' : MI} {at_ ks k : Nat} {a : Nat → Nat} (hm : paM (sPp τ).1 I1 I') (hs : mPS I' (sT τ) (sL τ) (sPp τ).1 at_ ks a) (hr : rchP (stpP (sT τ) (sL τ) (sPp τ).1 (sPhi τ)) (0, sk (sT τ) (sL τ) 0, 0, 0, ac0) (0, sk (sT τ) (sL τ) at_, ks, k, a)) (hn : ¬ sk (sT τ) (sL τ) at_ < sL τ) : ∃ f pl a, paE τ I1 I' f pl a :=
  ⟨0, 0, a, ⟨by decide, by rw [if_pos rfl]; exact ⟨_, ks, k, hr.then (pS_end hn)⟩⟩, hm, hs.2.2.2.1, by rw [if_pos rfl]; exact hs.2.2.2.2.1, fun _ => ⟨hs.2.2.2.2.2.2.2.2.1, hs.2.2.2.2.2.2.2.2.2⟩⟩
set_option maxHeartbeats 1000000 in
set_option maxRecDepth 100000 in
theorem c_X10_paper (hn : 148 ≤ n) (I : MI) (J : MJ) (τ : St) (hMM : MM I τ) (x : Int32) : Ci l n ad cA D z 6 yX10_paper cX10_paper 4 .int I J [.ref (ad 117), .int x] (fun r I' J' => ∃ τ', q_paper τ x r τ' ∧ MM I' τ' ∧ (∀ k, k < 117 → I' k = I k) ∧ J' = J) := by
  refine Ci.of (by decide) (Nat.le_of_ble_eq_true rfl) ?_
  intro p e s m args below meth c A C hin Z Q hret
  have hC0 := hMM.c0
  have hK0 := hMM.k0
  have hP0 := hMM.pap.zz
  have hok := hMM.ok
  have hnc : (sCl τ).1 ≤ 6 := hC0.1
  have hnp : (sPp τ).1 ≤ 10 := hP0.1
  have hnk : (sPk τ).1 ≤ 16 := hK0.1
  have hMT := hMM.2.2.2.1
  have hL := hMT.1
  have hop := @opN_lt (sPhi τ)
  have hB : brQ (sPk τ) < 65536 := brN_16 hnk
  have hpz := hMM.pap
  refine r_aload_n C 0 (dk oX10_paper 0 rfl) rfl ?_
  refine r_ivv C Z (dk oX10_paper 1 rfl) cl_X10_218 ci_X10_begin rfl (km hn rfl) (c_X10_begin hn I J) rfl rfl (Nat.le_of_ble_eq_true rfl) ⟨Nat.le_of_ble_eq_true rfl, Nat.le_of_ble_eq_true rfl⟩ ⟨Nat.zero_le _, Nat.zero_le _⟩ (fun I1 J1 h1 => ?_)
  obtain ⟨g1, g2, g3, g4, g5, g6, e2_⟩ := h1
  have e2_ := e2_.symm
  subst e2_
  have hbg : bgP I I1 := ⟨g1, g2, g3, g4, g5, g6⟩
  obtain ⟨hMM1, hdu1, hbe1⟩ := hMM.bg hbg
  have hF1 : ∀ k, k < 117 → I1 k = I k := fun k hk => g1 k (by omega) (by omega)
  refine r_iload_n C 1 (dk oX10_paper 2 rfl) rfl ?_
  refine r_i2l C (dk oX10_paper 3 rfl) ?_
  refine r_lconst C (dk oX10_paper 4 rfl) (v := 0) (by decide) ?_
  refine r_ldc2 C (dk oX10_paper 5 rfl) kn_X10_245 ?_
  refine r_isi C Z (dk oX10_paper 6 rfl) cl_X10_131 st_X10_in (c_X10_in I1 J (x.toInt64) (0) (999)) rfl rfl (Nat.le_of_ble_eq_true rfl) ⟨Nat.le_of_ble_eq_true rfl, Nat.le_of_ble_eq_true rfl⟩ ⟨Nat.zero_le _, Nat.zero_le _⟩ (fun r10 I10 J10 h10 => ?_)
  obtain ⟨h10, e1_, e2_⟩ := h10
  have e1_ := e1_.symm
  have e2_ := e2_.symm
  subst e1_
  subst e2_
  subst h10
  rw [show decide ((0 : Int64) ≤ x.toInt64 ∧ x.toInt64 ≤ 999) = decide (vdN x 1000) from decide_eq_decide.mpr (in_vd (n := 999) (by decide) rfl rfl)]
  have hPz := hMM1.pap.zz
  have hduL : sDu τ < 100 := hMM.1.2.2.2.2.2
  refine r_if_ne (tgt := 19) C (dk oX10_paper 7 rfl) (by decide) (fun hb13 => ?_) (fun hb13 => ?_)
  · rw [b32_n, decide_eq_true_eq] at hb13
    have hvd := hb13
    obtain ⟨dd_, h_d_, hx_d_⟩ := vd_of (by decide) hb13
    subst hx_d_
    refine r_aload_n C 0 (dk oX10_paper 10 rfl) rfl ?_
    refine r_getR C (dk oX10_paper 11 rfl) fl_X10_22 rfl (km hn rfl) ?_
    refine r_iconst C (dk oX10_paper 12 rfl) (v := nI 0) (by decide) ?_
    refine r_iald C 0 (dk oX10_paper 13 rfl) rfl (km hn rfl) rfl (by decide) (by decide) ?_
    rw [hPz.2.1]
    refine r_istore_n (lo' := [(2, _), (0, _), (1, _)]) C (dk oX10_paper 14 rfl) rfl (by decide) rfl ?_
    refine r_iload_n C 0 (dk oX10_paper 15 rfl) rfl ?_
    refine r_if_le (tgt := 45) C (dk oX10_paper 16 rfl) (by decide) (fun hb27 => ?_) (fun hb27 => ?_)
    · rw [show (0 : Int32) = nI 0 from rfl] at hb27
      simp (disch := omega) only [nI_leI, nI_ltI, nI_eq, nI_eq0] at hb27
      have hld : ¬ dd_ < ldN (sPp τ) := by unfold ldN; rw [if_pos (by omega)]; omega
      refine r_iload_n C 0 (dk oX10_paper 27 rfl) rfl ?_
      refine r_bipush C (dk oX10_paper 28 rfl) (v := nI 10) (by decide) ?_
      refine r_icmp_ne (tgt := 54) C (dk oX10_paper 29 rfl) (by decide) (fun hb48 => ?_) (fun hb48 => ?_)
      · simp (disch := omega) only [nI_leI, nI_ltI, nI_eq, nI_eq0] at hb48
        have hn10 : (sPp τ).1 < 10 := by omega
        refine r_aload_n C 1 (dk oX10_paper 32 rfl) rfl ?_
        refine r_ivv C Z (dk oX10_paper 33 rfl) cl_X10_222 ci_X10_beginReading rfl (km hn rfl) (c_X10_beginReading hn I1 J) rfl rfl (Nat.le_of_ble_eq_true rfl) ⟨Nat.le_of_ble_eq_true rfl, Nat.le_of_ble_eq_true rfl⟩ ⟨Nat.zero_le _, Nat.zero_le _⟩ (fun I55 J55 h55 => ?_)
        obtain ⟨e1_, e2_⟩ := h55
        have e2_ := e2_.symm
        subst e2_
        have hB26 : I55 117 26 = nI 0 := by rw [e1_, up2_off (by decide), up2_off (by decide), up2_at]
        have hB29 : I55 117 29 = nI 0 := by rw [e1_, up2_off (by decide), up2_at]
        have hB30 : I55 117 30 = -1 := by rw [e1_, up2_at]
        have hBm : ∀ k, k ≠ 117 → I55 k = I1 k := fun k hk => by rw [e1_, up2_ne hk, up2_ne hk, up2_ne hk]
        have hB7 : ∀ i, i = 17 ∨ i = 25 → I55 117 i = I1 117 i := fun i hi => by rw [e1_, up2_off (by omega), up2_off (by omega), up2_off (by omega)]
        clear e1_
        refine r_aload_n C 1 (dk oX10_paper 34 rfl) rfl ?_
        refine r_iconst C (dk oX10_paper 35 rfl) (v := -1) (by decide) ?_
        refine r_ivv C Z (dk oX10_paper 36 rfl) cl_X10_247 ci_X10_hearAll rfl (km hn rfl) (c_X10_hearAll hn I55 J (sPp τ).1 (sPp τ).2.1 (sPp τ).2.2.1 (sPp τ).2.2.2 (hMM1.pap.st (fun k a b => hBm k (by omega))) (-1)) rfl rfl (Nat.le_of_ble_eq_true rfl) ⟨Nat.le_of_ble_eq_true rfl, Nat.le_of_ble_eq_true rfl⟩ ⟨Nat.zero_le _, Nat.zero_le _⟩ (fun I60 J60 h60 => ?_)
        obtain ⟨hM60, _, hO60, e2_⟩ := h60
        rw [ph_eq (τ := τ) hnp] at hM60
        have e2_ := e2_.symm
        subst e2_
        refine r_aload_n C 1 (dk oX10_paper 37 rfl) rfl ?_
        refine r_iconst C (dk oX10_paper 38 rfl) (v := nI 0) (by decide) ?_
        refine r_putI C (dk oX10_paper 39 rfl) fl_X10_238 ft_10_36 rfl (km hn rfl) ?_
        refine r_aload_n C 1 (dk oX10_paper 40 rfl) rfl ?_
        refine r_iconst C (dk oX10_paper 41 rfl) (v := nI 0) (by decide) ?_
        refine r_putI C (dk oX10_paper 42 rfl) fl_X10_228 ft_10_37 rfl (km hn rfl) ?_
        refine r_iconst C (dk oX10_paper 43 rfl) (v := nI 0) (by decide) ?_
        refine r_istore_n (lo' := [(3, _), (2, _), (0, _), (1, _)]) C (dk oX10_paper 44 rfl) rfl (by decide) rfl ?_
        have L75 : ∀ (d_ : Nat) (f_ : Nat) (I2 : MI), 12 - f_ < d_ → f_ ≤ 12 → (∀ k, k ≠ 125 → I2 k = (up2 (up2 I60 117 36 (nI 0)) 117 37 (nI 0)) k) → (∀ f, f < f_ → I2 125 (12 * (sPp τ).1 + f) = nI 0) → (∀ j, j < 12 * (sPp τ).1 ∨ 12 * (sPp τ).1 + 12 ≤ j → I2 125 j = (up2 (up2 I60 117 36 (nI 0)) 117 37 (nI 0)) 125 j) → V p l e (rmL 6) s m args below meth c Q D A 4 0 0 n ad (mE cA ad I2 J) 75 [(0, .ref (ad 117)), (1, .int (nI dd_)), (2, .int (nI (sPp τ).1)), (3, .int (nI f_))] [] := by
          intro d_
          induction d_ with
          | zero => intros; exact absurd (by assumption) (Nat.not_lt_zero _)
          | succ d_ ih => 
            intro f_ I2 hd0 hf hcF hc0 hcR
            refine r_iload_n C 3 (dk oX10_paper 45 rfl) rfl ?_
            refine r_bipush C (dk oX10_paper 46 rfl) (v := nI 12) (by decide) ?_
            refine r_icmp_ge (tgt := 99) C (dk oX10_paper 47 rfl) (by decide) (fun hb78 => ?_) (fun hb78 => ?_)
            · simp (disch := omega) only [nI_leI, nI_ltI, nI_eq, nI_eq0] at hb78
              have hMc : FcM I2 134 (sPhi τ) := hM60.of (fun c a b => by rw [hcF c (by omega), up2_ne (by omega), up2_ne (by omega)])
              have hMcM : paM (sPp τ).1 I1 I2 := ⟨fun k a b c => by rw [hcF k b, up2_ne a, up2_ne a, hO60 k (by omega)]; exact hBm k a, fun i hi => by rw [hcF 117 (by decide), up2_off (by omega), up2_off (by omega), hO60 117 (by decide)]; exact hB7 i hi, fun j hj => by rw [hcR j hj, up2_ne (by decide), up2_ne (by decide), hO60 125 (by decide), hBm 125 (by decide)]⟩
              have L99 : ∀ (d_ : Nat) (m_ : Nat) (I3 : MI), m_ < d_ → mPX (sPp τ).1 I2 I3 → ((∃ a1 ks1 k1 ac1, m_ = sL τ + 1 - sk (sT τ) (sL τ) a1 ∧ mPS I3 (sT τ) (sL τ) (sPp τ).1 a1 ks1 ac1 ∧ rchP (stpP (sT τ) (sL τ) (sPp τ).1 (sPhi τ)) (0, sk (sT τ) (sL τ) 0, 0, 0, ac0) (0, sk (sT τ) (sL τ) a1, ks1, k1, ac1)) ∨ mPB (sT τ) (sL τ) (sPp τ).1 (sPhi τ) (0, sk (sT τ) (sL τ) 0, 0, 0, ac0) I3) → V p l e (rmL 6) s m args below meth c Q D A 4 0 0 n ad (mE cA ad I3 J) 99 [(0, .ref (ad 117)), (1, .int (nI dd_)), (2, .int (nI (sPp τ).1))] [] := by
                intro d_
                induction d_ with
                | zero => intros; exact absurd (by assumption) (Nat.not_lt_zero _)
                | succ d_ ih => 
                  intro m_ I3 hd_ hX hI
                  refine r_aload_n C 0 (dk oX10_paper 59 rfl) rfl ?_
                  refine r_getI C (dk oX10_paper 60 rfl) fl_X10_145 rfl (km hn rfl) ?_
                  refine r_if_ne (tgt := 121) C (dk oX10_paper 61 rfl) (by decide) (fun hb103 => ?_) (fun hb103 => ?_)
                  · have hE : ∃ f pl a, paE τ I1 I3 f pl a := by
                      rcases hI with ⟨a1, ks1, k1, ac1, hm, hPS1, _⟩ | h
                      · exact absurd hPS1.zf hb103
                      · exact paE.b (hMcM.tr hX.M) h
                    obtain ⟨I3e, hI3e⟩ : ∃ X, X = I3 := ⟨_, rfl⟩
                    rw [← hI3e] at hE
                    rw [← hI3e]
                    clear hI3e
                    obtain ⟨fn, pl, aa, hPP, hmE, h29e, h30e, haE⟩ := hE
                    have hfn := hPP.1
                    clear hI
                    have hMr := hMM1.rp (f := fn) (pl := pl) hn10 hmE h30e
                    refine r_aload_n C 0 (dk oX10_paper 69 rfl) rfl ?_
                    refine r_iconst C (dk oX10_paper 70 rfl) (v := nI 0) (by decide) ?_
                    refine r_putI C (dk oX10_paper 71 rfl) fl_X10_136 ft_10_25 rfl (km hn rfl) ?_
                    refine r_aload_n C 0 (dk oX10_paper 72 rfl) rfl ?_
                    refine r_getI C (dk oX10_paper 73 rfl) fl_X10_145 rfl (km hn rfl) ?_
                    rw [up2_off (by decide), h29e]
                    refine r_if_le (tgt := 141) C (dk oX10_paper 74 rfl) (by decide) (fun hb130 => ?_) (fun hb130 => ?_)
                    · rw [show (0 : Int32) = nI 0 from rfl, nI_leI (by omega) (by omega)] at hb130
                      have hf0 : fn = 0 := by omega
                      subst hf0
                      have haa := haE rfl
                      have hMrz := hMr.pap.zz
                      rw [show sPp (rdS τ 0 pl) = sPp τ from rfl] at hMrz
                      refine r_aload_n C 0 (dk oX10_paper 80 rfl) rfl ?_
                      refine r_getR C (dk oX10_paper 81 rfl) fl_X10_25 rfl (km hn rfl) ?_
                      refine r_iload_n C 2 (dk oX10_paper 82 rfl) rfl ?_
                      refine r_iload_n C 1 (dk oX10_paper 83 rfl) rfl ?_
                      refine r_iast C _ (dk oX10_paper 84 rfl) rfl (km hn rfl) rfl (by omega) (by decide) ?_
                      refine r_aload_n C 0 (dk oX10_paper 85 rfl) rfl ?_
                      refine r_getR C (dk oX10_paper 86 rfl) fl_X10_28 rfl (km hn rfl) ?_
                      refine r_iload_n C 2 (dk oX10_paper 87 rfl) rfl ?_
                      refine r_iload_n C 2 (dk oX10_paper 88 rfl) rfl ?_
                      refine r_if_le (tgt := 180) C (dk oX10_paper 89 rfl) (by decide) (fun hb154 => ?_) (fun hb154 => ?_)
                      · rw [show (0 : Int32) = nI 0 from rfl] at hb154
                        simp (disch := omega) only [nI_leI, nI_ltI, nI_eq, nI_eq0] at hb154
                        refine r_iconst C (dk oX10_paper 105 rfl) (v := nI 0) (by decide) ?_
                        refine r_topI (show nI 0 = b32 (decide (0 < (sPp τ).1 ∧ sDu τ < dd_ - (sPp τ).2.1 ((sPp τ).1 - 1))) from by
                          first
                            | exact b32_df (fun q => absurd q.2 (Nat.not_lt.mpr hb173))
                            | exact b32_df (fun q => absurd q.1 (Nat.not_lt.mpr hb154))) ?_
                        refine r_zast C _ (dk oX10_paper 106 rfl) rfl (km hn rfl) rfl (by omega) (by decide) (b32_or _) ?_
                        refine r_aload_n C 0 (dk oX10_paper 107 rfl) rfl ?_
                        refine r_getR C (dk oX10_paper 108 rfl) fl_X10_22 rfl (km hn rfl) ?_
                        refine r_iconst C (dk oX10_paper 109 rfl) (v := nI 0) (by decide) ?_
                        refine r_dup2 C (dk oX10_paper 110 rfl) rfl rfl ?_
                        refine r_iald C 0 (dk oX10_paper 111 rfl) rfl (km hn rfl) rfl (by decide) (by decide) ?_
                        rw [up2_ne (by decide), up2_ne (by decide), show up2 I3e 117 25 (nI 0) 122 0 = nI (sPp τ).1 from hMrz.2.1]
                        refine r_iconst C (dk oX10_paper 112 rfl) (v := nI 1) (by decide) ?_
                        refine r_iadd C (dk oX10_paper 113 rfl) ?_
                        rw [nI_add]
                        refine r_iast C 0 (dk oX10_paper 114 rfl) rfl (km hn rfl) rfl (by decide) (by decide) ?_
                        refine r_iload_n C 2 (dk oX10_paper 115 rfl) rfl ?_
                        refine hret (dk oX10_paper 116 rfl) rfl ?_
                        refine ⟨stP (rdS τ 0 pl) (adP (sPp τ) dd_ (sDu τ) aa), (by unfold q_paper; rw [if_neg (Classical.not_not.mpr hvd), cN_n (by omega), if_neg hld, if_neg (by omega)]; exact ⟨0, pl, aa, hPP, by rw [if_pos rfl]; exact ⟨rfl, rfl⟩⟩), MM.pa (τ := rdS τ 0 pl) (d := dd_) (aa := aa) hMr (by show (sPp τ).1 < 10; omega) h_d_ (fun f hf => by rw [up2_ne (by decide)]; exact haa.1 f hf) haa.2 rfl, fun k hk => by rw [up2_ne (by omega), up2_ne (by omega), up2_ne (by omega), up2_ne (by omega), hmE.1 k (by omega) (by omega) (by omega)]; exact hF1 k hk, rfl⟩
                      · rw [show (0 : Int32) = nI 0 from rfl] at hb154
                        simp (disch := omega) only [nI_leI, nI_ltI, nI_eq, nI_eq0] at hb154
                        have hldd : (sPp τ).2.1 ((sPp τ).1 - 1) ≤ dd_ := by
                          have h := hld
                          unfold ldN at h
                          rw [if_neg (by omega)] at h
                          omega
                        refine r_iload_n C 1 (dk oX10_paper 90 rfl) rfl ?_
                        refine r_aload_n C 0 (dk oX10_paper 91 rfl) rfl ?_
                        refine r_getR C (dk oX10_paper 92 rfl) fl_X10_25 rfl (km hn rfl) ?_
                        refine r_iload_n C 2 (dk oX10_paper 93 rfl) rfl ?_
                        refine r_iconst C (dk oX10_paper 94 rfl) (v := nI 1) (by decide) ?_
                        refine r_isub C (dk oX10_paper 95 rfl) ?_
                        rw [pk_sub (by omega)]
                        refine r_iald C _ (dk oX10_paper 96 rfl) rfl (km hn rfl) rfl (by omega) (by decide) ?_
                        have qd2 := hMrz.2.2 ((sPp τ).1 - 1) (by omega)
                        rw [up2_off (by omega), qd2.1]
                        refine r_isub C (dk oX10_paper 97 rfl) ?_
                        rw [pk_sub (by omega)]
                        refine r_aload_n C 0 (dk oX10_paper 98 rfl) rfl ?_
                        refine r_getR C (dk oX10_paper 99 rfl) fl_X10_53 rfl (km hn rfl) ?_
                        refine r_iconst C (dk oX10_paper 100 rfl) (v := nI 0) (by decide) ?_
                        refine r_iald C 0 (dk oX10_paper 101 rfl) rfl (km hn rfl) rfl (by decide) (by decide) ?_
                        rw [up2_ne (by decide), show up2 I3e 117 25 (nI 0) 132 0 = nI (sDu τ) from by rw [up2_ne (by decide), hmE.1 132 (by decide) (by decide) (by decide)]; exact hdu1]
                        refine r_icmp_le (tgt := 180) C (dk oX10_paper 102 rfl) (by decide) (fun hb173 => ?_) (fun hb173 => ?_)
                        · simp (disch := omega) only [nI_leI, nI_ltI, nI_eq, nI_eq0] at hb173
                          refine r_iconst C (dk oX10_paper 105 rfl) (v := nI 0) (by decide) ?_
                          refine r_topI (show nI 0 = b32 (decide (0 < (sPp τ).1 ∧ sDu τ < dd_ - (sPp τ).2.1 ((sPp τ).1 - 1))) from by
                            first
                              | exact b32_df (fun q => absurd q.2 (Nat.not_lt.mpr hb173))
                              | exact b32_df (fun q => absurd q.1 (Nat.not_lt.mpr hb154))) ?_
                          refine r_zast C _ (dk oX10_paper 106 rfl) rfl (km hn rfl) rfl (by omega) (by decide) (b32_or _) ?_
                          refine r_aload_n C 0 (dk oX10_paper 107 rfl) rfl ?_
                          refine r_getR C (dk oX10_paper 108 rfl) fl_X10_22 rfl (km hn rfl) ?_
                          refine r_iconst C (dk oX10_paper 109 rfl) (v := nI 0) (by decide) ?_
                          refine r_dup2 C (dk oX10_paper 110 rfl) rfl rfl ?_
                          refine r_iald C 0 (dk oX10_paper 111 rfl) rfl (km hn rfl) rfl (by decide) (by decide) ?_
                          rw [up2_ne (by decide), up2_ne (by decide), show up2 I3e 117 25 (nI 0) 122 0 = nI (sPp τ).1 from hMrz.2.1]
                          refine r_iconst C (dk oX10_paper 112 rfl) (v := nI 1) (by decide) ?_
                          refine r_iadd C (dk oX10_paper 113 rfl) ?_
                          rw [nI_add]
                          refine r_iast C 0 (dk oX10_paper 114 rfl) rfl (km hn rfl) rfl (by decide) (by decide) ?_
                          refine r_iload_n C 2 (dk oX10_paper 115 rfl) rfl ?_
                          refine hret (dk oX10_paper 116 rfl) rfl ?_
                          refine ⟨stP (rdS τ 0 pl) (adP (sPp τ) dd_ (sDu τ) aa), (by unfold q_paper; rw [if_neg (Classical.not_not.mpr hvd), cN_n (by omega), if_neg hld, if_neg (by omega)]; exact ⟨0, pl, aa, hPP, by rw [if_pos rfl]; exact ⟨rfl, rfl⟩⟩), MM.pa (τ := rdS τ 0 pl) (d := dd_) (aa := aa) hMr (by show (sPp τ).1 < 10; omega) h_d_ (fun f hf => by rw [up2_ne (by decide)]; exact haa.1 f hf) haa.2 rfl, fun k hk => by rw [up2_ne (by omega), up2_ne (by omega), up2_ne (by omega), up2_ne (by omega), hmE.1 k (by omega) (by omega) (by omega)]; exact hF1 k hk, rfl⟩
                        · simp (disch := omega) only [nI_leI, nI_ltI, nI_eq, nI_eq0] at hb173
                          refine r_iconst C (dk oX10_paper 103 rfl) (v := nI 1) (by decide) ?_
                          refine r_topI (show nI 1 = b32 (decide (0 < (sPp τ).1 ∧ sDu τ < dd_ - (sPp τ).2.1 ((sPp τ).1 - 1))) from b32_dt ⟨by omega, by omega⟩) ?_
                          refine r_goto (tgt := 181) C (dk oX10_paper 104 rfl) (by decide) ?_
                          refine r_zast C _ (dk oX10_paper 106 rfl) rfl (km hn rfl) rfl (by omega) (by decide) (b32_or _) ?_
                          refine r_aload_n C 0 (dk oX10_paper 107 rfl) rfl ?_
                          refine r_getR C (dk oX10_paper 108 rfl) fl_X10_22 rfl (km hn rfl) ?_
                          refine r_iconst C (dk oX10_paper 109 rfl) (v := nI 0) (by decide) ?_
                          refine r_dup2 C (dk oX10_paper 110 rfl) rfl rfl ?_
                          refine r_iald C 0 (dk oX10_paper 111 rfl) rfl (km hn rfl) rfl (by decide) (by decide) ?_
                          rw [up2_ne (by decide), up2_ne (by decide), show up2 I3e 117 25 (nI 0) 122 0 = nI (sPp τ).1 from hMrz.2.1]
                          refine r_iconst C (dk oX10_paper 112 rfl) (v := nI 1) (by decide) ?_
                          refine r_iadd C (dk oX10_paper 113 rfl) ?_
                          rw [nI_add]
                          refine r_iast C 0 (dk oX10_paper 114 rfl) rfl (km hn rfl) rfl (by decide) (by decide) ?_
                          refine r_iload_n C 2 (dk oX10_paper 115 rfl) rfl ?_
                          refine hret (dk oX10_paper 116 rfl) rfl ?_
                          refine ⟨stP (rdS τ 0 pl) (adP (sPp τ) dd_ (sDu τ) aa), (by unfold q_paper; rw [if_neg (Classical.not_not.mpr hvd), cN_n (by omega), if_neg hld, if_neg (by omega)]; exact ⟨0, pl, aa, hPP, by rw [if_pos rfl]; exact ⟨rfl, rfl⟩⟩), MM.pa (τ := rdS τ 0 pl) (d := dd_) (aa := aa) hMr (by show (sPp τ).1 < 10; omega) h_d_ (fun f hf => by rw [up2_ne (by decide)]; exact haa.1 f hf) haa.2 rfl, fun k hk => by rw [up2_ne (by omega), up2_ne (by omega), up2_ne (by omega), up2_ne (by omega), hmE.1 k (by omega) (by omega) (by omega)]; exact hF1 k hk, rfl⟩
                    · rw [show (0 : Int32) = nI 0 from rfl, nI_leI (by omega) (by omega)] at hb130
                      have hf0 : ¬ fn = 0 := by omega
                      refine r_bipush C (dk oX10_paper 75 rfl) (v := -10) (by decide) ?_
                      refine r_aload_n C 0 (dk oX10_paper 76 rfl) rfl ?_
                      refine r_getI C (dk oX10_paper 77 rfl) fl_X10_145 rfl (km hn rfl) ?_
                      rw [up2_off (by decide), h29e]
                      refine r_isub C (dk oX10_paper 78 rfl) ?_
                      refine hret (dk oX10_paper 79 rfl) rfl ?_
                      exact ⟨rdS τ fn pl, (by unfold q_paper; rw [if_neg (Classical.not_not.mpr hvd), cN_n (by omega), if_neg hld, if_neg (by omega)]; exact ⟨fn, pl, aa, hPP, by rw [if_neg hf0]; exact ⟨rfl, rfl⟩⟩), hMr, fun k hk => by rw [up2_ne (by omega), hmE.1 k (by omega) (by omega) (by omega)]; exact hF1 k hk, rfl⟩
                  · obtain ⟨a1, ks1, k1, ac1, hm, hPS1, hr⟩ : ∃ a1 ks1 k1 ac1, m_ = sL τ + 1 - sk (sT τ) (sL τ) a1 ∧ mPS I3 (sT τ) (sL τ) (sPp τ).1 a1 ks1 ac1 ∧ rchP (stpP (sT τ) (sL τ) (sPp τ).1 (sPhi τ)) (0, sk (sT τ) (sL τ) 0, 0, 0, ac0) (0, sk (sT τ) (sL τ) a1, ks1, k1, ac1) := by
                      rcases hI with h | h
                      · exact h
                      · exact absurd hb103 h.nz
                    refine r_aload_n C 0 (dk oX10_paper 62 rfl) rfl ?_
                    refine r_ivi C Z (dk oX10_paper 63 rfl) cl_X10_148 ci_X10_here rfl (km hn rfl) (c_X10_here hn I3 J (sT τ) (sL τ) (hPS1.1) (a1) (hPS1.2.1) (hPS1.2.2.1)) rfl rfl (Nat.le_of_ble_eq_true rfl) ⟨Nat.le_of_ble_eq_true rfl, Nat.le_of_ble_eq_true rfl⟩ ⟨Nat.zero_le _, Nat.zero_le _⟩ (fun r107 I107 J107 h107 => ?_)
                    obtain ⟨e1_, hh107, hhA107, hhB107, e2_⟩ := h107
                    have e1_ := e1_.symm
                    have e2_ := e2_.symm
                    subst e1_
                    subst e2_
                    refine r_if_lt (tgt := 121) C (dk oX10_paper 64 rfl) (by decide) (fun hb110 => ?_) (fun hb110 => ?_)
                    · rw [hr_lt (fun h => (hPS1.1.2.2 _ h).1)] at hb110
                      have hE : ∃ f pl a, paE τ I1 I107 f pl a := paE.e ((hMcM.tr hX.M).tr (hereP hhA107 hhB107).M) (hPS1.at hhA107 (fun i a _ _ => hhB107 i a) hh107 (sk_le hPS1.2.2.1)) (by rw [sk_sk]; exact hr) (by rw [sk_sk]; exact hb110)
                      obtain ⟨I3e, hI3e⟩ : ∃ X, X = I107 := ⟨_, rfl⟩
                      rw [← hI3e] at hE
                      rw [← hI3e]
                      clear hI3e
                      obtain ⟨fn, pl, aa, hPP, hmE, h29e, h30e, haE⟩ := hE
                      have hfn := hPP.1
                      clear hI
                      have hMr := hMM1.rp (f := fn) (pl := pl) hn10 hmE h30e
                      refine r_aload_n C 0 (dk oX10_paper 69 rfl) rfl ?_
                      refine r_iconst C (dk oX10_paper 70 rfl) (v := nI 0) (by decide) ?_
                      refine r_putI C (dk oX10_paper 71 rfl) fl_X10_136 ft_10_25 rfl (km hn rfl) ?_
                      refine r_aload_n C 0 (dk oX10_paper 72 rfl) rfl ?_
                      refine r_getI C (dk oX10_paper 73 rfl) fl_X10_145 rfl (km hn rfl) ?_
                      rw [up2_off (by decide), h29e]
                      refine r_if_le (tgt := 141) C (dk oX10_paper 74 rfl) (by decide) (fun hb130 => ?_) (fun hb130 => ?_)
                      · rw [show (0 : Int32) = nI 0 from rfl, nI_leI (by omega) (by omega)] at hb130
                        have hf0 : fn = 0 := by omega
                        subst hf0
                        have haa := haE rfl
                        have hMrz := hMr.pap.zz
                        rw [show sPp (rdS τ 0 pl) = sPp τ from rfl] at hMrz
                        refine r_aload_n C 0 (dk oX10_paper 80 rfl) rfl ?_
                        refine r_getR C (dk oX10_paper 81 rfl) fl_X10_25 rfl (km hn rfl) ?_
                        refine r_iload_n C 2 (dk oX10_paper 82 rfl) rfl ?_
                        refine r_iload_n C 1 (dk oX10_paper 83 rfl) rfl ?_
                        refine r_iast C _ (dk oX10_paper 84 rfl) rfl (km hn rfl) rfl (by omega) (by decide) ?_
                        refine r_aload_n C 0 (dk oX10_paper 85 rfl) rfl ?_
                        refine r_getR C (dk oX10_paper 86 rfl) fl_X10_28 rfl (km hn rfl) ?_
                        refine r_iload_n C 2 (dk oX10_paper 87 rfl) rfl ?_
                        refine r_iload_n C 2 (dk oX10_paper 88 rfl) rfl ?_
                        refine r_if_le (tgt := 180) C (dk oX10_paper 89 rfl) (by decide) (fun hb154 => ?_) (fun hb154 => ?_)
                        · rw [show (0 : Int32) = nI 0 from rfl] at hb154
                          simp (disch := omega) only [nI_leI, nI_ltI, nI_eq, nI_eq0] at hb154
                          refine r_iconst C (dk oX10_paper 105 rfl) (v := nI 0) (by decide) ?_
                          refine r_topI (show nI 0 = b32 (decide (0 < (sPp τ).1 ∧ sDu τ < dd_ - (sPp τ).2.1 ((sPp τ).1 - 1))) from by
                            first
                              | exact b32_df (fun q => absurd q.2 (Nat.not_lt.mpr hb173))
                              | exact b32_df (fun q => absurd q.1 (Nat.not_lt.mpr hb154))) ?_
                          refine r_zast C _ (dk oX10_paper 106 rfl) rfl (km hn rfl) rfl (by omega) (by decide) (b32_or _) ?_
                          refine r_aload_n C 0 (dk oX10_paper 107 rfl) rfl ?_
                          refine r_getR C (dk oX10_paper 108 rfl) fl_X10_22 rfl (km hn rfl) ?_
                          refine r_iconst C (dk oX10_paper 109 rfl) (v := nI 0) (by decide) ?_
                          refine r_dup2 C (dk oX10_paper 110 rfl) rfl rfl ?_
                          refine r_iald C 0 (dk oX10_paper 111 rfl) rfl (km hn rfl) rfl (by decide) (by decide) ?_
                          rw [up2_ne (by decide), up2_ne (by decide), show up2 I3e 117 25 (nI 0) 122 0 = nI (sPp τ).1 from hMrz.2.1]
                          refine r_iconst C (dk oX10_paper 112 rfl) (v := nI 1) (by decide) ?_
                          refine r_iadd C (dk oX10_paper 113 rfl) ?_
                          rw [nI_add]
                          refine r_iast C 0 (dk oX10_paper 114 rfl) rfl (km hn rfl) rfl (by decide) (by decide) ?_
                          refine r_iload_n C 2 (dk oX10_paper 115 rfl) rfl ?_
                          refine hret (dk oX10_paper 116 rfl) rfl ?_
                          refine ⟨stP (rdS τ 0 pl) (adP (sPp τ) dd_ (sDu τ) aa), (by unfold q_paper; rw [if_neg (Classical.not_not.mpr hvd), cN_n (by omega), if_neg hld, if_neg (by omega)]; exact ⟨0, pl, aa, hPP, by rw [if_pos rfl]; exact ⟨rfl, rfl⟩⟩), MM.pa (τ := rdS τ 0 pl) (d := dd_) (aa := aa) hMr (by show (sPp τ).1 < 10; omega) h_d_ (fun f hf => by rw [up2_ne (by decide)]; exact haa.1 f hf) haa.2 rfl, fun k hk => by rw [up2_ne (by omega), up2_ne (by omega), up2_ne (by omega), up2_ne (by omega), hmE.1 k (by omega) (by omega) (by omega)]; exact hF1 k hk, rfl⟩
                        · rw [show (0 : Int32) = nI 0 from rfl] at hb154
                          simp (disch := omega) only [nI_leI, nI_ltI, nI_eq, nI_eq0] at hb154
                          have hldd : (sPp τ).2.1 ((sPp τ).1 - 1) ≤ dd_ := by
                            have h := hld
                            unfold ldN at h
                            rw [if_neg (by omega)] at h
                            omega
                          refine r_iload_n C 1 (dk oX10_paper 90 rfl) rfl ?_
                          refine r_aload_n C 0 (dk oX10_paper 91 rfl) rfl ?_
                          refine r_getR C (dk oX10_paper 92 rfl) fl_X10_25 rfl (km hn rfl) ?_
                          refine r_iload_n C 2 (dk oX10_paper 93 rfl) rfl ?_
                          refine r_iconst C (dk oX10_paper 94 rfl) (v := nI 1) (by decide) ?_
                          refine r_isub C (dk oX10_paper 95 rfl) ?_
                          rw [pk_sub (by omega)]
                          refine r_iald C _ (dk oX10_paper 96 rfl) rfl (km hn rfl) rfl (by omega) (by decide) ?_
                          have qd2 := hMrz.2.2 ((sPp τ).1 - 1) (by omega)
                          rw [up2_off (by omega), qd2.1]
                          refine r_isub C (dk oX10_paper 97 rfl) ?_
                          rw [pk_sub (by omega)]
                          refine r_aload_n C 0 (dk oX10_paper 98 rfl) rfl ?_
                          refine r_getR C (dk oX10_paper 99 rfl) fl_X10_53 rfl (km hn rfl) ?_
                          refine r_iconst C (dk oX10_paper 100 rfl) (v := nI 0) (by decide) ?_
                          refine r_iald C 0 (dk oX10_paper 101 rfl) rfl (km hn rfl) rfl (by decide) (by decide) ?_
                          rw [up2_ne (by decide), show up2 I3e 117 25 (nI 0) 132 0 = nI (sDu τ) from by rw [up2_ne (by decide), hmE.1 132 (by decide) (by decide) (by decide)]; exact hdu1]
                          refine r_icmp_le (tgt := 180) C (dk oX10_paper 102 rfl) (by decide) (fun hb173 => ?_) (fun hb173 => ?_)
                          · simp (disch := omega) only [nI_leI, nI_ltI, nI_eq, nI_eq0] at hb173
                            refine r_iconst C (dk oX10_paper 105 rfl) (v := nI 0) (by decide) ?_
                            refine r_topI (show nI 0 = b32 (decide (0 < (sPp τ).1 ∧ sDu τ < dd_ - (sPp τ).2.1 ((sPp τ).1 - 1))) from by
                              first
                                | exact b32_df (fun q => absurd q.2 (Nat.not_lt.mpr hb173))
                                | exact b32_df (fun q => absurd q.1 (Nat.not_lt.mpr hb154))) ?_
                            refine r_zast C _ (dk oX10_paper 106 rfl) rfl (km hn rfl) rfl (by omega) (by decide) (b32_or _) ?_
                            refine r_aload_n C 0 (dk oX10_paper 107 rfl) rfl ?_
                            refine r_getR C (dk oX10_paper 108 rfl) fl_X10_22 rfl (km hn rfl) ?_
                            refine r_iconst C (dk oX10_paper 109 rfl) (v := nI 0) (by decide) ?_
                            refine r_dup2 C (dk oX10_paper 110 rfl) rfl rfl ?_
                            refine r_iald C 0 (dk oX10_paper 111 rfl) rfl (km hn rfl) rfl (by decide) (by decide) ?_
                            rw [up2_ne (by decide), up2_ne (by decide), show up2 I3e 117 25 (nI 0) 122 0 = nI (sPp τ).1 from hMrz.2.1]
                            refine r_iconst C (dk oX10_paper 112 rfl) (v := nI 1) (by decide) ?_
                            refine r_iadd C (dk oX10_paper 113 rfl) ?_
                            rw [nI_add]
                            refine r_iast C 0 (dk oX10_paper 114 rfl) rfl (km hn rfl) rfl (by decide) (by decide) ?_
                            refine r_iload_n C 2 (dk oX10_paper 115 rfl) rfl ?_
                            refine hret (dk oX10_paper 116 rfl) rfl ?_
                            refine ⟨stP (rdS τ 0 pl) (adP (sPp τ) dd_ (sDu τ) aa), (by unfold q_paper; rw [if_neg (Classical.not_not.mpr hvd), cN_n (by omega), if_neg hld, if_neg (by omega)]; exact ⟨0, pl, aa, hPP, by rw [if_pos rfl]; exact ⟨rfl, rfl⟩⟩), MM.pa (τ := rdS τ 0 pl) (d := dd_) (aa := aa) hMr (by show (sPp τ).1 < 10; omega) h_d_ (fun f hf => by rw [up2_ne (by decide)]; exact haa.1 f hf) haa.2 rfl, fun k hk => by rw [up2_ne (by omega), up2_ne (by omega), up2_ne (by omega), up2_ne (by omega), hmE.1 k (by omega) (by omega) (by omega)]; exact hF1 k hk, rfl⟩
                          · simp (disch := omega) only [nI_leI, nI_ltI, nI_eq, nI_eq0] at hb173
                            refine r_iconst C (dk oX10_paper 103 rfl) (v := nI 1) (by decide) ?_
                            refine r_topI (show nI 1 = b32 (decide (0 < (sPp τ).1 ∧ sDu τ < dd_ - (sPp τ).2.1 ((sPp τ).1 - 1))) from b32_dt ⟨by omega, by omega⟩) ?_
                            refine r_goto (tgt := 181) C (dk oX10_paper 104 rfl) (by decide) ?_
                            refine r_zast C _ (dk oX10_paper 106 rfl) rfl (km hn rfl) rfl (by omega) (by decide) (b32_or _) ?_
                            refine r_aload_n C 0 (dk oX10_paper 107 rfl) rfl ?_
                            refine r_getR C (dk oX10_paper 108 rfl) fl_X10_22 rfl (km hn rfl) ?_
                            refine r_iconst C (dk oX10_paper 109 rfl) (v := nI 0) (by decide) ?_
                            refine r_dup2 C (dk oX10_paper 110 rfl) rfl rfl ?_
                            refine r_iald C 0 (dk oX10_paper 111 rfl) rfl (km hn rfl) rfl (by decide) (by decide) ?_
                            rw [up2_ne (by decide), up2_ne (by decide), show up2 I3e 117 25 (nI 0) 122 0 = nI (sPp τ).1 from hMrz.2.1]
                            refine r_iconst C (dk oX10_paper 112 rfl) (v := nI 1) (by decide) ?_
                            refine r_iadd C (dk oX10_paper 113 rfl) ?_
                            rw [nI_add]
                            refine r_iast C 0 (dk oX10_paper 114 rfl) rfl (km hn rfl) rfl (by decide) (by decide) ?_
                            refine r_iload_n C 2 (dk oX10_paper 115 rfl) rfl ?_
                            refine hret (dk oX10_paper 116 rfl) rfl ?_
                            refine ⟨stP (rdS τ 0 pl) (adP (sPp τ) dd_ (sDu τ) aa), (by unfold q_paper; rw [if_neg (Classical.not_not.mpr hvd), cN_n (by omega), if_neg hld, if_neg (by omega)]; exact ⟨0, pl, aa, hPP, by rw [if_pos rfl]; exact ⟨rfl, rfl⟩⟩), MM.pa (τ := rdS τ 0 pl) (d := dd_) (aa := aa) hMr (by show (sPp τ).1 < 10; omega) h_d_ (fun f hf => by rw [up2_ne (by decide)]; exact haa.1 f hf) haa.2 rfl, fun k hk => by rw [up2_ne (by omega), up2_ne (by omega), up2_ne (by omega), up2_ne (by omega), hmE.1 k (by omega) (by omega) (by omega)]; exact hF1 k hk, rfl⟩
                      · rw [show (0 : Int32) = nI 0 from rfl, nI_leI (by omega) (by omega)] at hb130
                        have hf0 : ¬ fn = 0 := by omega
                        refine r_bipush C (dk oX10_paper 75 rfl) (v := -10) (by decide) ?_
                        refine r_aload_n C 0 (dk oX10_paper 76 rfl) rfl ?_
                        refine r_getI C (dk oX10_paper 77 rfl) fl_X10_145 rfl (km hn rfl) ?_
                        rw [up2_off (by decide), h29e]
                        refine r_isub C (dk oX10_paper 78 rfl) ?_
                        refine hret (dk oX10_paper 79 rfl) rfl ?_
                        exact ⟨rdS τ fn pl, (by unfold q_paper; rw [if_neg (Classical.not_not.mpr hvd), cN_n (by omega), if_neg hld, if_neg (by omega)]; exact ⟨fn, pl, aa, hPP, by rw [if_neg hf0]; exact ⟨rfl, rfl⟩⟩), hMr, fun k hk => by rw [up2_ne (by omega), hmE.1 k (by omega) (by omega) (by omega)]; exact hF1 k hk, rfl⟩
                    · rw [hr_lt (fun h => (hPS1.1.2.2 _ h).1)] at hb110
                      have hb110 := Classical.not_not.mp hb110
                      refine r_aload_n C 0 (dk oX10_paper 65 rfl) rfl ?_
                      refine r_iload_n C 2 (dk oX10_paper 66 rfl) rfl ?_
                      refine r_ivv C Z (dk oX10_paper 67 rfl) cl_X10_250 ci_X10_takeClause rfl (km hn rfl) (c_X10_takeClause hn I107 J (sT τ) (sL τ) (sPp τ).1 (sk (sT τ) (sL τ) a1) ks1 k1 ac1 (by omega) (sPhi τ) ((hMc.P hX).of (fun c a b => hhA107 c (by omega))) hok (hPS1.at hhA107 (fun i a _ _ => hhB107 i a) hh107 (sk_le hPS1.2.2.1)) (by rw [sk_sk]; exact hb110)) rfl rfl (Nat.le_of_ble_eq_true rfl) ⟨Nat.le_of_ble_eq_true rfl, Nat.le_of_ble_eq_true rfl⟩ ⟨Nat.zero_le _, Nat.zero_le _⟩ (fun I115 J115 h115 => ?_)
                      obtain ⟨e2_, hX115, ho115⟩ := h115
                      rw [sk_sk] at ho115
                      have e2_ := e2_.symm
                      subst e2_
                      refine r_goto (tgt := 99) C (dk oX10_paper 68 rfl) (by decide) ?_
                      refine V.sub [0, 1, 2] rfl ?_
                      have hs1 : sk (sT τ) (sL τ) a1 ≤ sL τ := sk_le hPS1.2.2.1
                      rcases ho115 with h | ⟨a2, ks2, k2, ac2, h1, h2, h3⟩
                      · exact ih 0 _ (by omega) ((hX.tr (hereP hhA107 hhB107)).tr hX115) (Or.inr (h.to hr))
                      · exact ih (sL τ + 1 - sk (sT τ) (sL τ) a2) _ (by omega) ((hX.tr (hereP hhA107 hhB107)).tr hX115) (Or.inl ⟨a2, ks2, k2, ac2, rfl, h1, hr.trans h2⟩)
              refine V.sub [0, 1, 2] rfl ?_
              refine L99 (sL τ + 1 - sk (sT τ) (sL τ) 0 + 1) (sL τ + 1 - sk (sT τ) (sL τ) 0) I2 (by omega) (mPX.rf _ _) (Or.inl ⟨0, 0, 0, ac0, rfl, ⟨?_, ?_, Nat.zero_le _, ?_, ?_, ?_, by decide, ?_, fun f hf => hc0 f (by omega), fun f => Nat.zero_le _⟩, rchP.rf⟩)
              · exact hMM1.2.2.2.1.of (by rw [hcF 117 (by decide), up2_off (by decide), up2_off (by decide), hO60 117 (by decide)]; exact hB7 25 (Or.inr rfl)) (by rw [hcF 141 (by decide), up2_ne (by decide), up2_ne (by decide), hO60 141 (by decide)]; exact hBm 141 (by decide))
              · rw [hcF 117 (by decide), up2_off (by decide), up2_off (by decide), hO60 117 (by decide)]; exact hB26
              · rw [hcF 117 (by decide), up2_off (by decide), up2_off (by decide), hO60 117 (by decide)]; exact hB29
              · rw [hcF 117 (by decide), up2_off (by decide), up2_off (by decide), hO60 117 (by decide)]; exact hB30
              · rw [hcF 117 (by decide), up2_off (by decide), up2_at]
              · rw [hcF 117 (by decide), up2_at]
                refine congrArg nI ?_
                apply Nat.eq_of_testBit_eq
                intro i
                rw [bS_bit, Nat.zero_testBit]
                show false = (decide (i < 12) && decide ((0 : Nat) ≠ 0))
                rw [decide_eq_false (show ¬ ((0 : Nat) ≠ 0) from fun q => q rfl), Bool.and_false]
            · simp (disch := omega) only [nI_leI, nI_ltI, nI_eq, nI_eq0] at hb78
              refine r_aload_n C 0 (dk oX10_paper 48 rfl) rfl ?_
              refine r_getR C (dk oX10_paper 49 rfl) fl_X10_32 rfl (km hn rfl) ?_
              refine r_bipush C (dk oX10_paper 50 rfl) (v := nI 12) (by decide) ?_
              refine r_iload_n C 2 (dk oX10_paper 51 rfl) rfl ?_
              refine r_imul C (dk oX10_paper 52 rfl) ?_
              rw [pk_mul]
              refine r_iload_n C 3 (dk oX10_paper 53 rfl) rfl ?_
              refine r_iadd C (dk oX10_paper 54 rfl) ?_
              rw [nI_add]
              refine r_iconst C (dk oX10_paper 55 rfl) (v := nI 0) (by decide) ?_
              refine r_iast C _ (dk oX10_paper 56 rfl) rfl (km hn rfl) rfl (by omega) (by decide) ?_
              refine r_iinc (lo' := [(3, _), (0, _), (1, _), (2, _)]) C 3 (dk oX10_paper 57 rfl) rfl (by first | exact nI_inc _ | rfl) (by decide) rfl ?_
              refine r_goto (tgt := 75) C (dk oX10_paper 58 rfl) (by decide) ?_
              refine V.sub [1, 2, 3, 0] rfl ?_
              refine ih (f_ + 1) _ (by omega) (by omega) (fun k hk => by rw [up2_ne hk]; exact hcF k hk) (fun f hf2 => ?_) (fun j hj => by rw [up2_off (by omega)]; exact hcR j hj)
              by_cases e : f = f_
              · rw [e, up2_at]
              · rw [up2_off (by omega)]; exact hc0 f (by omega)
        refine V.sub [2, 3, 1, 0] rfl ?_
        exact L75 13 0 _ (by omega) (Nat.zero_le _) (fun _ _ => rfl) (fun f hf => absurd hf (Nat.not_lt_zero _)) (fun _ _ => rfl)
      · simp (disch := omega) only [nI_leI, nI_ltI, nI_eq, nI_eq0] at hb48
        refine r_ldc C (dk oX10_paper 30 rfl) kn_X10_139 ?_
        refine hret (dk oX10_paper 31 rfl) rfl ?_
        exact ⟨τ, (by unfold q_paper; rw [if_neg (Classical.not_not.mpr hvd), cN_n (by omega), if_neg hld, if_pos (by omega)]; exact ⟨rfl, rfl⟩), hMM1, hF1, rfl⟩
    · rw [show (0 : Int32) = nI 0 from rfl] at hb27
      simp (disch := omega) only [nI_leI, nI_ltI, nI_eq, nI_eq0] at hb27
      refine r_iload_n C 2 (dk oX10_paper 17 rfl) rfl ?_
      refine r_aload_n C 1 (dk oX10_paper 18 rfl) rfl ?_
      refine r_getR C (dk oX10_paper 19 rfl) fl_X10_25 rfl (km hn rfl) ?_
      refine r_iload_n C 0 (dk oX10_paper 20 rfl) rfl ?_
      refine r_iconst C (dk oX10_paper 21 rfl) (v := nI 1) (by decide) ?_
      refine r_isub C (dk oX10_paper 22 rfl) ?_
      rw [pk_sub (by omega)]
      refine r_iald C _ (dk oX10_paper 23 rfl) rfl (km hn rfl) rfl (by omega) (by decide) ?_
      have qd := hPz.2.2 ((sPp τ).1 - 1) (by omega)
      rw [qd.1]
      refine r_icmp_ge (tgt := 45) C (dk oX10_paper 24 rfl) (by decide) (fun hb39 => ?_) (fun hb39 => ?_)
      · simp (disch := omega) only [nI_leI, nI_ltI, nI_eq, nI_eq0] at hb39
        have hld : ¬ dd_ < ldN (sPp τ) := by unfold ldN; rw [if_neg (by omega)]; omega
        refine r_iload_n C 0 (dk oX10_paper 27 rfl) rfl ?_
        refine r_bipush C (dk oX10_paper 28 rfl) (v := nI 10) (by decide) ?_
        refine r_icmp_ne (tgt := 54) C (dk oX10_paper 29 rfl) (by decide) (fun hb48 => ?_) (fun hb48 => ?_)
        · simp (disch := omega) only [nI_leI, nI_ltI, nI_eq, nI_eq0] at hb48
          have hn10 : (sPp τ).1 < 10 := by omega
          refine r_aload_n C 1 (dk oX10_paper 32 rfl) rfl ?_
          refine r_ivv C Z (dk oX10_paper 33 rfl) cl_X10_222 ci_X10_beginReading rfl (km hn rfl) (c_X10_beginReading hn I1 J) rfl rfl (Nat.le_of_ble_eq_true rfl) ⟨Nat.le_of_ble_eq_true rfl, Nat.le_of_ble_eq_true rfl⟩ ⟨Nat.zero_le _, Nat.zero_le _⟩ (fun I55 J55 h55 => ?_)
          obtain ⟨e1_, e2_⟩ := h55
          have e2_ := e2_.symm
          subst e2_
          have hB26 : I55 117 26 = nI 0 := by rw [e1_, up2_off (by decide), up2_off (by decide), up2_at]
          have hB29 : I55 117 29 = nI 0 := by rw [e1_, up2_off (by decide), up2_at]
          have hB30 : I55 117 30 = -1 := by rw [e1_, up2_at]
          have hBm : ∀ k, k ≠ 117 → I55 k = I1 k := fun k hk => by rw [e1_, up2_ne hk, up2_ne hk, up2_ne hk]
          have hB7 : ∀ i, i = 17 ∨ i = 25 → I55 117 i = I1 117 i := fun i hi => by rw [e1_, up2_off (by omega), up2_off (by omega), up2_off (by omega)]
          clear e1_
          refine r_aload_n C 1 (dk oX10_paper 34 rfl) rfl ?_
          refine r_iconst C (dk oX10_paper 35 rfl) (v := -1) (by decide) ?_
          refine r_ivv C Z (dk oX10_paper 36 rfl) cl_X10_247 ci_X10_hearAll rfl (km hn rfl) (c_X10_hearAll hn I55 J (sPp τ).1 (sPp τ).2.1 (sPp τ).2.2.1 (sPp τ).2.2.2 (hMM1.pap.st (fun k a b => hBm k (by omega))) (-1)) rfl rfl (Nat.le_of_ble_eq_true rfl) ⟨Nat.le_of_ble_eq_true rfl, Nat.le_of_ble_eq_true rfl⟩ ⟨Nat.zero_le _, Nat.zero_le _⟩ (fun I60 J60 h60 => ?_)
          obtain ⟨hM60, _, hO60, e2_⟩ := h60
          rw [ph_eq (τ := τ) hnp] at hM60
          have e2_ := e2_.symm
          subst e2_
          refine r_aload_n C 1 (dk oX10_paper 37 rfl) rfl ?_
          refine r_iconst C (dk oX10_paper 38 rfl) (v := nI 0) (by decide) ?_
          refine r_putI C (dk oX10_paper 39 rfl) fl_X10_238 ft_10_36 rfl (km hn rfl) ?_
          refine r_aload_n C 1 (dk oX10_paper 40 rfl) rfl ?_
          refine r_iconst C (dk oX10_paper 41 rfl) (v := nI 0) (by decide) ?_
          refine r_putI C (dk oX10_paper 42 rfl) fl_X10_228 ft_10_37 rfl (km hn rfl) ?_
          refine r_iconst C (dk oX10_paper 43 rfl) (v := nI 0) (by decide) ?_
          refine r_istore_n (lo' := [(3, _), (2, _), (0, _), (1, _)]) C (dk oX10_paper 44 rfl) rfl (by decide) rfl ?_
          have L75 : ∀ (d_ : Nat) (f_ : Nat) (I2 : MI), 12 - f_ < d_ → f_ ≤ 12 → (∀ k, k ≠ 125 → I2 k = (up2 (up2 I60 117 36 (nI 0)) 117 37 (nI 0)) k) → (∀ f, f < f_ → I2 125 (12 * (sPp τ).1 + f) = nI 0) → (∀ j, j < 12 * (sPp τ).1 ∨ 12 * (sPp τ).1 + 12 ≤ j → I2 125 j = (up2 (up2 I60 117 36 (nI 0)) 117 37 (nI 0)) 125 j) → V p l e (rmL 6) s m args below meth c Q D A 4 0 0 n ad (mE cA ad I2 J) 75 [(0, .ref (ad 117)), (1, .int (nI dd_)), (2, .int (nI (sPp τ).1)), (3, .int (nI f_))] [] := by
            intro d_
            induction d_ with
            | zero => intros; exact absurd (by assumption) (Nat.not_lt_zero _)
            | succ d_ ih => 
              intro f_ I2 hd0 hf hcF hc0 hcR
              refine r_iload_n C 3 (dk oX10_paper 45 rfl) rfl ?_
              refine r_bipush C (dk oX10_paper 46 rfl) (v := nI 12) (by decide) ?_
              refine r_icmp_ge (tgt := 99) C (dk oX10_paper 47 rfl) (by decide) (fun hb78 => ?_) (fun hb78 => ?_)
              · simp (disch := omega) only [nI_leI, nI_ltI, nI_eq, nI_eq0] at hb78
                have hMc : FcM I2 134 (sPhi τ) := hM60.of (fun c a b => by rw [hcF c (by omega), up2_ne (by omega), up2_ne (by omega)])
                have hMcM : paM (sPp τ).1 I1 I2 := ⟨fun k a b c => by rw [hcF k b, up2_ne a, up2_ne a, hO60 k (by omega)]; exact hBm k a, fun i hi => by rw [hcF 117 (by decide), up2_off (by omega), up2_off (by omega), hO60 117 (by decide)]; exact hB7 i hi, fun j hj => by rw [hcR j hj, up2_ne (by decide), up2_ne (by decide), hO60 125 (by decide), hBm 125 (by decide)]⟩
                have L99 : ∀ (d_ : Nat) (m_ : Nat) (I3 : MI), m_ < d_ → mPX (sPp τ).1 I2 I3 → ((∃ a1 ks1 k1 ac1, m_ = sL τ + 1 - sk (sT τ) (sL τ) a1 ∧ mPS I3 (sT τ) (sL τ) (sPp τ).1 a1 ks1 ac1 ∧ rchP (stpP (sT τ) (sL τ) (sPp τ).1 (sPhi τ)) (0, sk (sT τ) (sL τ) 0, 0, 0, ac0) (0, sk (sT τ) (sL τ) a1, ks1, k1, ac1)) ∨ mPB (sT τ) (sL τ) (sPp τ).1 (sPhi τ) (0, sk (sT τ) (sL τ) 0, 0, 0, ac0) I3) → V p l e (rmL 6) s m args below meth c Q D A 4 0 0 n ad (mE cA ad I3 J) 99 [(0, .ref (ad 117)), (1, .int (nI dd_)), (2, .int (nI (sPp τ).1))] [] := by
                  intro d_
                  induction d_ with
                  | zero => intros; exact absurd (by assumption) (Nat.not_lt_zero _)
                  | succ d_ ih => 
                    intro m_ I3 hd_ hX hI
                    refine r_aload_n C 0 (dk oX10_paper 59 rfl) rfl ?_
                    refine r_getI C (dk oX10_paper 60 rfl) fl_X10_145 rfl (km hn rfl) ?_
                    refine r_if_ne (tgt := 121) C (dk oX10_paper 61 rfl) (by decide) (fun hb103 => ?_) (fun hb103 => ?_)
                    · have hE : ∃ f pl a, paE τ I1 I3 f pl a := by
                        rcases hI with ⟨a1, ks1, k1, ac1, hm, hPS1, _⟩ | h
                        · exact absurd hPS1.zf hb103
                        · exact paE.b (hMcM.tr hX.M) h
                      obtain ⟨I3e, hI3e⟩ : ∃ X, X = I3 := ⟨_, rfl⟩
                      rw [← hI3e] at hE
                      rw [← hI3e]
                      clear hI3e
                      obtain ⟨fn, pl, aa, hPP, hmE, h29e, h30e, haE⟩ := hE
                      have hfn := hPP.1
                      clear hI
                      have hMr := hMM1.rp (f := fn) (pl := pl) hn10 hmE h30e
                      refine r_aload_n C 0 (dk oX10_paper 69 rfl) rfl ?_
                      refine r_iconst C (dk oX10_paper 70 rfl) (v := nI 0) (by decide) ?_
                      refine r_putI C (dk oX10_paper 71 rfl) fl_X10_136 ft_10_25 rfl (km hn rfl) ?_
                      refine r_aload_n C 0 (dk oX10_paper 72 rfl) rfl ?_
                      refine r_getI C (dk oX10_paper 73 rfl) fl_X10_145 rfl (km hn rfl) ?_
                      rw [up2_off (by decide), h29e]
                      refine r_if_le (tgt := 141) C (dk oX10_paper 74 rfl) (by decide) (fun hb130 => ?_) (fun hb130 => ?_)
                      · rw [show (0 : Int32) = nI 0 from rfl, nI_leI (by omega) (by omega)] at hb130
                        have hf0 : fn = 0 := by omega
                        subst hf0
                        have haa := haE rfl
                        have hMrz := hMr.pap.zz
                        rw [show sPp (rdS τ 0 pl) = sPp τ from rfl] at hMrz
                        refine r_aload_n C 0 (dk oX10_paper 80 rfl) rfl ?_
                        refine r_getR C (dk oX10_paper 81 rfl) fl_X10_25 rfl (km hn rfl) ?_
                        refine r_iload_n C 2 (dk oX10_paper 82 rfl) rfl ?_
                        refine r_iload_n C 1 (dk oX10_paper 83 rfl) rfl ?_
                        refine r_iast C _ (dk oX10_paper 84 rfl) rfl (km hn rfl) rfl (by omega) (by decide) ?_
                        refine r_aload_n C 0 (dk oX10_paper 85 rfl) rfl ?_
                        refine r_getR C (dk oX10_paper 86 rfl) fl_X10_28 rfl (km hn rfl) ?_
                        refine r_iload_n C 2 (dk oX10_paper 87 rfl) rfl ?_
                        refine r_iload_n C 2 (dk oX10_paper 88 rfl) rfl ?_
                        refine r_if_le (tgt := 180) C (dk oX10_paper 89 rfl) (by decide) (fun hb154 => ?_) (fun hb154 => ?_)
                        · rw [show (0 : Int32) = nI 0 from rfl] at hb154
                          simp (disch := omega) only [nI_leI, nI_ltI, nI_eq, nI_eq0] at hb154
                          refine r_iconst C (dk oX10_paper 105 rfl) (v := nI 0) (by decide) ?_
                          refine r_topI (show nI 0 = b32 (decide (0 < (sPp τ).1 ∧ sDu τ < dd_ - (sPp τ).2.1 ((sPp τ).1 - 1))) from by
                            first
                              | exact b32_df (fun q => absurd q.2 (Nat.not_lt.mpr hb173))
                              | exact b32_df (fun q => absurd q.1 (Nat.not_lt.mpr hb154))) ?_
                          refine r_zast C _ (dk oX10_paper 106 rfl) rfl (km hn rfl) rfl (by omega) (by decide) (b32_or _) ?_
                          refine r_aload_n C 0 (dk oX10_paper 107 rfl) rfl ?_
                          refine r_getR C (dk oX10_paper 108 rfl) fl_X10_22 rfl (km hn rfl) ?_
                          refine r_iconst C (dk oX10_paper 109 rfl) (v := nI 0) (by decide) ?_
                          refine r_dup2 C (dk oX10_paper 110 rfl) rfl rfl ?_
                          refine r_iald C 0 (dk oX10_paper 111 rfl) rfl (km hn rfl) rfl (by decide) (by decide) ?_
                          rw [up2_ne (by decide), up2_ne (by decide), show up2 I3e 117 25 (nI 0) 122 0 = nI (sPp τ).1 from hMrz.2.1]
                          refine r_iconst C (dk oX10_paper 112 rfl) (v := nI 1) (by decide) ?_
                          refine r_iadd C (dk oX10_paper 113 rfl) ?_
                          rw [nI_add]
                          refine r_iast C 0 (dk oX10_paper 114 rfl) rfl (km hn rfl) rfl (by decide) (by decide) ?_
                          refine r_iload_n C 2 (dk oX10_paper 115 rfl) rfl ?_
                          refine hret (dk oX10_paper 116 rfl) rfl ?_
                          refine ⟨stP (rdS τ 0 pl) (adP (sPp τ) dd_ (sDu τ) aa), (by unfold q_paper; rw [if_neg (Classical.not_not.mpr hvd), cN_n (by omega), if_neg hld, if_neg (by omega)]; exact ⟨0, pl, aa, hPP, by rw [if_pos rfl]; exact ⟨rfl, rfl⟩⟩), MM.pa (τ := rdS τ 0 pl) (d := dd_) (aa := aa) hMr (by show (sPp τ).1 < 10; omega) h_d_ (fun f hf => by rw [up2_ne (by decide)]; exact haa.1 f hf) haa.2 rfl, fun k hk => by rw [up2_ne (by omega), up2_ne (by omega), up2_ne (by omega), up2_ne (by omega), hmE.1 k (by omega) (by omega) (by omega)]; exact hF1 k hk, rfl⟩
                        · rw [show (0 : Int32) = nI 0 from rfl] at hb154
                          simp (disch := omega) only [nI_leI, nI_ltI, nI_eq, nI_eq0] at hb154
                          have hldd : (sPp τ).2.1 ((sPp τ).1 - 1) ≤ dd_ := by
                            have h := hld
                            unfold ldN at h
                            rw [if_neg (by omega)] at h
                            omega
                          refine r_iload_n C 1 (dk oX10_paper 90 rfl) rfl ?_
                          refine r_aload_n C 0 (dk oX10_paper 91 rfl) rfl ?_
                          refine r_getR C (dk oX10_paper 92 rfl) fl_X10_25 rfl (km hn rfl) ?_
                          refine r_iload_n C 2 (dk oX10_paper 93 rfl) rfl ?_
                          refine r_iconst C (dk oX10_paper 94 rfl) (v := nI 1) (by decide) ?_
                          refine r_isub C (dk oX10_paper 95 rfl) ?_
                          rw [pk_sub (by omega)]
                          refine r_iald C _ (dk oX10_paper 96 rfl) rfl (km hn rfl) rfl (by omega) (by decide) ?_
                          have qd2 := hMrz.2.2 ((sPp τ).1 - 1) (by omega)
                          rw [up2_off (by omega), qd2.1]
                          refine r_isub C (dk oX10_paper 97 rfl) ?_
                          rw [pk_sub (by omega)]
                          refine r_aload_n C 0 (dk oX10_paper 98 rfl) rfl ?_
                          refine r_getR C (dk oX10_paper 99 rfl) fl_X10_53 rfl (km hn rfl) ?_
                          refine r_iconst C (dk oX10_paper 100 rfl) (v := nI 0) (by decide) ?_
                          refine r_iald C 0 (dk oX10_paper 101 rfl) rfl (km hn rfl) rfl (by decide) (by decide) ?_
                          rw [up2_ne (by decide), show up2 I3e 117 25 (nI 0) 132 0 = nI (sDu τ) from by rw [up2_ne (by decide), hmE.1 132 (by decide) (by decide) (by decide)]; exact hdu1]
                          refine r_icmp_le (tgt := 180) C (dk oX10_paper 102 rfl) (by decide) (fun hb173 => ?_) (fun hb173 => ?_)
                          · simp (disch := omega) only [nI_leI, nI_ltI, nI_eq, nI_eq0] at hb173
                            refine r_iconst C (dk oX10_paper 105 rfl) (v := nI 0) (by decide) ?_
                            refine r_topI (show nI 0 = b32 (decide (0 < (sPp τ).1 ∧ sDu τ < dd_ - (sPp τ).2.1 ((sPp τ).1 - 1))) from by
                              first
                                | exact b32_df (fun q => absurd q.2 (Nat.not_lt.mpr hb173))
                                | exact b32_df (fun q => absurd q.1 (Nat.not_lt.mpr hb154))) ?_
                            refine r_zast C _ (dk oX10_paper 106 rfl) rfl (km hn rfl) rfl (by omega) (by decide) (b32_or _) ?_
                            refine r_aload_n C 0 (dk oX10_paper 107 rfl) rfl ?_
                            refine r_getR C (dk oX10_paper 108 rfl) fl_X10_22 rfl (km hn rfl) ?_
                            refine r_iconst C (dk oX10_paper 109 rfl) (v := nI 0) (by decide) ?_
                            refine r_dup2 C (dk oX10_paper 110 rfl) rfl rfl ?_
                            refine r_iald C 0 (dk oX10_paper 111 rfl) rfl (km hn rfl) rfl (by decide) (by decide) ?_
                            rw [up2_ne (by decide), up2_ne (by decide), show up2 I3e 117 25 (nI 0) 122 0 = nI (sPp τ).1 from hMrz.2.1]
                            refine r_iconst C (dk oX10_paper 112 rfl) (v := nI 1) (by decide) ?_
                            refine r_iadd C (dk oX10_paper 113 rfl) ?_
                            rw [nI_add]
                            refine r_iast C 0 (dk oX10_paper 114 rfl) rfl (km hn rfl) rfl (by decide) (by decide) ?_
                            refine r_iload_n C 2 (dk oX10_paper 115 rfl) rfl ?_
                            refine hret (dk oX10_paper 116 rfl) rfl ?_
                            refine ⟨stP (rdS τ 0 pl) (adP (sPp τ) dd_ (sDu τ) aa), (by unfold q_paper; rw [if_neg (Classical.not_not.mpr hvd), cN_n (by omega), if_neg hld, if_neg (by omega)]; exact ⟨0, pl, aa, hPP, by rw [if_pos rfl]; exact ⟨rfl, rfl⟩⟩), MM.pa (τ := rdS τ 0 pl) (d := dd_) (aa := aa) hMr (by show (sPp τ).1 < 10; omega) h_d_ (fun f hf => by rw [up2_ne (by decide)]; exact haa.1 f hf) haa.2 rfl, fun k hk => by rw [up2_ne (by omega), up2_ne (by omega), up2_ne (by omega), up2_ne (by omega), hmE.1 k (by omega) (by omega) (by omega)]; exact hF1 k hk, rfl⟩
                          · simp (disch := omega) only [nI_leI, nI_ltI, nI_eq, nI_eq0] at hb173
                            refine r_iconst C (dk oX10_paper 103 rfl) (v := nI 1) (by decide) ?_
                            refine r_topI (show nI 1 = b32 (decide (0 < (sPp τ).1 ∧ sDu τ < dd_ - (sPp τ).2.1 ((sPp τ).1 - 1))) from b32_dt ⟨by omega, by omega⟩) ?_
                            refine r_goto (tgt := 181) C (dk oX10_paper 104 rfl) (by decide) ?_
                            refine r_zast C _ (dk oX10_paper 106 rfl) rfl (km hn rfl) rfl (by omega) (by decide) (b32_or _) ?_
                            refine r_aload_n C 0 (dk oX10_paper 107 rfl) rfl ?_
                            refine r_getR C (dk oX10_paper 108 rfl) fl_X10_22 rfl (km hn rfl) ?_
                            refine r_iconst C (dk oX10_paper 109 rfl) (v := nI 0) (by decide) ?_
                            refine r_dup2 C (dk oX10_paper 110 rfl) rfl rfl ?_
                            refine r_iald C 0 (dk oX10_paper 111 rfl) rfl (km hn rfl) rfl (by decide) (by decide) ?_
                            rw [up2_ne (by decide), up2_ne (by decide), show up2 I3e 117 25 (nI 0) 122 0 = nI (sPp τ).1 from hMrz.2.1]
                            refine r_iconst C (dk oX10_paper 112 rfl) (v := nI 1) (by decide) ?_
                            refine r_iadd C (dk oX10_paper 113 rfl) ?_
                            rw [nI_add]
                            refine r_iast C 0 (dk oX10_paper 114 rfl) rfl (km hn rfl) rfl (by decide) (by decide) ?_
                            refine r_iload_n C 2 (dk oX10_paper 115 rfl) rfl ?_
                            refine hret (dk oX10_paper 116 rfl) rfl ?_
                            refine ⟨stP (rdS τ 0 pl) (adP (sPp τ) dd_ (sDu τ) aa), (by unfold q_paper; rw [if_neg (Classical.not_not.mpr hvd), cN_n (by omega), if_neg hld, if_neg (by omega)]; exact ⟨0, pl, aa, hPP, by rw [if_pos rfl]; exact ⟨rfl, rfl⟩⟩), MM.pa (τ := rdS τ 0 pl) (d := dd_) (aa := aa) hMr (by show (sPp τ).1 < 10; omega) h_d_ (fun f hf => by rw [up2_ne (by decide)]; exact haa.1 f hf) haa.2 rfl, fun k hk => by rw [up2_ne (by omega), up2_ne (by omega), up2_ne (by omega), up2_ne (by omega), hmE.1 k (by omega) (by omega) (by omega)]; exact hF1 k hk, rfl⟩
                      · rw [show (0 : Int32) = nI 0 from rfl, nI_leI (by omega) (by omega)] at hb130
                        have hf0 : ¬ fn = 0 := by omega
                        refine r_bipush C (dk oX10_paper 75 rfl) (v := -10) (by decide) ?_
                        refine r_aload_n C 0 (dk oX10_paper 76 rfl) rfl ?_
                        refine r_getI C (dk oX10_paper 77 rfl) fl_X10_145 rfl (km hn rfl) ?_
                        rw [up2_off (by decide), h29e]
                        refine r_isub C (dk oX10_paper 78 rfl) ?_
                        refine hret (dk oX10_paper 79 rfl) rfl ?_
                        exact ⟨rdS τ fn pl, (by unfold q_paper; rw [if_neg (Classical.not_not.mpr hvd), cN_n (by omega), if_neg hld, if_neg (by omega)]; exact ⟨fn, pl, aa, hPP, by rw [if_neg hf0]; exact ⟨rfl, rfl⟩⟩), hMr, fun k hk => by rw [up2_ne (by omega), hmE.1 k (by omega) (by omega) (by omega)]; exact hF1 k hk, rfl⟩
                    · obtain ⟨a1, ks1, k1, ac1, hm, hPS1, hr⟩ : ∃ a1 ks1 k1 ac1, m_ = sL τ + 1 - sk (sT τ) (sL τ) a1 ∧ mPS I3 (sT τ) (sL τ) (sPp τ).1 a1 ks1 ac1 ∧ rchP (stpP (sT τ) (sL τ) (sPp τ).1 (sPhi τ)) (0, sk (sT τ) (sL τ) 0, 0, 0, ac0) (0, sk (sT τ) (sL τ) a1, ks1, k1, ac1) := by
                        rcases hI with h | h
                        · exact h
                        · exact absurd hb103 h.nz
                      refine r_aload_n C 0 (dk oX10_paper 62 rfl) rfl ?_
                      refine r_ivi C Z (dk oX10_paper 63 rfl) cl_X10_148 ci_X10_here rfl (km hn rfl) (c_X10_here hn I3 J (sT τ) (sL τ) (hPS1.1) (a1) (hPS1.2.1) (hPS1.2.2.1)) rfl rfl (Nat.le_of_ble_eq_true rfl) ⟨Nat.le_of_ble_eq_true rfl, Nat.le_of_ble_eq_true rfl⟩ ⟨Nat.zero_le _, Nat.zero_le _⟩ (fun r107 I107 J107 h107 => ?_)
                      obtain ⟨e1_, hh107, hhA107, hhB107, e2_⟩ := h107
                      have e1_ := e1_.symm
                      have e2_ := e2_.symm
                      subst e1_
                      subst e2_
                      refine r_if_lt (tgt := 121) C (dk oX10_paper 64 rfl) (by decide) (fun hb110 => ?_) (fun hb110 => ?_)
                      · rw [hr_lt (fun h => (hPS1.1.2.2 _ h).1)] at hb110
                        have hE : ∃ f pl a, paE τ I1 I107 f pl a := paE.e ((hMcM.tr hX.M).tr (hereP hhA107 hhB107).M) (hPS1.at hhA107 (fun i a _ _ => hhB107 i a) hh107 (sk_le hPS1.2.2.1)) (by rw [sk_sk]; exact hr) (by rw [sk_sk]; exact hb110)
                        obtain ⟨I3e, hI3e⟩ : ∃ X, X = I107 := ⟨_, rfl⟩
                        rw [← hI3e] at hE
                        rw [← hI3e]
                        clear hI3e
                        obtain ⟨fn, pl, aa, hPP, hmE, h29e, h30e, haE⟩ := hE
                        have hfn := hPP.1
                        clear hI
                        have hMr := hMM1.rp (f := fn) (pl := pl) hn10 hmE h30e
                        refine r_aload_n C 0 (dk oX10_paper 69 rfl) rfl ?_
                        refine r_iconst C (dk oX10_paper 70 rfl) (v := nI 0) (by decide) ?_
                        refine r_putI C (dk oX10_paper 71 rfl) fl_X10_136 ft_10_25 rfl (km hn rfl) ?_
                        refine r_aload_n C 0 (dk oX10_paper 72 rfl) rfl ?_
                        refine r_getI C (dk oX10_paper 73 rfl) fl_X10_145 rfl (km hn rfl) ?_
                        rw [up2_off (by decide), h29e]
                        refine r_if_le (tgt := 141) C (dk oX10_paper 74 rfl) (by decide) (fun hb130 => ?_) (fun hb130 => ?_)
                        · rw [show (0 : Int32) = nI 0 from rfl, nI_leI (by omega) (by omega)] at hb130
                          have hf0 : fn = 0 := by omega
                          subst hf0
                          have haa := haE rfl
                          have hMrz := hMr.pap.zz
                          rw [show sPp (rdS τ 0 pl) = sPp τ from rfl] at hMrz
                          refine r_aload_n C 0 (dk oX10_paper 80 rfl) rfl ?_
                          refine r_getR C (dk oX10_paper 81 rfl) fl_X10_25 rfl (km hn rfl) ?_
                          refine r_iload_n C 2 (dk oX10_paper 82 rfl) rfl ?_
                          refine r_iload_n C 1 (dk oX10_paper 83 rfl) rfl ?_
                          refine r_iast C _ (dk oX10_paper 84 rfl) rfl (km hn rfl) rfl (by omega) (by decide) ?_
                          refine r_aload_n C 0 (dk oX10_paper 85 rfl) rfl ?_
                          refine r_getR C (dk oX10_paper 86 rfl) fl_X10_28 rfl (km hn rfl) ?_
                          refine r_iload_n C 2 (dk oX10_paper 87 rfl) rfl ?_
                          refine r_iload_n C 2 (dk oX10_paper 88 rfl) rfl ?_
                          refine r_if_le (tgt := 180) C (dk oX10_paper 89 rfl) (by decide) (fun hb154 => ?_) (fun hb154 => ?_)
                          · rw [show (0 : Int32) = nI 0 from rfl] at hb154
                            simp (disch := omega) only [nI_leI, nI_ltI, nI_eq, nI_eq0] at hb154
                            refine r_iconst C (dk oX10_paper 105 rfl) (v := nI 0) (by decide) ?_
                            refine r_topI (show nI 0 = b32 (decide (0 < (sPp τ).1 ∧ sDu τ < dd_ - (sPp τ).2.1 ((sPp τ).1 - 1))) from by
                              first
                                | exact b32_df (fun q => absurd q.2 (Nat.not_lt.mpr hb173))
                                | exact b32_df (fun q => absurd q.1 (Nat.not_lt.mpr hb154))) ?_
                            refine r_zast C _ (dk oX10_paper 106 rfl) rfl (km hn rfl) rfl (by omega) (by decide) (b32_or _) ?_
                            refine r_aload_n C 0 (dk oX10_paper 107 rfl) rfl ?_
                            refine r_getR C (dk oX10_paper 108 rfl) fl_X10_22 rfl (km hn rfl) ?_
                            refine r_iconst C (dk oX10_paper 109 rfl) (v := nI 0) (by decide) ?_
                            refine r_dup2 C (dk oX10_paper 110 rfl) rfl rfl ?_
                            refine r_iald C 0 (dk oX10_paper 111 rfl) rfl (km hn rfl) rfl (by decide) (by decide) ?_
                            rw [up2_ne (by decide), up2_ne (by decide), show up2 I3e 117 25 (nI 0) 122 0 = nI (sPp τ).1 from hMrz.2.1]
                            refine r_iconst C (dk oX10_paper 112 rfl) (v := nI 1) (by decide) ?_
                            refine r_iadd C (dk oX10_paper 113 rfl) ?_
                            rw [nI_add]
                            refine r_iast C 0 (dk oX10_paper 114 rfl) rfl (km hn rfl) rfl (by decide) (by decide) ?_
                            refine r_iload_n C 2 (dk oX10_paper 115 rfl) rfl ?_
                            refine hret (dk oX10_paper 116 rfl) rfl ?_
                            refine ⟨stP (rdS τ 0 pl) (adP (sPp τ) dd_ (sDu τ) aa), (by unfold q_paper; rw [if_neg (Classical.not_not.mpr hvd), cN_n (by omega), if_neg hld, if_neg (by omega)]; exact ⟨0, pl, aa, hPP, by rw [if_pos rfl]; exact ⟨rfl, rfl⟩⟩), MM.pa (τ := rdS τ 0 pl) (d := dd_) (aa := aa) hMr (by show (sPp τ).1 < 10; omega) h_d_ (fun f hf => by rw [up2_ne (by decide)]; exact haa.1 f hf) haa.2 rfl, fun k hk => by rw [up2_ne (by omega), up2_ne (by omega), up2_ne (by omega), up2_ne (by omega), hmE.1 k (by omega) (by omega) (by omega)]; exact hF1 k hk, rfl⟩
                          · rw [show (0 : Int32) = nI 0 from rfl] at hb154
                            simp (disch := omega) only [nI_leI, nI_ltI, nI_eq, nI_eq0] at hb154
                            have hldd : (sPp τ).2.1 ((sPp τ).1 - 1) ≤ dd_ := by
                              have h := hld
                              unfold ldN at h
                              rw [if_neg (by omega)] at h
                              omega
                            refine r_iload_n C 1 (dk oX10_paper 90 rfl) rfl ?_
                            refine r_aload_n C 0 (dk oX10_paper 91 rfl) rfl ?_
                            refine r_getR C (dk oX10_paper 92 rfl) fl_X10_25 rfl (km hn rfl) ?_
                            refine r_iload_n C 2 (dk oX10_paper 93 rfl) rfl ?_
                            refine r_iconst C (dk oX10_paper 94 rfl) (v := nI 1) (by decide) ?_
                            refine r_isub C (dk oX10_paper 95 rfl) ?_
                            rw [pk_sub (by omega)]
                            refine r_iald C _ (dk oX10_paper 96 rfl) rfl (km hn rfl) rfl (by omega) (by decide) ?_
                            have qd2 := hMrz.2.2 ((sPp τ).1 - 1) (by omega)
                            rw [up2_off (by omega), qd2.1]
                            refine r_isub C (dk oX10_paper 97 rfl) ?_
                            rw [pk_sub (by omega)]
                            refine r_aload_n C 0 (dk oX10_paper 98 rfl) rfl ?_
                            refine r_getR C (dk oX10_paper 99 rfl) fl_X10_53 rfl (km hn rfl) ?_
                            refine r_iconst C (dk oX10_paper 100 rfl) (v := nI 0) (by decide) ?_
                            refine r_iald C 0 (dk oX10_paper 101 rfl) rfl (km hn rfl) rfl (by decide) (by decide) ?_
                            rw [up2_ne (by decide), show up2 I3e 117 25 (nI 0) 132 0 = nI (sDu τ) from by rw [up2_ne (by decide), hmE.1 132 (by decide) (by decide) (by decide)]; exact hdu1]
                            refine r_icmp_le (tgt := 180) C (dk oX10_paper 102 rfl) (by decide) (fun hb173 => ?_) (fun hb173 => ?_)
                            · simp (disch := omega) only [nI_leI, nI_ltI, nI_eq, nI_eq0] at hb173
                              refine r_iconst C (dk oX10_paper 105 rfl) (v := nI 0) (by decide) ?_
                              refine r_topI (show nI 0 = b32 (decide (0 < (sPp τ).1 ∧ sDu τ < dd_ - (sPp τ).2.1 ((sPp τ).1 - 1))) from by
                                first
                                  | exact b32_df (fun q => absurd q.2 (Nat.not_lt.mpr hb173))
                                  | exact b32_df (fun q => absurd q.1 (Nat.not_lt.mpr hb154))) ?_
                              refine r_zast C _ (dk oX10_paper 106 rfl) rfl (km hn rfl) rfl (by omega) (by decide) (b32_or _) ?_
                              refine r_aload_n C 0 (dk oX10_paper 107 rfl) rfl ?_
                              refine r_getR C (dk oX10_paper 108 rfl) fl_X10_22 rfl (km hn rfl) ?_
                              refine r_iconst C (dk oX10_paper 109 rfl) (v := nI 0) (by decide) ?_
                              refine r_dup2 C (dk oX10_paper 110 rfl) rfl rfl ?_
                              refine r_iald C 0 (dk oX10_paper 111 rfl) rfl (km hn rfl) rfl (by decide) (by decide) ?_
                              rw [up2_ne (by decide), up2_ne (by decide), show up2 I3e 117 25 (nI 0) 122 0 = nI (sPp τ).1 from hMrz.2.1]
                              refine r_iconst C (dk oX10_paper 112 rfl) (v := nI 1) (by decide) ?_
                              refine r_iadd C (dk oX10_paper 113 rfl) ?_
                              rw [nI_add]
                              refine r_iast C 0 (dk oX10_paper 114 rfl) rfl (km hn rfl) rfl (by decide) (by decide) ?_
                              refine r_iload_n C 2 (dk oX10_paper 115 rfl) rfl ?_
                              refine hret (dk oX10_paper 116 rfl) rfl ?_
                              refine ⟨stP (rdS τ 0 pl) (adP (sPp τ) dd_ (sDu τ) aa), (by unfold q_paper; rw [if_neg (Classical.not_not.mpr hvd), cN_n (by omega), if_neg hld, if_neg (by omega)]; exact ⟨0, pl, aa, hPP, by rw [if_pos rfl]; exact ⟨rfl, rfl⟩⟩), MM.pa (τ := rdS τ 0 pl) (d := dd_) (aa := aa) hMr (by show (sPp τ).1 < 10; omega) h_d_ (fun f hf => by rw [up2_ne (by decide)]; exact haa.1 f hf) haa.2 rfl, fun k hk => by rw [up2_ne (by omega), up2_ne (by omega), up2_ne (by omega), up2_ne (by omega), hmE.1 k (by omega) (by omega) (by omega)]; exact hF1 k hk, rfl⟩
                            · simp (disch := omega) only [nI_leI, nI_ltI, nI_eq, nI_eq0] at hb173
                              refine r_iconst C (dk oX10_paper 103 rfl) (v := nI 1) (by decide) ?_
                              refine r_topI (show nI 1 = b32 (decide (0 < (sPp τ).1 ∧ sDu τ < dd_ - (sPp τ).2.1 ((sPp τ).1 - 1))) from b32_dt ⟨by omega, by omega⟩) ?_
                              refine r_goto (tgt := 181) C (dk oX10_paper 104 rfl) (by decide) ?_
                              refine r_zast C _ (dk oX10_paper 106 rfl) rfl (km hn rfl) rfl (by omega) (by decide) (b32_or _) ?_
                              refine r_aload_n C 0 (dk oX10_paper 107 rfl) rfl ?_
                              refine r_getR C (dk oX10_paper 108 rfl) fl_X10_22 rfl (km hn rfl) ?_
                              refine r_iconst C (dk oX10_paper 109 rfl) (v := nI 0) (by decide) ?_
                              refine r_dup2 C (dk oX10_paper 110 rfl) rfl rfl ?_
                              refine r_iald C 0 (dk oX10_paper 111 rfl) rfl (km hn rfl) rfl (by decide) (by decide) ?_
                              rw [up2_ne (by decide), up2_ne (by decide), show up2 I3e 117 25 (nI 0) 122 0 = nI (sPp τ).1 from hMrz.2.1]
                              refine r_iconst C (dk oX10_paper 112 rfl) (v := nI 1) (by decide) ?_
                              refine r_iadd C (dk oX10_paper 113 rfl) ?_
                              rw [nI_add]
                              refine r_iast C 0 (dk oX10_paper 114 rfl) rfl (km hn rfl) rfl (by decide) (by decide) ?_
                              refine r_iload_n C 2 (dk oX10_paper 115 rfl) rfl ?_
                              refine hret (dk oX10_paper 116 rfl) rfl ?_
                              refine ⟨stP (rdS τ 0 pl) (adP (sPp τ) dd_ (sDu τ) aa), (by unfold q_paper; rw [if_neg (Classical.not_not.mpr hvd), cN_n (by omega), if_neg hld, if_neg (by omega)]; exact ⟨0, pl, aa, hPP, by rw [if_pos rfl]; exact ⟨rfl, rfl⟩⟩), MM.pa (τ := rdS τ 0 pl) (d := dd_) (aa := aa) hMr (by show (sPp τ).1 < 10; omega) h_d_ (fun f hf => by rw [up2_ne (by decide)]; exact haa.1 f hf) haa.2 rfl, fun k hk => by rw [up2_ne (by omega), up2_ne (by omega), up2_ne (by omega), up2_ne (by omega), hmE.1 k (by omega) (by omega) (by omega)]; exact hF1 k hk, rfl⟩
                        · rw [show (0 : Int32) = nI 0 from rfl, nI_leI (by omega) (by omega)] at hb130
                          have hf0 : ¬ fn = 0 := by omega
                          refine r_bipush C (dk oX10_paper 75 rfl) (v := -10) (by decide) ?_
                          refine r_aload_n C 0 (dk oX10_paper 76 rfl) rfl ?_
                          refine r_getI C (dk oX10_paper 77 rfl) fl_X10_145 rfl (km hn rfl) ?_
                          rw [up2_off (by decide), h29e]
                          refine r_isub C (dk oX10_paper 78 rfl) ?_
                          refine hret (dk oX10_paper 79 rfl) rfl ?_
                          exact ⟨rdS τ fn pl, (by unfold q_paper; rw [if_neg (Classical.not_not.mpr hvd), cN_n (by omega), if_neg hld, if_neg (by omega)]; exact ⟨fn, pl, aa, hPP, by rw [if_neg hf0]; exact ⟨rfl, rfl⟩⟩), hMr, fun k hk => by rw [up2_ne (by omega), hmE.1 k (by omega) (by omega) (by omega)]; exact hF1 k hk, rfl⟩
                      · rw [hr_lt (fun h => (hPS1.1.2.2 _ h).1)] at hb110
                        have hb110 := Classical.not_not.mp hb110
                        refine r_aload_n C 0 (dk oX10_paper 65 rfl) rfl ?_
                        refine r_iload_n C 2 (dk oX10_paper 66 rfl) rfl ?_
                        refine r_ivv C Z (dk oX10_paper 67 rfl) cl_X10_250 ci_X10_takeClause rfl (km hn rfl) (c_X10_takeClause hn I107 J (sT τ) (sL τ) (sPp τ).1 (sk (sT τ) (sL τ) a1) ks1 k1 ac1 (by omega) (sPhi τ) ((hMc.P hX).of (fun c a b => hhA107 c (by omega))) hok (hPS1.at hhA107 (fun i a _ _ => hhB107 i a) hh107 (sk_le hPS1.2.2.1)) (by rw [sk_sk]; exact hb110)) rfl rfl (Nat.le_of_ble_eq_true rfl) ⟨Nat.le_of_ble_eq_true rfl, Nat.le_of_ble_eq_true rfl⟩ ⟨Nat.zero_le _, Nat.zero_le _⟩ (fun I115 J115 h115 => ?_)
                        obtain ⟨e2_, hX115, ho115⟩ := h115
                        rw [sk_sk] at ho115
                        have e2_ := e2_.symm
                        subst e2_
                        refine r_goto (tgt := 99) C (dk oX10_paper 68 rfl) (by decide) ?_
                        refine V.sub [0, 1, 2] rfl ?_
                        have hs1 : sk (sT τ) (sL τ) a1 ≤ sL τ := sk_le hPS1.2.2.1
                        rcases ho115 with h | ⟨a2, ks2, k2, ac2, h1, h2, h3⟩
                        · exact ih 0 _ (by omega) ((hX.tr (hereP hhA107 hhB107)).tr hX115) (Or.inr (h.to hr))
                        · exact ih (sL τ + 1 - sk (sT τ) (sL τ) a2) _ (by omega) ((hX.tr (hereP hhA107 hhB107)).tr hX115) (Or.inl ⟨a2, ks2, k2, ac2, rfl, h1, hr.trans h2⟩)
                refine V.sub [0, 1, 2] rfl ?_
                refine L99 (sL τ + 1 - sk (sT τ) (sL τ) 0 + 1) (sL τ + 1 - sk (sT τ) (sL τ) 0) I2 (by omega) (mPX.rf _ _) (Or.inl ⟨0, 0, 0, ac0, rfl, ⟨?_, ?_, Nat.zero_le _, ?_, ?_, ?_, by decide, ?_, fun f hf => hc0 f (by omega), fun f => Nat.zero_le _⟩, rchP.rf⟩)
                · exact hMM1.2.2.2.1.of (by rw [hcF 117 (by decide), up2_off (by decide), up2_off (by decide), hO60 117 (by decide)]; exact hB7 25 (Or.inr rfl)) (by rw [hcF 141 (by decide), up2_ne (by decide), up2_ne (by decide), hO60 141 (by decide)]; exact hBm 141 (by decide))
                · rw [hcF 117 (by decide), up2_off (by decide), up2_off (by decide), hO60 117 (by decide)]; exact hB26
                · rw [hcF 117 (by decide), up2_off (by decide), up2_off (by decide), hO60 117 (by decide)]; exact hB29
                · rw [hcF 117 (by decide), up2_off (by decide), up2_off (by decide), hO60 117 (by decide)]; exact hB30
                · rw [hcF 117 (by decide), up2_off (by decide), up2_at]
                · rw [hcF 117 (by decide), up2_at]
                  refine congrArg nI ?_
                  apply Nat.eq_of_testBit_eq
                  intro i
                  rw [bS_bit, Nat.zero_testBit]
                  show false = (decide (i < 12) && decide ((0 : Nat) ≠ 0))
                  rw [decide_eq_false (show ¬ ((0 : Nat) ≠ 0) from fun q => q rfl), Bool.and_false]
              · simp (disch := omega) only [nI_leI, nI_ltI, nI_eq, nI_eq0] at hb78
                refine r_aload_n C 0 (dk oX10_paper 48 rfl) rfl ?_
                refine r_getR C (dk oX10_paper 49 rfl) fl_X10_32 rfl (km hn rfl) ?_
                refine r_bipush C (dk oX10_paper 50 rfl) (v := nI 12) (by decide) ?_
                refine r_iload_n C 2 (dk oX10_paper 51 rfl) rfl ?_
                refine r_imul C (dk oX10_paper 52 rfl) ?_
                rw [pk_mul]
                refine r_iload_n C 3 (dk oX10_paper 53 rfl) rfl ?_
                refine r_iadd C (dk oX10_paper 54 rfl) ?_
                rw [nI_add]
                refine r_iconst C (dk oX10_paper 55 rfl) (v := nI 0) (by decide) ?_
                refine r_iast C _ (dk oX10_paper 56 rfl) rfl (km hn rfl) rfl (by omega) (by decide) ?_
                refine r_iinc (lo' := [(3, _), (0, _), (1, _), (2, _)]) C 3 (dk oX10_paper 57 rfl) rfl (by first | exact nI_inc _ | rfl) (by decide) rfl ?_
                refine r_goto (tgt := 75) C (dk oX10_paper 58 rfl) (by decide) ?_
                refine V.sub [1, 2, 3, 0] rfl ?_
                refine ih (f_ + 1) _ (by omega) (by omega) (fun k hk => by rw [up2_ne hk]; exact hcF k hk) (fun f hf2 => ?_) (fun j hj => by rw [up2_off (by omega)]; exact hcR j hj)
                by_cases e : f = f_
                · rw [e, up2_at]
                · rw [up2_off (by omega)]; exact hc0 f (by omega)
          refine V.sub [2, 3, 1, 0] rfl ?_
          exact L75 13 0 _ (by omega) (Nat.zero_le _) (fun _ _ => rfl) (fun f hf => absurd hf (Nat.not_lt_zero _)) (fun _ _ => rfl)
        · simp (disch := omega) only [nI_leI, nI_ltI, nI_eq, nI_eq0] at hb48
          refine r_ldc C (dk oX10_paper 30 rfl) kn_X10_139 ?_
          refine hret (dk oX10_paper 31 rfl) rfl ?_
          exact ⟨τ, (by unfold q_paper; rw [if_neg (Classical.not_not.mpr hvd), cN_n (by omega), if_neg hld, if_pos (by omega)]; exact ⟨rfl, rfl⟩), hMM1, hF1, rfl⟩
      · simp (disch := omega) only [nI_leI, nI_ltI, nI_eq, nI_eq0] at hb39
        have hld : dd_ < ldN (sPp τ) := by unfold ldN; rw [if_neg (by omega)]; omega
        refine r_ldc C (dk oX10_paper 25 rfl) kn_X10_221 ?_
        refine hret (dk oX10_paper 26 rfl) rfl ?_
        exact ⟨τ, (by unfold q_paper; rw [if_neg (Classical.not_not.mpr hvd), cN_n (by omega), if_pos hld]; exact ⟨rfl, rfl⟩), hMM1, hF1, rfl⟩
  · rw [b32_0, decide_eq_false_iff_not] at hb13
    refine r_ldc C (dk oX10_paper 8 rfl) kn_X10_135 ?_
    refine hret (dk oX10_paper 9 rfl) rfl ?_
    exact ⟨τ, (by unfold q_paper; rw [if_pos hb13]; exact ⟨rfl, rfl⟩), hMM1, hF1, rfl⟩

end MOD23
