section MOD18
variable {l : Launch} {n : Nat} {ad : Nat → Nat} {cA : Nat → ClassId} {D : va_G} {z : Zw}
def bbN (G : Nat → Int32) (K : Nat → Nat) (m w : Nat) : Nat → Int32 × Int32 × Int32
  | 0 => (-1, nI 0, nI 0)
  | j + 1 => (nI (bsN G K m w j).1, (bsN G K m w j).2.2, nI (bsN G K m w j).2.1)
theorem bs_lt {G : Nat → Int32} {K : Nat → Nat} {m w : Nat} (hw : w < 65536) (i : Nat) : (bsN G K m w i).1 < 65536 := by
  obtain ⟨j, hj⟩ := bsN_set (G := G) (K := K) (m := m) (w := w) i
  rw [hj]
  exact pd_lt hw
theorem bb_lt0 {G : Nat → Int32} {K : Nat → Nat} {m w j : Nat} (hw : w < 65536) : (bbN G K m w j).1 < 0 ↔ j = 0 := by
  cases j with
  | zero => exact Iff.intro (fun _ => rfl) (fun _ => by show (-1 : Int32) < 0; decide)
  | succ j =>
    have := bs_lt (G := G) (K := K) (m := m) hw j
    exact Iff.intro (fun h => absurd h (nI_lt0 (by omega))) (fun h => absurd h (by omega))
theorem bb_0 {G : Nat → Int32} {K : Nat → Nat} {m w j : Nat} (hj : j = 0) (hK : K 0 = 0) : bbN G K m w (j + 1) = (nI (pd j w), G (pd j w), nI (K (pd j w))) := by
  subst hj
  rw [pd_0, hK]
  rfl
theorem bb_t {G : Nat → Int32} {K : Nat → Nat} {m w j b : Nat} (hb : b < 2 ^ 31) (hK : ∀ S, K S ≤ b) (h0 : ¬ j = 0) (h1 : K (pd j w) ≤ m) (h2 : (bbN G K m w j).2.1 < G (pd j w) ∨ (G (pd j w) = (bbN G K m w j).2.1 ∧ ¬ (bbN G K m w j).2.2 ≤ nI (K (pd j w)))) : bbN G K m w (j + 1) = (nI (pd j w), G (pd j w), nI (K (pd j w))) := by
  cases j with
  | zero => exact absurd rfl h0
  | succ j =>
    have hk1 := hK (pd (j + 1) w)
    have hk2 := bsN_K (G := G) (m := m) (w := w) hK j
    have h3 : (bsN G K m w j).2.2 < G (pd (j + 1) w) ∨ G (pd (j + 1) w) = (bsN G K m w j).2.2 ∧ K (pd (j + 1) w) < (bsN G K m w j).2.1 := h2.elim Or.inl (fun q => Or.inr ⟨q.1, by
      have q2 : ¬ nI (bsN G K m w j).2.1 ≤ nI (K (pd (j + 1) w)) := q.2
      rw [nI_leI (by omega) (by omega)] at q2
      omega⟩)
    show (nI (bsN G K m w (j + 1)).1, (bsN G K m w (j + 1)).2.2, nI (bsN G K m w (j + 1)).2.1) = _
    rw [bsN_t h1 h3]
theorem bb_f1 {G : Nat → Int32} {K : Nat → Nat} {m w j : Nat} (h0 : ¬ j = 0) (h1 : ¬ K (pd j w) ≤ m) : bbN G K m w (j + 1) = bbN G K m w j := by
  cases j with
  | zero => exact absurd rfl h0
  | succ j =>
    show (nI (bsN G K m w (j + 1)).1, (bsN G K m w (j + 1)).2.2, nI (bsN G K m w (j + 1)).2.1) = _
    rw [bsN_f1 h1]
    rfl
theorem bb_f2 {G : Nat → Int32} {K : Nat → Nat} {m w j b : Nat} (hb : b < 2 ^ 31) (hK : ∀ S, K S ≤ b) (h0 : ¬ j = 0) (h1 : ¬ (bbN G K m w j).2.1 < G (pd j w)) (h2 : G (pd j w) = (bbN G K m w j).2.1 → (bbN G K m w j).2.2 ≤ nI (K (pd j w))) : bbN G K m w (j + 1) = bbN G K m w j := by
  cases j with
  | zero => exact absurd rfl h0
  | succ j =>
    have hk1 := hK (pd (j + 1) w)
    have hk2 := bsN_K (G := G) (m := m) (w := w) hK j
    show (nI (bsN G K m w (j + 1)).1, (bsN G K m w (j + 1)).2.2, nI (bsN G K m w (j + 1)).2.1) = _
    rw [bsN_f2 h1 (fun q => by
      have q2 : nI (bsN G K m w j).2.1 ≤ nI (K (pd (j + 1) w)) := h2 q
      rw [nI_leI (by omega) (by omega)] at q2
      omega)]
    rfl
theorem cs_0 {ct : Nat → Nat} : ∀ k, csN ct 0 k = 0
  | 0 => rfl
  | k + 1 => by
    show (if (0 : Nat).testBit k = true then _ else csN ct 0 k) = 0
    rw [Nat.zero_testBit, if_neg (by decide)]
    exact cs_0 k
def ggN (H : Nat → Int32) (A : Nat → Nat) (w : Nat) : Nat → Int32 × Int32 × Int32
  | 0 => (-1, nI 0, nI 0)
  | j + 1 => (nI (rpN H w j).1, nI (A (rpN H w j).1), (rpN H w j).2)
theorem gg_lt0 {H : Nat → Int32} {A : Nat → Nat} {w j : Nat} (hw : w < 65536) : (ggN H A w j).1 < 0 ↔ j = 0 := by
  cases j with
  | zero => exact Iff.intro (fun _ => rfl) (fun _ => by show (-1 : Int32) < 0; decide)
  | succ j =>
    have := rpN_lt (G := H) hw j
    exact Iff.intro (fun h => absurd h (nI_lt0 (by omega))) (fun h => absurd h (by omega))
theorem gg_t {H : Nat → Int32} {A : Nat → Nat} {w j : Nat} (h : j = 0 ∨ (ggN H A w j).2.2 < H (pd j w)) : ggN H A w (j + 1) = (nI (pd j w), nI (A (pd j w)), H (pd j w)) := by
  cases j with
  | zero =>
    rw [pd_0]
    rfl
  | succ j =>
    have h2 : (rpN H w j).2 < H (pd (j + 1) w) := h.elim (fun e => absurd e (by omega)) id
    show (nI (rpN H w (j + 1)).1, nI (A (rpN H w (j + 1)).1), (rpN H w (j + 1)).2) = _
    rw [rpN_s, if_pos h2]
theorem gg_f {H : Nat → Int32} {A : Nat → Nat} {w j : Nat} (h0 : ¬ j = 0) (h : ¬ (ggN H A w j).2.2 < H (pd j w)) : ggN H A w (j + 1) = ggN H A w j := by
  cases j with
  | zero => exact absurd rfl h0
  | succ j =>
    have h2 : ¬ (rpN H w j).2 < H (pd (j + 1) w) := h
    show (nI (rpN H w (j + 1)).1, nI (A (rpN H w (j + 1)).1), (rpN H w (j + 1)).2) = (nI (rpN H w j).1, nI (A (rpN H w j).1), (rpN H w j).2)
    rw [rpN_s, if_neg h2]
theorem gg_e {H : Nat → Int32} {A : Nat → Nat} {w i l : Nat} (hl : l = (rpN H w i).1) : ggN H A w (i + 1) = (nI l, nI (A l), H l) := by
  have hrp : ∀ i, (rpN H w i).2 = H (rpN H w i).1 := fun i => by
    induction i with
    | zero => rfl
    | succ i ih =>
      rw [rpN_s]
      by_cases e : (rpN H w i).2 < H (pd (i + 1) w)
      · rw [if_pos e]
      · rw [if_neg e]; exact ih
  show (nI (rpN H w i).1, nI (A (rpN H w i).1), (rpN H w i).2) = _
  rw [hrp, ← hl]
theorem bb_e {G : Nat → Int32} {K : Nat → Nat} {m w i l : Nat} (hK : K 0 = 0) (hl : l = (bsN G K m w i).1) : bbN G K m w (i + 1) = (nI l, G l, nI (K l)) := by
  have hrp : ∀ i, (bsN G K m w i).2.2 = G (bsN G K m w i).1 ∧ (bsN G K m w i).2.1 = K (bsN G K m w i).1 := fun i => by
    induction i with
    | zero => exact ⟨rfl, hK.symm⟩
    | succ i ih =>
      rw [bsN_s]
      split
      · exact ⟨rfl, rfl⟩
      · exact ih
  show (nI (bsN G K m w i).1, (bsN G K m w i).2.2, nI (bsN G K m w i).2.1) = _
  rw [(hrp i).1, (hrp i).2, ← hl]
theorem be_r {I I' : MI} (h1 : ∀ k, k ≠ 117 → k ≠ 145 → k ≠ 146 → k ≠ 147 → I' k = I k) (h2 : ∀ i, i ≠ 39 → i ≠ 43 → i ≠ 44 → I' 117 i = I 117 i) : mQr I I' := ⟨fun k a b => h1 k b (by omega) (by omega) (by omega), h1 141 (by decide) (by decide) (by decide) (by decide), fun i a => h2 i (by omega) (by omega) (by omega)⟩
set_option maxHeartbeats 1000000 in
set_option maxRecDepth 100000 in
theorem c_X10_best (hn : 148 ≤ n) (I : MI) (J : MJ) (τ : St) (hMM : MM I τ) (x m_x y : Int32) : Ci l n ad cA D z 8 yX10_best cX10_best 11 .int I J [.ref (ad 117), .int x, .int m_x, .int y] (fun r I' J' => r = q_best τ x m_x y ∧ MM I' τ ∧ (∀ k, k < 117 → I' k = I k) ∧ J' = J) := by
  refine Ci.of (by decide) (Nat.le_of_ble_eq_true rfl) ?_
  intro p e s m args below meth c A C hin Z Q hret
  have hC0 := hMM.c0
  have hK0 := hMM.k0
  have hP0 := hMM.pap.zz
  have hok := hMM.ok
  have hnc : (sCl τ).1 ≤ 6 := hC0.1
  have hnp : (sPp τ).1 ≤ 10 := hP0.1
  have hnk : (sPk τ).1 ≤ 16 := hK0.1
  have hMT := hMM.2.2.2.1
  have hL := hMT.1
  have hop := @opN_lt (sPhi τ)
  have hB : brQ (sPk τ) < 65536 := brN_16 hnk
  refine r_iload_n C 1 (dk oX10_best 0 rfl) rfl ?_
  refine r_isi C Z (dk oX10_best 1 rfl) cl_X10_302 st_X10_isSide (c_X10_isSide I J x) rfl rfl (Nat.le_of_ble_eq_true rfl) ⟨Nat.le_of_ble_eq_true rfl, Nat.le_of_ble_eq_true rfl⟩ ⟨Nat.zero_le _, Nat.zero_le _⟩ (fun r1 I1 J1 h1 => ?_)
  obtain ⟨h1, e1_, e2_⟩ := h1
  have e1_ := e1_.symm
  have e2_ := e2_.symm
  subst e1_
  subst e2_
  subst h1
  refine r_if_ne (tgt := 11) C (dk oX10_best 2 rfl) (by decide) (fun hb4 => ?_) (fun hb4 => ?_)
  · rw [b32_n, decide_eq_true_eq] at hb4
    obtain ⟨s_, h_s_, hx_s_⟩ := vd_of (by decide) hb4
    subst hx_s_
    refine r_iload_n C 2 (dk oX10_best 5 rfl) rfl ?_
    refine r_i2l C (dk oX10_best 6 rfl) ?_
    refine r_lconst C (dk oX10_best 7 rfl) (v := 0) (by decide) ?_
    refine r_ldc2 C (dk oX10_best 8 rfl) kn_X10_333 ?_
    refine r_isi C Z (dk oX10_best 9 rfl) cl_X10_131 st_X10_in (c_X10_in I J (m_x.toInt64) (0) (9999)) rfl rfl (Nat.le_of_ble_eq_true rfl) ⟨Nat.le_of_ble_eq_true rfl, Nat.le_of_ble_eq_true rfl⟩ ⟨Nat.zero_le _, Nat.zero_le _⟩ (fun r17 I17 J17 h17 => ?_)
    obtain ⟨h17, e1_, e2_⟩ := h17
    have e1_ := e1_.symm
    have e2_ := e2_.symm
    subst e1_
    subst e2_
    subst h17
    rw [show decide ((0 : Int64) ≤ m_x.toInt64 ∧ m_x.toInt64 ≤ 9999) = decide (vdN m_x 10000) from decide_eq_decide.mpr (in_vd (n := 9999) (by decide) rfl rfl)]
    refine r_if_eq (tgt := 35) C (dk oX10_best 10 rfl) (by decide) (fun hb20 => ?_) (fun hb20 => ?_)
    · rw [b32_0, decide_eq_false_iff_not] at hb20
      refine r_ldc C (dk oX10_best 17 rfl) kn_X10_135 ?_
      refine hret (dk oX10_best 18 rfl) rfl ?_
      refine ⟨?_, hMM, fun _ _ => rfl, rfl⟩
      unfold q_best
      rw [if_pos (vd_n h_s_ (by omega)), if_neg]
      first
        | exact fun q => hb20 q.1
        | exact fun q => hb32 q.2
    · rw [b32_n, decide_eq_true_eq] at hb20
      have hvm := hb20
      obtain ⟨m_, h_m_, hx_m_⟩ := vd_of (by decide) hb20
      subst hx_m_
      refine r_iload_n C 3 (dk oX10_best 11 rfl) rfl ?_
      refine r_i2l C (dk oX10_best 12 rfl) ?_
      refine r_lconst C (dk oX10_best 13 rfl) (v := 0) (by decide) ?_
      refine r_ldc2 C (dk oX10_best 14 rfl) kn_X10_335 ?_
      refine r_isi C Z (dk oX10_best 15 rfl) cl_X10_131 st_X10_in (c_X10_in I J (y.toInt64) (0) (2)) rfl rfl (Nat.le_of_ble_eq_true rfl) ⟨Nat.le_of_ble_eq_true rfl, Nat.le_of_ble_eq_true rfl⟩ ⟨Nat.zero_le _, Nat.zero_le _⟩ (fun r29 I29 J29 h29 => ?_)
      obtain ⟨h29, e1_, e2_⟩ := h29
      have e1_ := e1_.symm
      have e2_ := e2_.symm
      subst e1_
      subst e2_
      subst h29
      rw [show decide ((0 : Int64) ≤ y.toInt64 ∧ y.toInt64 ≤ 2) = decide (vdN y 3) from decide_eq_decide.mpr (in_vd (n := 2) (by decide) rfl rfl)]
      refine r_if_ne (tgt := 38) C (dk oX10_best 16 rfl) (by decide) (fun hb32 => ?_) (fun hb32 => ?_)
      · rw [b32_n, decide_eq_true_eq] at hb32
        have hvy := hb32
        have hy3 : y = nI 0 ∨ y = nI 1 ∨ y = nI 2 := by
          obtain ⟨y_, h_y_, hx_y_⟩ := vd_of (by decide) hvy
          subst hx_y_
          rcases (by omega : y_ = 0 ∨ y_ = 1 ∨ y_ = 2) with rfl | rfl | rfl <;> simp
        refine r_aload_n C 0 (dk oX10_best 19 rfl) rfl ?_
        refine r_iconst C (dk oX10_best 20 rfl) (v := -1) (by decide) ?_
        refine r_ivv C Z (dk oX10_best 21 rfl) cl_X10_247 ci_X10_hearAll rfl (km hn rfl) (c_X10_hear1 hn I J τ hMM) rfl rfl (Nat.le_of_ble_eq_true rfl) ⟨Nat.le_of_ble_eq_true rfl, Nat.le_of_ble_eq_true rfl⟩ ⟨Nat.zero_le _, Nat.zero_le _⟩ (fun I40 J40 h40 => ?_)
        obtain ⟨hM40, hSil40, hO40, e2_⟩ := h40
        have e2_ := e2_.symm
        subst e2_
        have hR40 := hO40.r
        have hF40 : ∀ k, k < 117 → I40 k = I k := fun k hk => hO40 k (by omega)
        refine r_aload_n C 0 (dk oX10_best 22 rfl) rfl ?_
        refine r_iload_n C 1 (dk oX10_best 23 rfl) rfl ?_
        refine r_bipush C (dk oX10_best 24 rfl) (v := nI 8) (by decide) ?_
        refine r_ivv C Z (dk oX10_best 25 rfl) cl_X10_337 ci_X10_choose rfl (km hn rfl) (c_X10_choose hn I40 J (sPk τ) (hK0.of (fun c a b => hO40 c (by omega))) s_ 8 h_s_ (by decide)) rfl rfl (Nat.le_of_ble_eq_true rfl) ⟨Nat.le_of_ble_eq_true rfl, Nat.le_of_ble_eq_true rfl⟩ ⟨Nat.zero_le _, Nat.zero_le _⟩ (fun I47 J47 h47 => ?_)
        obtain ⟨h43, h147, hO3, hO4, e2_⟩ := h47
        have e2_ := e2_.symm
        subst e2_
        have hpc : pc (chS (chQ (sPk τ) s_) 8 (sPk τ).1) = (chN (chQ (sPk τ) s_) 8 (sPk τ).1) := ch_pc (sPk τ).1 hnk
        have hw : (chS (chQ (sPk τ) s_) 8 (sPk τ).1) < 65536 := chS_16 hnk
        have hcl := @chN_le (chQ (sPk τ) s_) 8 (sPk τ).1
        have hp4 : 2 ^ (chN (chQ (sPk τ) s_) 8 (sPk τ).1) ≤ 256 := (show 2 ^ (chN (chQ (sPk τ) s_) 8 (sPk τ).1) ≤ 2 ^ 8 from Nat.pow_le_pow_right (by decide) (by omega))
        have hpos : 0 < 2 ^ (chN (chQ (sPk τ) s_) 8 (sPk τ).1) := Nat.two_pow_pos _
        have hcs : ∀ S, csN (sPk τ).2.2.2.2.1 S (sPk τ).1 ≤ 1584 := fun S => Nat.le_trans (csN_le (sPk τ).1 (fun j hj => (hK0.2.2 j hj).2.2.2.2.2.2.2.1)) (by omega)
        refine r_iconst C (dk oX10_best 26 rfl) (v := -1) (by decide) ?_
        refine r_istore (lo' := [(4, _), (0, _), (1, _), (2, _), (3, _)]) C (dk oX10_best 27 rfl) (by decide) rfl ?_
        refine r_iconst C (dk oX10_best 28 rfl) (v := nI 0) (by decide) ?_
        refine r_istore (lo' := [(5, _), (4, _), (0, _), (1, _), (2, _), (3, _)]) C (dk oX10_best 29 rfl) (by decide) rfl ?_
        refine r_iconst C (dk oX10_best 30 rfl) (v := nI 0) (by decide) ?_
        refine r_istore (lo' := [(6, _), (5, _), (4, _), (0, _), (1, _), (2, _), (3, _)]) C (dk oX10_best 31 rfl) (by decide) rfl ?_
        refine r_iconst C (dk oX10_best 32 rfl) (v := nI 0) (by decide) ?_
        refine r_istore (lo' := [(7, _), (6, _), (5, _), (4, _), (0, _), (1, _), (2, _), (3, _)]) C (dk oX10_best 33 rfl) (by decide) rfl ?_
        have L62 : ∀ (d_ : Nat) (j_ : Nat) (I1 : MI), 2 ^ (chN (chQ (sPk τ) s_) 8 (sPk τ).1) - j_ < d_ → j_ ≤ 2 ^ (chN (chQ (sPk τ) s_) 8 (sPk τ).1) → (∀ k, k ≠ 117 → k ≠ 145 → k ≠ 146 → I1 k = I47 k) → (∀ i, i ≠ 39 → I1 117 i = I47 117 i) → V p l e (rmL 8) s m args below meth c Q D A 11 0 0 n ad (mE cA ad I1 J) 62 [(0, .ref (ad 117)), (1, .int (nI s_)), (2, .int (nI m_)), (3, .int y), (4, .int (bbN (fun S => gnF (sCl τ) (sPk τ) (sPhi τ) s_ S 0) (fun S => csN (sPk τ).2.2.2.2.1 S (sPk τ).1) m_ (chS (chQ (sPk τ) s_) 8 (sPk τ).1) j_).1), (5, .int (bbN (fun S => gnF (sCl τ) (sPk τ) (sPhi τ) s_ S 0) (fun S => csN (sPk τ).2.2.2.2.1 S (sPk τ).1) m_ (chS (chQ (sPk τ) s_) 8 (sPk τ).1) j_).2.1), (6, .int (bbN (fun S => gnF (sCl τ) (sPk τ) (sPhi τ) s_ S 0) (fun S => csN (sPk τ).2.2.2.2.1 S (sPk τ).1) m_ (chS (chQ (sPk τ) s_) 8 (sPk τ).1) j_).2.2), (7, .int (nI j_))] [] := by
          intro d_
          induction d_ with
          | zero => intros; exact absurd (by assumption) (Nat.not_lt_zero _)
          | succ d_ ih => 
            intro j_ I1 hd_ hj hF hP
            refine r_iload C 7 (dk oX10_best 34 rfl) rfl ?_
            refine r_iconst C (dk oX10_best 35 rfl) (v := nI 1) (by decide) ?_
            refine r_aload_n C 0 (dk oX10_best 36 rfl) rfl ?_
            refine r_getI C (dk oX10_best 37 rfl) fl_X10_330 rfl (km hn rfl) ?_
            rw [hP 43 (by decide), h43]
            refine r_ishl C (dk oX10_best 38 rfl) ?_
            rw [shl1 (by omega)]
            refine r_icmp_ge (tgt := 155) C (dk oX10_best 39 rfl) (by decide) (fun hb70 => ?_) (fun hb70 => ?_)
            · simp (disch := omega) only [nI_leI, nI_ltI, nI_eq, nI_eq0] at hb70
              refine r_iload_n C 3 (dk oX10_best 79 rfl) rfl ?_
              refine r_if_ne (tgt := 164) C (dk oX10_best 80 rfl) (by decide) (fun hb156 => ?_) (fun hb156 => ?_)
              · have hy0 : ¬ y = nI 0 := fun q => hb156 (by rw [q]; rfl)
                refine r_iload_n C 3 (dk oX10_best 83 rfl) rfl ?_
                refine r_iconst C (dk oX10_best 84 rfl) (v := nI 1) (by decide) ?_
                refine r_icmp_ne (tgt := 174) C (dk oX10_best 85 rfl) (by decide) (fun hb166 => ?_) (fun hb166 => ?_)
                · refine r_iload C 6 (dk oX10_best 88 rfl) rfl ?_
                  refine hret (dk oX10_best 89 rfl) rfl ?_
                  refine ⟨?_, hMM.r (hR40.tr (be_r (fun k a b c d => by rw [hF k a b c]; exact hO3 k a d) (fun i a b c => by rw [hP i a]; exact hO4 i b))), fun k hk => by rw [hF k (by omega) (by omega) (by omega), hO3 k (by omega) (by omega)]; exact hF40 k hk, rfl⟩
                  have hj2 : j_ = 2 ^ (chN (chQ (sPk τ) s_) 8 (sPk τ).1) - 1 + 1 := by omega
                  have hbb : (bbN (fun S => gnF (sCl τ) (sPk τ) (sPhi τ) s_ S 0) (fun S => csN (sPk τ).2.2.2.2.1 S (sPk τ).1) m_ (chS (chQ (sPk τ) s_) 8 (sPk τ).1) j_) = (nI (bsF (sCl τ) (sPk τ) (sPhi τ) s_ m_), (fun S => gnF (sCl τ) (sPk τ) (sPhi τ) s_ S 0) (bsF (sCl τ) (sPk τ) (sPhi τ) s_ m_), nI ((fun S => csN (sPk τ).2.2.2.2.1 S (sPk τ).1) (bsF (sCl τ) (sPk τ) (sPhi τ) s_ m_))) := by
                    rw [hj2]
                    exact bb_e (cs_0 _) (by unfold bsF; rw [hpc])
                  rw [hbb]
                  unfold q_best
                  rw [if_pos (vd_n h_s_ (by omega)), if_pos (And.intro hvm hvy), cN_n (by omega), cN_n (by omega)]
                  first
                    | exact (if_pos hy0).symm
                    | exact ((if_neg hy0).trans (if_pos hb166)).symm
                    | exact ((if_neg hy0).trans (if_neg hb166)).symm
                · refine r_iload C 5 (dk oX10_best 86 rfl) rfl ?_
                  refine r_goto (tgt := 176) C (dk oX10_best 87 rfl) (by decide) ?_
                  refine hret (dk oX10_best 89 rfl) rfl ?_
                  refine ⟨?_, hMM.r (hR40.tr (be_r (fun k a b c d => by rw [hF k a b c]; exact hO3 k a d) (fun i a b c => by rw [hP i a]; exact hO4 i b))), fun k hk => by rw [hF k (by omega) (by omega) (by omega), hO3 k (by omega) (by omega)]; exact hF40 k hk, rfl⟩
                  have hj2 : j_ = 2 ^ (chN (chQ (sPk τ) s_) 8 (sPk τ).1) - 1 + 1 := by omega
                  have hbb : (bbN (fun S => gnF (sCl τ) (sPk τ) (sPhi τ) s_ S 0) (fun S => csN (sPk τ).2.2.2.2.1 S (sPk τ).1) m_ (chS (chQ (sPk τ) s_) 8 (sPk τ).1) j_) = (nI (bsF (sCl τ) (sPk τ) (sPhi τ) s_ m_), (fun S => gnF (sCl τ) (sPk τ) (sPhi τ) s_ S 0) (bsF (sCl τ) (sPk τ) (sPhi τ) s_ m_), nI ((fun S => csN (sPk τ).2.2.2.2.1 S (sPk τ).1) (bsF (sCl τ) (sPk τ) (sPhi τ) s_ m_))) := by
                    rw [hj2]
                    exact bb_e (cs_0 _) (by unfold bsF; rw [hpc])
                  rw [hbb]
                  unfold q_best
                  rw [if_pos (vd_n h_s_ (by omega)), if_pos (And.intro hvm hvy), cN_n (by omega), cN_n (by omega)]
                  first
                    | exact (if_pos hy0).symm
                    | exact ((if_neg hy0).trans (if_pos hb166)).symm
                    | exact ((if_neg hy0).trans (if_neg hb166)).symm
              · have hy0 : y = nI 0 := hb156
                refine r_iload C 4 (dk oX10_best 81 rfl) rfl ?_
                refine r_goto (tgt := 176) C (dk oX10_best 82 rfl) (by decide) ?_
                refine hret (dk oX10_best 89 rfl) rfl ?_
                refine ⟨?_, hMM.r (hR40.tr (be_r (fun k a b c d => by rw [hF k a b c]; exact hO3 k a d) (fun i a b c => by rw [hP i a]; exact hO4 i b))), fun k hk => by rw [hF k (by omega) (by omega) (by omega), hO3 k (by omega) (by omega)]; exact hF40 k hk, rfl⟩
                have hj2 : j_ = 2 ^ (chN (chQ (sPk τ) s_) 8 (sPk τ).1) - 1 + 1 := by omega
                have hbb : (bbN (fun S => gnF (sCl τ) (sPk τ) (sPhi τ) s_ S 0) (fun S => csN (sPk τ).2.2.2.2.1 S (sPk τ).1) m_ (chS (chQ (sPk τ) s_) 8 (sPk τ).1) j_) = (nI (bsF (sCl τ) (sPk τ) (sPhi τ) s_ m_), (fun S => gnF (sCl τ) (sPk τ) (sPhi τ) s_ S 0) (bsF (sCl τ) (sPk τ) (sPhi τ) s_ m_), nI ((fun S => csN (sPk τ).2.2.2.2.1 S (sPk τ).1) (bsF (sCl τ) (sPk τ) (sPhi τ) s_ m_))) := by
                  rw [hj2]
                  exact bb_e (cs_0 _) (by unfold bsF; rw [hpc])
                rw [hbb]
                unfold q_best
                rw [if_pos (vd_n h_s_ (by omega)), if_pos (And.intro hvm hvy), cN_n (by omega), cN_n (by omega)]
                first
                  | exact (if_pos hy0).symm
                  | exact ((if_neg hy0).trans (if_pos hb166)).symm
                  | exact ((if_neg hy0).trans (if_neg hb166)).symm
            · simp (disch := omega) only [nI_leI, nI_ltI, nI_eq, nI_eq0] at hb70
              refine r_aload_n C 0 (dk oX10_best 40 rfl) rfl ?_
              refine r_iload C 7 (dk oX10_best 41 rfl) rfl ?_
              refine r_ivi C Z (dk oX10_best 42 rfl) cl_X10_340 ci_X10_setOf rfl (km hn rfl) (c_X10_setOf hn I1 J (chN (chQ (sPk τ) s_) 8 (sPk τ).1) (chI (chQ (sPk τ) s_) 8 (sPk τ).1) (by rw [hP 43 (by decide)]; exact h43) (by omega) (fun i hi => ⟨by rw [hF 147 (by decide) (by decide) (by decide)]; exact h147 i hi, by have := chI_lt (q := (chQ (sPk τ) s_)) (m := 8) (sPk τ).1 i hi; omega⟩) j_ (by omega)) rfl rfl (Nat.le_of_ble_eq_true rfl) ⟨Nat.le_of_ble_eq_true rfl, Nat.le_of_ble_eq_true rfl⟩ ⟨Nat.zero_le _, Nat.zero_le _⟩ (fun r76 I76 J76 h76 => ?_)
              obtain ⟨h76, e1_, e2_⟩ := h76
              have e1_ := e1_.symm
              have e2_ := e2_.symm
              subst e1_
              subst e2_
              subst h76
              rw [ch_set j_ (sPk τ).1 hnk]
              have hpd : pd j_ (chS (chQ (sPk τ) s_) 8 (sPk τ).1) < 65536 := pd_lt hw
              refine r_istore (lo' := [(8, _), (0, _), (1, _), (2, _), (3, _), (4, _), (5, _), (6, _), (7, _)]) C (dk oX10_best 43 rfl) (by decide) rfl ?_
              refine r_aload_n C 1 (dk oX10_best 44 rfl) rfl ?_
              refine r_iload C 0 (dk oX10_best 45 rfl) rfl ?_
              refine r_ivi C Z (dk oX10_best 46 rfl) cl_X10_343 ci_X10_costOf rfl (km hn rfl) (c_X10_costOf hn I1 J (sPk τ) (hK0.of (fun c a b => by rw [hF c (by omega) (by omega) (by omega), hO3 c (by omega) (by omega)]; exact hO40 c (by omega))) (pd j_ (chS (chQ (sPk τ) s_) 8 (sPk τ).1)) hpd) rfl rfl (Nat.le_of_ble_eq_true rfl) ⟨Nat.le_of_ble_eq_true rfl, Nat.le_of_ble_eq_true rfl⟩ ⟨Nat.zero_le _, Nat.zero_le _⟩ (fun r84 I84 J84 h84 => ?_)
              obtain ⟨h84, e1_, e2_⟩ := h84
              have e1_ := e1_.symm
              have e2_ := e2_.symm
              subst e1_
              subst e2_
              subst h84
              refine r_istore (lo' := [(9, _), (8, _), (0, _), (1, _), (2, _), (3, _), (4, _), (5, _), (6, _), (7, _)]) C (dk oX10_best 47 rfl) (by decide) rfl ?_
              refine r_iload C 0 (dk oX10_best 48 rfl) rfl ?_
              refine r_iload_n C 4 (dk oX10_best 49 rfl) rfl ?_
              refine r_icmp_gt (tgt := 149) C (dk oX10_best 50 rfl) (by decide) (fun hb92 => ?_) (fun hb92 => ?_)
              · have hcs2 := hcs (pd j_ (chS (chQ (sPk τ) s_) 8 (sPk τ).1))
                simp (disch := omega) only [nI_leI, nI_ltI, nI_eq, nI_eq0] at hb92
                have hj0 : ¬ j_ = 0 := fun e => by
                  rw [e, pd_0, cs_0] at hb92
                  omega
                refine r_iinc (lo' := [(7, _), (9, _), (8, _), (0, _), (1, _), (2, _), (3, _), (4, _), (5, _), (6, _)]) C 9 (dk oX10_best 77 rfl) rfl (by first | exact nI_inc _ | rfl) (by decide) rfl ?_
                refine r_goto (tgt := 62) C (dk oX10_best 78 rfl) (by decide) ?_
                refine V.sub [3, 4, 5, 6, 7, 8, 9, 0] rfl ?_
                first
                  | (have hih := ih (j_ + 1) I1 (by omega) (by omega) hF hP
                     rw [bb_f1 hj0 (Nat.not_le.mpr hb92)] at hih
                     exact hih)
                  | (have hih := ih (j_ + 1) I1 (by omega) (by omega) hF hP
                     rw [bb_f1 hj0 hb92] at hih
                     exact hih)
                  | (have hih := ih (j_ + 1) I99 (by omega) (by omega) (fun k a b c => by rw [hq0 k a b c]; exact hF k a b c) (fun i a => by rw [hq1 i a]; exact hP i a)
                     first
                       | rw [bb_0 (K := (fun S => csN (sPk τ).2.2.2.2.1 S (sPk τ).1)) hb113 (cs_0 _)] at hih
                       | rw [bb_t (b := 1584) (by decide) hcs hb113 hb92 (Or.inl hb120)] at hih
                       | rw [bb_t (b := 1584) (by decide) hcs hb113 hb92 (Or.inr ⟨hb127, hb134⟩)] at hih
                       | rw [bb_f2 (b := 1584) (by decide) hcs hb113 hb120 (fun q => absurd q hb127)] at hih
                       | rw [bb_f2 (b := 1584) (by decide) hcs hb113 hb120 (fun _ => hb134)] at hih
                     exact hih)
              · have hcs2 := hcs (pd j_ (chS (chQ (sPk τ) s_) 8 (sPk τ).1))
                simp (disch := omega) only [nI_leI, nI_ltI, nI_eq, nI_eq0] at hb92
                have hb92 : csN (sPk τ).2.2.2.2.1 (pd j_ (chS (chQ (sPk τ) s_) 8 (sPk τ).1)) (sPk τ).1 ≤ m_ := by omega
                refine r_aload_n C 2 (dk oX10_best 51 rfl) rfl ?_
                refine r_iload_n C 3 (dk oX10_best 52 rfl) rfl ?_
                refine r_iload C 1 (dk oX10_best 53 rfl) rfl ?_
                refine r_ivi C Z (dk oX10_best 54 rfl) cl_X10_327 ci_X10_worthTo rfl (km hn rfl) (c_X10_worthTo hn I1 J (sPhi τ) (hM40.of (fun c a b => by rw [hF c (by omega) (by omega) (by omega), hO3 c (by omega) (by omega)])) hok (sPk τ) (hK0.of (fun c a b => by rw [hF c (by omega) (by omega) (by omega), hO3 c (by omega) (by omega)]; exact hO40 c (by omega))) (sCl τ) (hC0.of (fun c a b => by rw [hF c (by omega) (by omega) (by omega), hO3 c (by omega) (by omega)]; exact hO40 c (by omega))) s_ (pd j_ (chS (chQ (sPk τ) s_) 8 (sPk τ).1)) h_s_ hpd) rfl rfl (Nat.le_of_ble_eq_true rfl) ⟨Nat.le_of_ble_eq_true rfl, Nat.le_of_ble_eq_true rfl⟩ ⟨Nat.zero_le _, Nat.zero_le _⟩ (fun r99 I99 J99 h99 => ?_)
                obtain ⟨e1_, hq0, hq1, e2_⟩ := h99
                have e1_ := e1_.symm
                have e2_ := e2_.symm
                subst e1_
                subst e2_
                refine r_sipush C (dk oX10_best 55 rfl) (v := nI 1000) (by decide) ?_
                refine r_iload C 0 (dk oX10_best 56 rfl) rfl ?_
                refine r_imul C (dk oX10_best 57 rfl) ?_
                refine r_isub C (dk oX10_best 58 rfl) ?_
                rw [show (if s_ = 0 then wtF (sCl τ) (sPk τ) (sPhi τ) (brQ (sPk τ) ||| pd j_ (chS (chQ (sPk τ) s_) 8 (sPk τ).1)) else -(wtF (sCl τ) (sPk τ) (sPhi τ) (brQ (sPk τ) ||| pd j_ (chS (chQ (sPk τ) s_) 8 (sPk τ).1)))) - nI 1000 * nI (csN (sPk τ).2.2.2.2.1 (pd j_ (chS (chQ (sPk τ) s_) 8 (sPk τ).1)) (sPk τ).1) = gnF (sCl τ) (sPk τ) (sPhi τ) s_ (pd j_ (chS (chQ (sPk τ) s_) 8 (sPk τ).1)) 0 from by unfold gnF; rw [Nat.or_zero]]
                refine r_istore (lo' := [(10, _), (9, _), (8, _), (0, _), (1, _), (2, _), (3, _), (4, _), (5, _), (6, _), (7, _)]) C (dk oX10_best 59 rfl) (by decide) rfl ?_
                refine r_iload C 7 (dk oX10_best 60 rfl) rfl ?_
                refine r_if_lt (tgt := 137) C (dk oX10_best 61 rfl) (by decide) (fun hb113 => ?_) (fun hb113 => ?_)
                · rw [bb_lt0 hw] at hb113
                  refine r_iload C 2 (dk oX10_best 71 rfl) rfl ?_
                  refine r_istore (lo' := [(4, _), (10, _), (9, _), (8, _), (0, _), (1, _), (2, _), (3, _), (5, _), (6, _), (7, _)]) C (dk oX10_best 72 rfl) (by decide) rfl ?_
                  refine r_iload C 1 (dk oX10_best 73 rfl) rfl ?_
                  refine r_istore (lo' := [(5, _), (4, _), (10, _), (9, _), (8, _), (0, _), (1, _), (2, _), (3, _), (6, _), (7, _)]) C (dk oX10_best 74 rfl) (by decide) rfl ?_
                  refine r_iload C 3 (dk oX10_best 75 rfl) rfl ?_
                  refine r_istore (lo' := [(6, _), (5, _), (4, _), (10, _), (9, _), (8, _), (0, _), (1, _), (2, _), (3, _), (7, _)]) C (dk oX10_best 76 rfl) (by decide) rfl ?_
                  refine r_iinc (lo' := [(7, _), (6, _), (5, _), (4, _), (10, _), (9, _), (8, _), (0, _), (1, _), (2, _), (3, _)]) C 10 (dk oX10_best 77 rfl) rfl (by first | exact nI_inc _ | rfl) (by decide) rfl ?_
                  refine r_goto (tgt := 62) C (dk oX10_best 78 rfl) (by decide) ?_
                  refine V.sub [7, 8, 9, 10, 3, 2, 1, 0] rfl ?_
                  first
                    | (have hih := ih (j_ + 1) I1 (by omega) (by omega) hF hP
                       rw [bb_f1 hj0 (Nat.not_le.mpr hb92)] at hih
                       exact hih)
                    | (have hih := ih (j_ + 1) I1 (by omega) (by omega) hF hP
                       rw [bb_f1 hj0 hb92] at hih
                       exact hih)
                    | (have hih := ih (j_ + 1) I99 (by omega) (by omega) (fun k a b c => by rw [hq0 k a b c]; exact hF k a b c) (fun i a => by rw [hq1 i a]; exact hP i a)
                       first
                         | rw [bb_0 (K := (fun S => csN (sPk τ).2.2.2.2.1 S (sPk τ).1)) hb113 (cs_0 _)] at hih
                         | rw [bb_t (b := 1584) (by decide) hcs hb113 hb92 (Or.inl hb120)] at hih
                         | rw [bb_t (b := 1584) (by decide) hcs hb113 hb92 (Or.inr ⟨hb127, hb134⟩)] at hih
                         | rw [bb_f2 (b := 1584) (by decide) hcs hb113 hb120 (fun q => absurd q hb127)] at hih
                         | rw [bb_f2 (b := 1584) (by decide) hcs hb113 hb120 (fun _ => hb134)] at hih
                       exact hih)
                · rw [bb_lt0 hw] at hb113
                  refine r_iload C 0 (dk oX10_best 62 rfl) rfl ?_
                  refine r_iload C 8 (dk oX10_best 63 rfl) rfl ?_
                  refine r_icmp_gt (tgt := 137) C (dk oX10_best 64 rfl) (by decide) (fun hb120 => ?_) (fun hb120 => ?_)
                  · refine r_iload C 2 (dk oX10_best 71 rfl) rfl ?_
                    refine r_istore (lo' := [(4, _), (10, _), (9, _), (8, _), (0, _), (1, _), (2, _), (3, _), (5, _), (6, _), (7, _)]) C (dk oX10_best 72 rfl) (by decide) rfl ?_
                    refine r_iload C 1 (dk oX10_best 73 rfl) rfl ?_
                    refine r_istore (lo' := [(5, _), (4, _), (10, _), (9, _), (8, _), (0, _), (1, _), (2, _), (3, _), (6, _), (7, _)]) C (dk oX10_best 74 rfl) (by decide) rfl ?_
                    refine r_iload C 3 (dk oX10_best 75 rfl) rfl ?_
                    refine r_istore (lo' := [(6, _), (5, _), (4, _), (10, _), (9, _), (8, _), (0, _), (1, _), (2, _), (3, _), (7, _)]) C (dk oX10_best 76 rfl) (by decide) rfl ?_
                    refine r_iinc (lo' := [(7, _), (6, _), (5, _), (4, _), (10, _), (9, _), (8, _), (0, _), (1, _), (2, _), (3, _)]) C 10 (dk oX10_best 77 rfl) rfl (by first | exact nI_inc _ | rfl) (by decide) rfl ?_
                    refine r_goto (tgt := 62) C (dk oX10_best 78 rfl) (by decide) ?_
                    refine V.sub [7, 8, 9, 10, 3, 2, 1, 0] rfl ?_
                    first
                      | (have hih := ih (j_ + 1) I1 (by omega) (by omega) hF hP
                         rw [bb_f1 hj0 (Nat.not_le.mpr hb92)] at hih
                         exact hih)
                      | (have hih := ih (j_ + 1) I1 (by omega) (by omega) hF hP
                         rw [bb_f1 hj0 hb92] at hih
                         exact hih)
                      | (have hih := ih (j_ + 1) I99 (by omega) (by omega) (fun k a b c => by rw [hq0 k a b c]; exact hF k a b c) (fun i a => by rw [hq1 i a]; exact hP i a)
                         first
                           | rw [bb_0 (K := (fun S => csN (sPk τ).2.2.2.2.1 S (sPk τ).1)) hb113 (cs_0 _)] at hih
                           | rw [bb_t (b := 1584) (by decide) hcs hb113 hb92 (Or.inl hb120)] at hih
                           | rw [bb_t (b := 1584) (by decide) hcs hb113 hb92 (Or.inr ⟨hb127, hb134⟩)] at hih
                           | rw [bb_f2 (b := 1584) (by decide) hcs hb113 hb120 (fun q => absurd q hb127)] at hih
                           | rw [bb_f2 (b := 1584) (by decide) hcs hb113 hb120 (fun _ => hb134)] at hih
                         exact hih)
                  · refine r_iload C 0 (dk oX10_best 65 rfl) rfl ?_
                    refine r_iload C 8 (dk oX10_best 66 rfl) rfl ?_
                    refine r_icmp_ne (tgt := 149) C (dk oX10_best 67 rfl) (by decide) (fun hb127 => ?_) (fun hb127 => ?_)
                    · refine r_iinc (lo' := [(7, _), (10, _), (9, _), (8, _), (0, _), (1, _), (2, _), (3, _), (4, _), (5, _), (6, _)]) C 10 (dk oX10_best 77 rfl) rfl (by first | exact nI_inc _ | rfl) (by decide) rfl ?_
                      refine r_goto (tgt := 62) C (dk oX10_best 78 rfl) (by decide) ?_
                      refine V.sub [4, 5, 6, 7, 8, 9, 10, 0] rfl ?_
                      first
                        | (have hih := ih (j_ + 1) I1 (by omega) (by omega) hF hP
                           rw [bb_f1 hj0 (Nat.not_le.mpr hb92)] at hih
                           exact hih)
                        | (have hih := ih (j_ + 1) I1 (by omega) (by omega) hF hP
                           rw [bb_f1 hj0 hb92] at hih
                           exact hih)
                        | (have hih := ih (j_ + 1) I99 (by omega) (by omega) (fun k a b c => by rw [hq0 k a b c]; exact hF k a b c) (fun i a => by rw [hq1 i a]; exact hP i a)
                           first
                             | rw [bb_0 (K := (fun S => csN (sPk τ).2.2.2.2.1 S (sPk τ).1)) hb113 (cs_0 _)] at hih
                             | rw [bb_t (b := 1584) (by decide) hcs hb113 hb92 (Or.inl hb120)] at hih
                             | rw [bb_t (b := 1584) (by decide) hcs hb113 hb92 (Or.inr ⟨hb127, hb134⟩)] at hih
                             | rw [bb_f2 (b := 1584) (by decide) hcs hb113 hb120 (fun q => absurd q hb127)] at hih
                             | rw [bb_f2 (b := 1584) (by decide) hcs hb113 hb120 (fun _ => hb134)] at hih
                           exact hih)
                    · refine r_iload C 1 (dk oX10_best 68 rfl) rfl ?_
                      refine r_iload C 9 (dk oX10_best 69 rfl) rfl ?_
                      refine r_icmp_ge (tgt := 149) C (dk oX10_best 70 rfl) (by decide) (fun hb134 => ?_) (fun hb134 => ?_)
                      · refine r_iinc (lo' := [(7, _), (10, _), (9, _), (8, _), (0, _), (1, _), (2, _), (3, _), (4, _), (5, _), (6, _)]) C 10 (dk oX10_best 77 rfl) rfl (by first | exact nI_inc _ | rfl) (by decide) rfl ?_
                        refine r_goto (tgt := 62) C (dk oX10_best 78 rfl) (by decide) ?_
                        refine V.sub [4, 5, 6, 7, 8, 9, 10, 0] rfl ?_
                        first
                          | (have hih := ih (j_ + 1) I1 (by omega) (by omega) hF hP
                             rw [bb_f1 hj0 (Nat.not_le.mpr hb92)] at hih
                             exact hih)
                          | (have hih := ih (j_ + 1) I1 (by omega) (by omega) hF hP
                             rw [bb_f1 hj0 hb92] at hih
                             exact hih)
                          | (have hih := ih (j_ + 1) I99 (by omega) (by omega) (fun k a b c => by rw [hq0 k a b c]; exact hF k a b c) (fun i a => by rw [hq1 i a]; exact hP i a)
                             first
                               | rw [bb_0 (K := (fun S => csN (sPk τ).2.2.2.2.1 S (sPk τ).1)) hb113 (cs_0 _)] at hih
                               | rw [bb_t (b := 1584) (by decide) hcs hb113 hb92 (Or.inl hb120)] at hih
                               | rw [bb_t (b := 1584) (by decide) hcs hb113 hb92 (Or.inr ⟨hb127, hb134⟩)] at hih
                               | rw [bb_f2 (b := 1584) (by decide) hcs hb113 hb120 (fun q => absurd q hb127)] at hih
                               | rw [bb_f2 (b := 1584) (by decide) hcs hb113 hb120 (fun _ => hb134)] at hih
                             exact hih)
                      · refine r_iload C 2 (dk oX10_best 71 rfl) rfl ?_
                        refine r_istore (lo' := [(4, _), (10, _), (9, _), (8, _), (0, _), (1, _), (2, _), (3, _), (5, _), (6, _), (7, _)]) C (dk oX10_best 72 rfl) (by decide) rfl ?_
                        refine r_iload C 1 (dk oX10_best 73 rfl) rfl ?_
                        refine r_istore (lo' := [(5, _), (4, _), (10, _), (9, _), (8, _), (0, _), (1, _), (2, _), (3, _), (6, _), (7, _)]) C (dk oX10_best 74 rfl) (by decide) rfl ?_
                        refine r_iload C 3 (dk oX10_best 75 rfl) rfl ?_
                        refine r_istore (lo' := [(6, _), (5, _), (4, _), (10, _), (9, _), (8, _), (0, _), (1, _), (2, _), (3, _), (7, _)]) C (dk oX10_best 76 rfl) (by decide) rfl ?_
                        refine r_iinc (lo' := [(7, _), (6, _), (5, _), (4, _), (10, _), (9, _), (8, _), (0, _), (1, _), (2, _), (3, _)]) C 10 (dk oX10_best 77 rfl) rfl (by first | exact nI_inc _ | rfl) (by decide) rfl ?_
                        refine r_goto (tgt := 62) C (dk oX10_best 78 rfl) (by decide) ?_
                        refine V.sub [7, 8, 9, 10, 3, 2, 1, 0] rfl ?_
                        first
                          | (have hih := ih (j_ + 1) I1 (by omega) (by omega) hF hP
                             rw [bb_f1 hj0 (Nat.not_le.mpr hb92)] at hih
                             exact hih)
                          | (have hih := ih (j_ + 1) I1 (by omega) (by omega) hF hP
                             rw [bb_f1 hj0 hb92] at hih
                             exact hih)
                          | (have hih := ih (j_ + 1) I99 (by omega) (by omega) (fun k a b c => by rw [hq0 k a b c]; exact hF k a b c) (fun i a => by rw [hq1 i a]; exact hP i a)
                             first
                               | rw [bb_0 (K := (fun S => csN (sPk τ).2.2.2.2.1 S (sPk τ).1)) hb113 (cs_0 _)] at hih
                               | rw [bb_t (b := 1584) (by decide) hcs hb113 hb92 (Or.inl hb120)] at hih
                               | rw [bb_t (b := 1584) (by decide) hcs hb113 hb92 (Or.inr ⟨hb127, hb134⟩)] at hih
                               | rw [bb_f2 (b := 1584) (by decide) hcs hb113 hb120 (fun q => absurd q hb127)] at hih
                               | rw [bb_f2 (b := 1584) (by decide) hcs hb113 hb120 (fun _ => hb134)] at hih
                             exact hih)
        refine V.sub [4, 5, 6, 7, 3, 2, 1, 0] rfl ?_
        exact L62 (2 ^ (chN (chQ (sPk τ) s_) 8 (sPk τ).1) + 1) 0 I47 (by omega) (Nat.zero_le _) (fun _ _ _ _ => rfl) (fun _ _ => rfl)
      · rw [b32_0, decide_eq_false_iff_not] at hb32
        refine r_ldc C (dk oX10_best 17 rfl) kn_X10_135 ?_
        refine hret (dk oX10_best 18 rfl) rfl ?_
        refine ⟨?_, hMM, fun _ _ => rfl, rfl⟩
        unfold q_best
        rw [if_pos (vd_n h_s_ (by omega)), if_neg]
        first
          | exact fun q => hb20 q.1
          | exact fun q => hb32 q.2
  · rw [b32_0, decide_eq_false_iff_not] at hb4
    refine r_ldcw C (dk oX10_best 3 rfl) kn_X10_264 ?_
    refine hret (dk oX10_best 4 rfl) rfl ?_
    refine ⟨?_, hMM, fun _ _ => rfl, rfl⟩
    exact (if_neg hb4).symm

set_option maxHeartbeats 1000000 in
set_option maxRecDepth 100000 in
theorem c_X10_game (hn : 148 ≤ n) (I : MI) (J : MJ) (τ : St) (hMM : MM I τ) (x y : Int32) : Ci l n ad cA D z 9 yX10_game cX10_game 10 .int I J [.ref (ad 117), .int x, .int y] (fun r I' J' => r = q_game τ x y ∧ MM I' τ ∧ (∀ k, k < 117 → I' k = I k) ∧ J' = J) := by
  refine Ci.of (by decide) (Nat.le_of_ble_eq_true rfl) ?_
  intro p e s m args below meth c A C hin Z Q hret
  have hC0 := hMM.c0
  have hK0 := hMM.k0
  have hP0 := hMM.pap.zz
  have hok := hMM.ok
  have hnc : (sCl τ).1 ≤ 6 := hC0.1
  have hnp : (sPp τ).1 ≤ 10 := hP0.1
  have hnk : (sPk τ).1 ≤ 16 := hK0.1
  have hMT := hMM.2.2.2.1
  have hL := hMT.1
  have hop := @opN_lt (sPhi τ)
  have hB : brQ (sPk τ) < 65536 := brN_16 hnk
  refine r_iload_n C 1 (dk oX10_game 0 rfl) rfl ?_
  refine r_isi C Z (dk oX10_game 1 rfl) cl_X10_302 st_X10_isSide (c_X10_isSide I J x) rfl rfl (Nat.le_of_ble_eq_true rfl) ⟨Nat.le_of_ble_eq_true rfl, Nat.le_of_ble_eq_true rfl⟩ ⟨Nat.zero_le _, Nat.zero_le _⟩ (fun r1 I1 J1 h1 => ?_)
  obtain ⟨h1, e1_, e2_⟩ := h1
  have e1_ := e1_.symm
  have e2_ := e2_.symm
  subst e1_
  subst e2_
  subst h1
  refine r_if_ne (tgt := 11) C (dk oX10_game 2 rfl) (by decide) (fun hb4 => ?_) (fun hb4 => ?_)
  · rw [b32_n, decide_eq_true_eq] at hb4
    obtain ⟨s_, h_s_, hx_s_⟩ := vd_of (by decide) hb4
    subst hx_s_
    refine r_iload_n C 2 (dk oX10_game 5 rfl) rfl ?_
    refine r_i2l C (dk oX10_game 6 rfl) ?_
    refine r_lconst C (dk oX10_game 7 rfl) (v := 0) (by decide) ?_
    refine r_ldc2 C (dk oX10_game 8 rfl) kn_X10_335 ?_
    refine r_isi C Z (dk oX10_game 9 rfl) cl_X10_131 st_X10_in (c_X10_in I J (y.toInt64) (0) (2)) rfl rfl (Nat.le_of_ble_eq_true rfl) ⟨Nat.le_of_ble_eq_true rfl, Nat.le_of_ble_eq_true rfl⟩ ⟨Nat.zero_le _, Nat.zero_le _⟩ (fun r17 I17 J17 h17 => ?_)
    obtain ⟨h17, e1_, e2_⟩ := h17
    have e1_ := e1_.symm
    have e2_ := e2_.symm
    subst e1_
    subst e2_
    subst h17
    rw [show decide ((0 : Int64) ≤ y.toInt64 ∧ y.toInt64 ≤ 2) = decide (vdN y 3) from decide_eq_decide.mpr (in_vd (n := 2) (by decide) rfl rfl)]
    refine r_if_ne (tgt := 26) C (dk oX10_game 10 rfl) (by decide) (fun hb20 => ?_) (fun hb20 => ?_)
    · rw [b32_n, decide_eq_true_eq] at hb20
      have hvy := hb20
      have hy3 : y = nI 0 ∨ y = nI 1 ∨ y = nI 2 := by
        obtain ⟨y_, h_y_, hx_y_⟩ := vd_of (by decide) hvy
        subst hx_y_
        rcases (by omega : y_ = 0 ∨ y_ = 1 ∨ y_ = 2) with rfl | rfl | rfl <;> simp
      refine r_aload_n C 0 (dk oX10_game 13 rfl) rfl ?_
      refine r_iconst C (dk oX10_game 14 rfl) (v := -1) (by decide) ?_
      refine r_ivv C Z (dk oX10_game 15 rfl) cl_X10_247 ci_X10_hearAll rfl (km hn rfl) (c_X10_hear1 hn I J τ hMM) rfl rfl (Nat.le_of_ble_eq_true rfl) ⟨Nat.le_of_ble_eq_true rfl, Nat.le_of_ble_eq_true rfl⟩ ⟨Nat.zero_le _, Nat.zero_le _⟩ (fun I28 J28 h28 => ?_)
      obtain ⟨hM28, hSil28, hO28, e2_⟩ := h28
      have e2_ := e2_.symm
      subst e2_
      have hR28 := hO28.r
      have hF28 : ∀ k, k < 117 → I28 k = I k := fun k hk => hO28 k (by omega)
      refine r_iconst C (dk oX10_game 16 rfl) (v := -1) (by decide) ?_
      refine r_istore_n (lo' := [(3, _), (0, _), (1, _), (2, _)]) C (dk oX10_game 17 rfl) rfl (by decide) rfl ?_
      refine r_iconst C (dk oX10_game 18 rfl) (v := nI 0) (by decide) ?_
      refine r_istore (lo' := [(4, _), (3, _), (0, _), (1, _), (2, _)]) C (dk oX10_game 19 rfl) (by decide) rfl ?_
      refine r_iconst C (dk oX10_game 20 rfl) (v := nI 0) (by decide) ?_
      refine r_istore (lo' := [(5, _), (4, _), (3, _), (0, _), (1, _), (2, _)]) C (dk oX10_game 21 rfl) (by decide) rfl ?_
      refine r_aload_n C 3 (dk oX10_game 22 rfl) rfl ?_
      refine r_iload_n C 4 (dk oX10_game 23 rfl) rfl ?_
      refine r_iconst C (dk oX10_game 24 rfl) (v := nI 4) (by decide) ?_
      refine r_ivv C Z (dk oX10_game 25 rfl) cl_X10_337 ci_X10_choose rfl (km hn rfl) (c_X10_choose hn I28 J (sPk τ) (hK0.of (fun c a b => hO28 c (by omega))) s_ 4 h_s_ (by decide)) rfl rfl (Nat.le_of_ble_eq_true rfl) ⟨Nat.le_of_ble_eq_true rfl, Nat.le_of_ble_eq_true rfl⟩ ⟨Nat.zero_le _, Nat.zero_le _⟩ (fun I42 J42 h42 => ?_)
      obtain ⟨h43_42, h147_42, hOc42, hOd42, e2_⟩ := h42
      have e2_ := e2_.symm
      subst e2_
      refine r_iconst C (dk oX10_game 26 rfl) (v := nI 1) (by decide) ?_
      refine r_aload_n C 3 (dk oX10_game 27 rfl) rfl ?_
      refine r_getI C (dk oX10_game 28 rfl) fl_X10_330 rfl (km hn rfl) ?_
      rw [h43_42]
      have hpc : pc (chS (chQ (sPk τ) s_) 4 (sPk τ).1) = (chN (chQ (sPk τ) s_) 4 (sPk τ).1) := ch_pc (sPk τ).1 hnk
      have hw : (chS (chQ (sPk τ) s_) 4 (sPk τ).1) < 65536 := chS_16 hnk
      have hcl := @chN_le (chQ (sPk τ) s_) 4 (sPk τ).1
      have hp4 : 2 ^ (chN (chQ (sPk τ) s_) 4 (sPk τ).1) ≤ 16 := (show 2 ^ (chN (chQ (sPk τ) s_) 4 (sPk τ).1) ≤ 2 ^ 4 from Nat.pow_le_pow_right (by decide) (by omega))
      have hpos : 0 < 2 ^ (chN (chQ (sPk τ) s_) 4 (sPk τ).1) := Nat.two_pow_pos _
      have hrl : ∀ S, rpF (sCl τ) (sPk τ) (sPhi τ) (1 - s_) S < 65536 := fun S => rpF_lt hnk
      refine r_ishl C (dk oX10_game 29 rfl) ?_
      rw [shl1 (by omega)]
      refine r_istore (lo' := [(6, _), (5, _), (4, _), (3, _), (0, _), (1, _), (2, _)]) C (dk oX10_game 30 rfl) (by decide) rfl ?_
      refine r_iconst C (dk oX10_game 31 rfl) (v := nI 0) (by decide) ?_
      refine r_istore (lo' := [(7, _), (6, _), (5, _), (4, _), (3, _), (0, _), (1, _), (2, _)]) C (dk oX10_game 32 rfl) (by decide) rfl ?_
      have L56 : ∀ (d_ : Nat) (j_ : Nat) (I1 : MI), 2 ^ (chN (chQ (sPk τ) s_) 4 (sPk τ).1) - j_ < d_ → j_ ≤ 2 ^ (chN (chQ (sPk τ) s_) 4 (sPk τ).1) → (∀ k, k ≠ 117 → k ≠ 145 → k ≠ 146 → k ≠ 147 → I1 k = I28 k) → (∀ i, i ≠ 39 → i ≠ 43 → i ≠ 44 → I1 117 i = I28 117 i) → V p l e (rmL 9) s m args below meth c Q D A 10 0 0 n ad (mE cA ad I1 J) 56 [(0, .ref (ad 117)), (1, .int (nI s_)), (2, .int y), (3, .int (ggN (fun S => gnF (sCl τ) (sPk τ) (sPhi τ) s_ S (rpF (sCl τ) (sPk τ) (sPhi τ) (1 - s_) S)) (fun S => rpF (sCl τ) (sPk τ) (sPhi τ) (1 - s_) S) (chS (chQ (sPk τ) s_) 4 (sPk τ).1) j_).1), (4, .int (ggN (fun S => gnF (sCl τ) (sPk τ) (sPhi τ) s_ S (rpF (sCl τ) (sPk τ) (sPhi τ) (1 - s_) S)) (fun S => rpF (sCl τ) (sPk τ) (sPhi τ) (1 - s_) S) (chS (chQ (sPk τ) s_) 4 (sPk τ).1) j_).2.1), (5, .int (ggN (fun S => gnF (sCl τ) (sPk τ) (sPhi τ) s_ S (rpF (sCl τ) (sPk τ) (sPhi τ) (1 - s_) S)) (fun S => rpF (sCl τ) (sPk τ) (sPhi τ) (1 - s_) S) (chS (chQ (sPk τ) s_) 4 (sPk τ).1) j_).2.2), (6, .int (nI (2 ^ (chN (chQ (sPk τ) s_) 4 (sPk τ).1)))), (7, .int (nI j_))] [] := by
        intro d_
        induction d_ with
        | zero => intros; exact absurd (by assumption) (Nat.not_lt_zero _)
        | succ d_ ih => 
          intro j_ I1 hd_ hj hFh hPh
          have hK1 : MK0 I1 (sPk τ) := hK0.of (fun c a b => by rw [hFh c (by omega) (by omega) (by omega) (by omega)]; exact hO28 c (by omega))
          have hC1 : MC0 I1 (sCl τ) := hC0.of (fun c a b => by rw [hFh c (by omega) (by omega) (by omega) (by omega)]; exact hO28 c (by omega))
          have hM1 : FcM I1 134 (sPhi τ) := hM28.of (fun c a b => hFh c (by omega) (by omega) (by omega) (by omega))
          refine r_iload C 7 (dk oX10_game 33 rfl) rfl ?_
          refine r_iload C 6 (dk oX10_game 34 rfl) rfl ?_
          refine r_icmp_ge (tgt := 141) C (dk oX10_game 35 rfl) (by decide) (fun hb60 => ?_) (fun hb60 => ?_)
          · simp (disch := omega) only [nI_leI, nI_ltI, nI_eq, nI_eq0] at hb60
            refine r_iload_n C 2 (dk oX10_game 78 rfl) rfl ?_
            refine r_if_ne (tgt := 149) C (dk oX10_game 79 rfl) (by decide) (fun hb142 => ?_) (fun hb142 => ?_)
            · have hy0 : ¬ y = nI 0 := fun q => hb142 (by rw [q]; rfl)
              refine r_iload_n C 2 (dk oX10_game 82 rfl) rfl ?_
              refine r_iconst C (dk oX10_game 83 rfl) (v := nI 1) (by decide) ?_
              refine r_icmp_ne (tgt := 159) C (dk oX10_game 84 rfl) (by decide) (fun hb151 => ?_) (fun hb151 => ?_)
              · refine r_iload C 5 (dk oX10_game 87 rfl) rfl ?_
                refine hret (dk oX10_game 88 rfl) rfl ?_
                refine ⟨?_, hMM.r (hR28.tr (be_r hFh hPh)), fun k hk => by rw [hFh k (by omega) (by omega) (by omega) (by omega)]; exact hF28 k hk, rfl⟩
                have hj2 : j_ = 2 ^ (chN (chQ (sPk τ) s_) 4 (sPk τ).1) - 1 + 1 := by omega
                have hgg : (ggN (fun S => gnF (sCl τ) (sPk τ) (sPhi τ) s_ S (rpF (sCl τ) (sPk τ) (sPhi τ) (1 - s_) S)) (fun S => rpF (sCl τ) (sPk τ) (sPhi τ) (1 - s_) S) (chS (chQ (sPk τ) s_) 4 (sPk τ).1) j_) = (nI (ldF (sCl τ) (sPk τ) (sPhi τ) s_), nI ((fun S => rpF (sCl τ) (sPk τ) (sPhi τ) (1 - s_) S) (ldF (sCl τ) (sPk τ) (sPhi τ) s_)), (fun S => gnF (sCl τ) (sPk τ) (sPhi τ) s_ S (rpF (sCl τ) (sPk τ) (sPhi τ) (1 - s_) S)) (ldF (sCl τ) (sPk τ) (sPhi τ) s_)) := by
                  rw [hj2]
                  exact gg_e (by unfold ldF; rw [hpc])
                rw [hgg]
                unfold q_game
                rw [if_pos (vd_n h_s_ (by omega)), if_pos hvy, cN_n (by omega)]
                first
                  | exact (if_pos hy0).symm
                  | exact ((if_neg hy0).trans (if_pos hb151)).symm
                  | exact ((if_neg hy0).trans (if_neg hb151)).symm
              · refine r_iload C 4 (dk oX10_game 85 rfl) rfl ?_
                refine r_goto (tgt := 161) C (dk oX10_game 86 rfl) (by decide) ?_
                refine hret (dk oX10_game 88 rfl) rfl ?_
                refine ⟨?_, hMM.r (hR28.tr (be_r hFh hPh)), fun k hk => by rw [hFh k (by omega) (by omega) (by omega) (by omega)]; exact hF28 k hk, rfl⟩
                have hj2 : j_ = 2 ^ (chN (chQ (sPk τ) s_) 4 (sPk τ).1) - 1 + 1 := by omega
                have hgg : (ggN (fun S => gnF (sCl τ) (sPk τ) (sPhi τ) s_ S (rpF (sCl τ) (sPk τ) (sPhi τ) (1 - s_) S)) (fun S => rpF (sCl τ) (sPk τ) (sPhi τ) (1 - s_) S) (chS (chQ (sPk τ) s_) 4 (sPk τ).1) j_) = (nI (ldF (sCl τ) (sPk τ) (sPhi τ) s_), nI ((fun S => rpF (sCl τ) (sPk τ) (sPhi τ) (1 - s_) S) (ldF (sCl τ) (sPk τ) (sPhi τ) s_)), (fun S => gnF (sCl τ) (sPk τ) (sPhi τ) s_ S (rpF (sCl τ) (sPk τ) (sPhi τ) (1 - s_) S)) (ldF (sCl τ) (sPk τ) (sPhi τ) s_)) := by
                  rw [hj2]
                  exact gg_e (by unfold ldF; rw [hpc])
                rw [hgg]
                unfold q_game
                rw [if_pos (vd_n h_s_ (by omega)), if_pos hvy, cN_n (by omega)]
                first
                  | exact (if_pos hy0).symm
                  | exact ((if_neg hy0).trans (if_pos hb151)).symm
                  | exact ((if_neg hy0).trans (if_neg hb151)).symm
            · have hy0 : y = nI 0 := hb142
              refine r_iload_n C 3 (dk oX10_game 80 rfl) rfl ?_
              refine r_goto (tgt := 161) C (dk oX10_game 81 rfl) (by decide) ?_
              refine hret (dk oX10_game 88 rfl) rfl ?_
              refine ⟨?_, hMM.r (hR28.tr (be_r hFh hPh)), fun k hk => by rw [hFh k (by omega) (by omega) (by omega) (by omega)]; exact hF28 k hk, rfl⟩
              have hj2 : j_ = 2 ^ (chN (chQ (sPk τ) s_) 4 (sPk τ).1) - 1 + 1 := by omega
              have hgg : (ggN (fun S => gnF (sCl τ) (sPk τ) (sPhi τ) s_ S (rpF (sCl τ) (sPk τ) (sPhi τ) (1 - s_) S)) (fun S => rpF (sCl τ) (sPk τ) (sPhi τ) (1 - s_) S) (chS (chQ (sPk τ) s_) 4 (sPk τ).1) j_) = (nI (ldF (sCl τ) (sPk τ) (sPhi τ) s_), nI ((fun S => rpF (sCl τ) (sPk τ) (sPhi τ) (1 - s_) S) (ldF (sCl τ) (sPk τ) (sPhi τ) s_)), (fun S => gnF (sCl τ) (sPk τ) (sPhi τ) s_ S (rpF (sCl τ) (sPk τ) (sPhi τ) (1 - s_) S)) (ldF (sCl τ) (sPk τ) (sPhi τ) s_)) := by
                rw [hj2]
                exact gg_e (by unfold ldF; rw [hpc])
              rw [hgg]
              unfold q_game
              rw [if_pos (vd_n h_s_ (by omega)), if_pos hvy, cN_n (by omega)]
              first
                | exact (if_pos hy0).symm
                | exact ((if_neg hy0).trans (if_pos hb151)).symm
                | exact ((if_neg hy0).trans (if_neg hb151)).symm
          · simp (disch := omega) only [nI_leI, nI_ltI, nI_eq, nI_eq0] at hb60
            refine r_aload_n C 0 (dk oX10_game 36 rfl) rfl ?_
            refine r_iload_n C 1 (dk oX10_game 37 rfl) rfl ?_
            refine r_iconst C (dk oX10_game 38 rfl) (v := nI 4) (by decide) ?_
            refine r_ivv C Z (dk oX10_game 39 rfl) cl_X10_337 ci_X10_choose rfl (km hn rfl) (c_X10_choose hn I1 J (sPk τ) hK1 s_ 4 h_s_ (by decide)) rfl rfl (Nat.le_of_ble_eq_true rfl) ⟨Nat.le_of_ble_eq_true rfl, Nat.le_of_ble_eq_true rfl⟩ ⟨Nat.zero_le _, Nat.zero_le _⟩ (fun I66 J66 h66 => ?_)
            obtain ⟨h43_66, h147_66, hOc66, hOd66, e2_⟩ := h66
            have e2_ := e2_.symm
            subst e2_
            refine r_aload_n C 0 (dk oX10_game 40 rfl) rfl ?_
            refine r_iload C 7 (dk oX10_game 41 rfl) rfl ?_
            refine r_ivi C Z (dk oX10_game 42 rfl) cl_X10_340 ci_X10_setOf rfl (km hn rfl) (c_X10_setOf hn I66 J (chN (chQ (sPk τ) s_) 4 (sPk τ).1) (chI (chQ (sPk τ) s_) 4 (sPk τ).1) h43_66 (by omega) (fun i hi => ⟨h147_66 i hi, by have := chI_lt (q := (chQ (sPk τ) s_)) (m := 4) (sPk τ).1 i hi; omega⟩) j_ (by omega)) rfl rfl (Nat.le_of_ble_eq_true rfl) ⟨Nat.le_of_ble_eq_true rfl, Nat.le_of_ble_eq_true rfl⟩ ⟨Nat.zero_le _, Nat.zero_le _⟩ (fun r72 I72 J72 h72 => ?_)
            obtain ⟨h72, e1_, e2_⟩ := h72
            have e1_ := e1_.symm
            have e2_ := e2_.symm
            subst e1_
            subst e2_
            subst h72
            rw [ch_set j_ (sPk τ).1 hnk]
            have hpd : pd j_ (chS (chQ (sPk τ) s_) 4 (sPk τ).1) < 65536 := pd_lt hw
            have hK2 : MK0 I66 (sPk τ) := hK1.of (fun c a b => hOc66 c (by omega) (by omega))
            have hC2 : MC0 I66 (sCl τ) := hC1.of (fun c a b => hOc66 c (by omega) (by omega))
            have hM2 : FcM I66 134 (sPhi τ) := hM1.of (fun c a b => hOc66 c (by omega) (by omega))
            refine r_istore (lo' := [(8, _), (0, _), (1, _), (2, _), (3, _), (4, _), (5, _), (6, _), (7, _)]) C (dk oX10_game 43 rfl) (by decide) rfl ?_
            refine r_aload_n C 1 (dk oX10_game 44 rfl) rfl ?_
            refine r_iconst C (dk oX10_game 45 rfl) (v := nI 1) (by decide) ?_
            refine r_iload_n C 2 (dk oX10_game 46 rfl) rfl ?_
            refine r_isub C (dk oX10_game 47 rfl) ?_
            rw [pk_sub (by omega)]
            refine r_iload C 0 (dk oX10_game 48 rfl) rfl ?_
            refine r_ivv C Z (dk oX10_game 49 rfl) cl_X10_349 ci_X10_findAnswer rfl (km hn rfl) (c_X10_findAnswer hn I66 J (sPhi τ) hM2 hok (sPk τ) hK2 (sCl τ) hC2 (1 - s_) (pd j_ (chS (chQ (sPk τ) s_) 4 (sPk τ).1)) (by omega) hpd) rfl rfl (Nat.le_of_ble_eq_true rfl) ⟨Nat.le_of_ble_eq_true rfl, Nat.le_of_ble_eq_true rfl⟩ ⟨Nat.zero_le _, Nat.zero_le _⟩ (fun I83 J83 h83 => ?_)
            obtain ⟨hf44, hfa, hfb, e2_⟩ := h83
            have e2_ := e2_.symm
            subst e2_
            have hK3 : MK0 I83 (sPk τ) := hK2.of (fun c a b => hfa c (by omega) (by omega) (by omega) (by omega))
            have hC3 : MC0 I83 (sCl τ) := hC2.of (fun c a b => hfa c (by omega) (by omega) (by omega) (by omega))
            have hM3 : FcM I83 134 (sPhi τ) := hM2.of (fun c a b => hfa c (by omega) (by omega) (by omega) (by omega))
            refine r_aload_n C 1 (dk oX10_game 50 rfl) rfl ?_
            refine r_iload_n C 2 (dk oX10_game 51 rfl) rfl ?_
            refine r_iload C 0 (dk oX10_game 52 rfl) rfl ?_
            refine r_aload_n C 1 (dk oX10_game 53 rfl) rfl ?_
            refine r_getI C (dk oX10_game 54 rfl) fl_X10_346 rfl (km hn rfl) ?_
            rw [hf44]
            refine r_ior C (dk oX10_game 55 rfl) ?_
            rw [fa_or]
            refine r_ivi C Z (dk oX10_game 56 rfl) cl_X10_327 ci_X10_worthTo rfl (km hn rfl) (c_X10_worthTo hn I83 J (sPhi τ) hM3 hok (sPk τ) hK3 (sCl τ) hC3 s_ (pd j_ (chS (chQ (sPk τ) s_) 4 (sPk τ).1) ||| (rpF (sCl τ) (sPk τ) (sPhi τ) (1 - s_) (pd j_ (chS (chQ (sPk τ) s_) 4 (sPk τ).1)))) h_s_ (or_lt16 hpd (hrl _))) rfl rfl (Nat.le_of_ble_eq_true rfl) ⟨Nat.le_of_ble_eq_true rfl, Nat.le_of_ble_eq_true rfl⟩ ⟨Nat.zero_le _, Nat.zero_le _⟩ (fun r95 I95 J95 h95 => ?_)
            obtain ⟨e1_, hq0, hq1, e2_⟩ := h95
            have e1_ := e1_.symm
            have e2_ := e2_.symm
            subst e1_
            subst e2_
            refine r_sipush C (dk oX10_game 57 rfl) (v := nI 1000) (by decide) ?_
            refine r_aload_n C 1 (dk oX10_game 58 rfl) rfl ?_
            refine r_iload C 0 (dk oX10_game 59 rfl) rfl ?_
            refine r_ivi C Z (dk oX10_game 60 rfl) cl_X10_343 ci_X10_costOf rfl (km hn rfl) (c_X10_costOf hn I95 J (sPk τ) (hK3.of (fun c a b => hq0 c (by omega) (by omega) (by omega))) (pd j_ (chS (chQ (sPk τ) s_) 4 (sPk τ).1)) hpd) rfl rfl (Nat.le_of_ble_eq_true rfl) ⟨Nat.le_of_ble_eq_true rfl, Nat.le_of_ble_eq_true rfl⟩ ⟨Nat.zero_le _, Nat.zero_le _⟩ (fun r104 I104 J104 h104 => ?_)
            obtain ⟨h104, e1_, e2_⟩ := h104
            have e1_ := e1_.symm
            have e2_ := e2_.symm
            subst e1_
            subst e2_
            subst h104
            refine r_imul C (dk oX10_game 61 rfl) ?_
            refine r_isub C (dk oX10_game 62 rfl) ?_
            rw [show (if s_ = 0 then wtF (sCl τ) (sPk τ) (sPhi τ) (brQ (sPk τ) ||| (pd j_ (chS (chQ (sPk τ) s_) 4 (sPk τ).1) ||| (rpF (sCl τ) (sPk τ) (sPhi τ) (1 - s_) (pd j_ (chS (chQ (sPk τ) s_) 4 (sPk τ).1))))) else -(wtF (sCl τ) (sPk τ) (sPhi τ) (brQ (sPk τ) ||| (pd j_ (chS (chQ (sPk τ) s_) 4 (sPk τ).1) ||| (rpF (sCl τ) (sPk τ) (sPhi τ) (1 - s_) (pd j_ (chS (chQ (sPk τ) s_) 4 (sPk τ).1))))))) - nI 1000 * nI (csN (sPk τ).2.2.2.2.1 (pd j_ (chS (chQ (sPk τ) s_) 4 (sPk τ).1)) (sPk τ).1) = (fun S => gnF (sCl τ) (sPk τ) (sPhi τ) s_ S (rpF (sCl τ) (sPk τ) (sPhi τ) (1 - s_) S)) (pd j_ (chS (chQ (sPk τ) s_) 4 (sPk τ).1)) from by
              show _ = gnF _ _ _ _ _ _
              unfold gnF
              rw [Nat.or_assoc]]
            refine r_istore (lo' := [(9, _), (8, _), (0, _), (1, _), (2, _), (3, _), (4, _), (5, _), (6, _), (7, _)]) C (dk oX10_game 63 rfl) (by decide) rfl ?_
            refine r_iload_n C 5 (dk oX10_game 64 rfl) rfl ?_
            refine r_if_lt (tgt := 122) C (dk oX10_game 65 rfl) (by decide) (fun hb112 => ?_) (fun hb112 => ?_)
            · rw [gg_lt0 hw] at hb112
              refine r_iload C 1 (dk oX10_game 69 rfl) rfl ?_
              refine r_istore_n (lo' := [(3, _), (9, _), (8, _), (0, _), (1, _), (2, _), (4, _), (5, _), (6, _), (7, _)]) C (dk oX10_game 70 rfl) rfl (by decide) rfl ?_
              refine r_aload_n C 3 (dk oX10_game 71 rfl) rfl ?_
              refine r_getI C (dk oX10_game 72 rfl) fl_X10_346 rfl (km hn rfl) ?_
              rw [hq1 44 (by decide), hf44]
              refine r_istore (lo' := [(4, _), (3, _), (9, _), (8, _), (0, _), (1, _), (2, _), (5, _), (6, _), (7, _)]) C (dk oX10_game 73 rfl) (by decide) rfl ?_
              refine r_iload C 2 (dk oX10_game 74 rfl) rfl ?_
              refine r_istore (lo' := [(5, _), (4, _), (3, _), (9, _), (8, _), (0, _), (1, _), (2, _), (6, _), (7, _)]) C (dk oX10_game 75 rfl) (by decide) rfl ?_
              refine r_iinc (lo' := [(7, _), (5, _), (4, _), (3, _), (9, _), (8, _), (0, _), (1, _), (2, _), (6, _)]) C 9 (dk oX10_game 76 rfl) rfl (by first | exact nI_inc _ | rfl) (by decide) rfl ?_
              refine r_goto (tgt := 56) C (dk oX10_game 77 rfl) (by decide) ?_
              refine V.sub [6, 7, 8, 3, 2, 1, 9, 0] rfl ?_
              have hA : ∀ k, k ≠ 117 → k ≠ 145 → k ≠ 146 → k ≠ 147 → I95 k = I28 k := fun k a b c d => by rw [hq0 k a b c, hfa k a b c d, hOc66 k a d]; exact hFh k a b c d
              have hBq : ∀ i, i ≠ 39 → i ≠ 43 → i ≠ 44 → I95 117 i = I28 117 i := fun i a b c => by rw [hq1 i a, hfb i a b c, hOd66 i b]; exact hPh i a b c
              have hih := ih (j_ + 1) I95 (by omega) (by omega) hA hBq
              first
                | rw [gg_t (H := (fun S => gnF (sCl τ) (sPk τ) (sPhi τ) s_ S (rpF (sCl τ) (sPk τ) (sPhi τ) (1 - s_) S))) (A := (fun S => rpF (sCl τ) (sPk τ) (sPhi τ) (1 - s_) S)) (w := (chS (chQ (sPk τ) s_) 4 (sPk τ).1)) (j := j_) (Or.inl hb112)] at hih
                | rw [gg_f (H := (fun S => gnF (sCl τ) (sPk τ) (sPhi τ) s_ S (rpF (sCl τ) (sPk τ) (sPhi τ) (1 - s_) S))) (A := (fun S => rpF (sCl τ) (sPk τ) (sPhi τ) (1 - s_) S)) (w := (chS (chQ (sPk τ) s_) 4 (sPk τ).1)) (j := j_) hb112 (Int32.not_lt.mpr hb119)] at hih
                | rw [gg_t (H := (fun S => gnF (sCl τ) (sPk τ) (sPhi τ) s_ S (rpF (sCl τ) (sPk τ) (sPhi τ) (1 - s_) S))) (A := (fun S => rpF (sCl τ) (sPk τ) (sPhi τ) (1 - s_) S)) (w := (chS (chQ (sPk τ) s_) 4 (sPk τ).1)) (j := j_) (Or.inr (Int32.not_le.mp hb119))] at hih
              exact hih
            · rw [gg_lt0 hw] at hb112
              refine r_iload C 0 (dk oX10_game 66 rfl) rfl ?_
              refine r_iload C 7 (dk oX10_game 67 rfl) rfl ?_
              refine r_icmp_le (tgt := 135) C (dk oX10_game 68 rfl) (by decide) (fun hb119 => ?_) (fun hb119 => ?_)
              · refine r_iinc (lo' := [(7, _), (9, _), (8, _), (0, _), (1, _), (2, _), (3, _), (4, _), (5, _), (6, _)]) C 9 (dk oX10_game 76 rfl) rfl (by first | exact nI_inc _ | rfl) (by decide) rfl ?_
                refine r_goto (tgt := 56) C (dk oX10_game 77 rfl) (by decide) ?_
                refine V.sub [3, 4, 5, 6, 7, 8, 9, 0] rfl ?_
                have hA : ∀ k, k ≠ 117 → k ≠ 145 → k ≠ 146 → k ≠ 147 → I95 k = I28 k := fun k a b c d => by rw [hq0 k a b c, hfa k a b c d, hOc66 k a d]; exact hFh k a b c d
                have hBq : ∀ i, i ≠ 39 → i ≠ 43 → i ≠ 44 → I95 117 i = I28 117 i := fun i a b c => by rw [hq1 i a, hfb i a b c, hOd66 i b]; exact hPh i a b c
                have hih := ih (j_ + 1) I95 (by omega) (by omega) hA hBq
                first
                  | rw [gg_t (H := (fun S => gnF (sCl τ) (sPk τ) (sPhi τ) s_ S (rpF (sCl τ) (sPk τ) (sPhi τ) (1 - s_) S))) (A := (fun S => rpF (sCl τ) (sPk τ) (sPhi τ) (1 - s_) S)) (w := (chS (chQ (sPk τ) s_) 4 (sPk τ).1)) (j := j_) (Or.inl hb112)] at hih
                  | rw [gg_f (H := (fun S => gnF (sCl τ) (sPk τ) (sPhi τ) s_ S (rpF (sCl τ) (sPk τ) (sPhi τ) (1 - s_) S))) (A := (fun S => rpF (sCl τ) (sPk τ) (sPhi τ) (1 - s_) S)) (w := (chS (chQ (sPk τ) s_) 4 (sPk τ).1)) (j := j_) hb112 (Int32.not_lt.mpr hb119)] at hih
                  | rw [gg_t (H := (fun S => gnF (sCl τ) (sPk τ) (sPhi τ) s_ S (rpF (sCl τ) (sPk τ) (sPhi τ) (1 - s_) S))) (A := (fun S => rpF (sCl τ) (sPk τ) (sPhi τ) (1 - s_) S)) (w := (chS (chQ (sPk τ) s_) 4 (sPk τ).1)) (j := j_) (Or.inr (Int32.not_le.mp hb119))] at hih
                exact hih
              · refine r_iload C 1 (dk oX10_game 69 rfl) rfl ?_
                refine r_istore_n (lo' := [(3, _), (9, _), (8, _), (0, _), (1, _), (2, _), (4, _), (5, _), (6, _), (7, _)]) C (dk oX10_game 70 rfl) rfl (by decide) rfl ?_
                refine r_aload_n C 3 (dk oX10_game 71 rfl) rfl ?_
                refine r_getI C (dk oX10_game 72 rfl) fl_X10_346 rfl (km hn rfl) ?_
                rw [hq1 44 (by decide), hf44]
                refine r_istore (lo' := [(4, _), (3, _), (9, _), (8, _), (0, _), (1, _), (2, _), (5, _), (6, _), (7, _)]) C (dk oX10_game 73 rfl) (by decide) rfl ?_
                refine r_iload C 2 (dk oX10_game 74 rfl) rfl ?_
                refine r_istore (lo' := [(5, _), (4, _), (3, _), (9, _), (8, _), (0, _), (1, _), (2, _), (6, _), (7, _)]) C (dk oX10_game 75 rfl) (by decide) rfl ?_
                refine r_iinc (lo' := [(7, _), (5, _), (4, _), (3, _), (9, _), (8, _), (0, _), (1, _), (2, _), (6, _)]) C 9 (dk oX10_game 76 rfl) rfl (by first | exact nI_inc _ | rfl) (by decide) rfl ?_
                refine r_goto (tgt := 56) C (dk oX10_game 77 rfl) (by decide) ?_
                refine V.sub [6, 7, 8, 3, 2, 1, 9, 0] rfl ?_
                have hA : ∀ k, k ≠ 117 → k ≠ 145 → k ≠ 146 → k ≠ 147 → I95 k = I28 k := fun k a b c d => by rw [hq0 k a b c, hfa k a b c d, hOc66 k a d]; exact hFh k a b c d
                have hBq : ∀ i, i ≠ 39 → i ≠ 43 → i ≠ 44 → I95 117 i = I28 117 i := fun i a b c => by rw [hq1 i a, hfb i a b c, hOd66 i b]; exact hPh i a b c
                have hih := ih (j_ + 1) I95 (by omega) (by omega) hA hBq
                first
                  | rw [gg_t (H := (fun S => gnF (sCl τ) (sPk τ) (sPhi τ) s_ S (rpF (sCl τ) (sPk τ) (sPhi τ) (1 - s_) S))) (A := (fun S => rpF (sCl τ) (sPk τ) (sPhi τ) (1 - s_) S)) (w := (chS (chQ (sPk τ) s_) 4 (sPk τ).1)) (j := j_) (Or.inl hb112)] at hih
                  | rw [gg_f (H := (fun S => gnF (sCl τ) (sPk τ) (sPhi τ) s_ S (rpF (sCl τ) (sPk τ) (sPhi τ) (1 - s_) S))) (A := (fun S => rpF (sCl τ) (sPk τ) (sPhi τ) (1 - s_) S)) (w := (chS (chQ (sPk τ) s_) 4 (sPk τ).1)) (j := j_) hb112 (Int32.not_lt.mpr hb119)] at hih
                  | rw [gg_t (H := (fun S => gnF (sCl τ) (sPk τ) (sPhi τ) s_ S (rpF (sCl τ) (sPk τ) (sPhi τ) (1 - s_) S))) (A := (fun S => rpF (sCl τ) (sPk τ) (sPhi τ) (1 - s_) S)) (w := (chS (chQ (sPk τ) s_) 4 (sPk τ).1)) (j := j_) (Or.inr (Int32.not_le.mp hb119))] at hih
                exact hih
      refine V.sub [5, 6, 7, 4, 3, 2, 1, 0] rfl ?_
      exact L56 (2 ^ (chN (chQ (sPk τ) s_) 4 (sPk τ).1) + 1) 0 I42 (by omega) (Nat.zero_le _) (fun k a _ _ d => hOc42 k a d) (fun i _ b _ => hOd42 i b)
    · rw [b32_0, decide_eq_false_iff_not] at hb20
      refine r_ldc C (dk oX10_game 11 rfl) kn_X10_135 ?_
      refine hret (dk oX10_game 12 rfl) rfl ?_
      refine ⟨?_, hMM, fun _ _ => rfl, rfl⟩
      unfold q_game
      rw [if_pos (vd_n h_s_ (by omega)), if_neg hb20]
  · rw [b32_0, decide_eq_false_iff_not] at hb4
    refine r_ldcw C (dk oX10_game 3 rfl) kn_X10_264 ?_
    refine hret (dk oX10_game 4 rfl) rfl ?_
    refine ⟨?_, hMM, fun _ _ => rfl, rfl⟩
    exact (if_neg hb4).symm

end MOD18
