section MOD3
variable {l : Launch} {n : Nat} {ad : Nat → Nat} {cA : Nat → ClassId} {D : va_G} {z : Zw}
theorem MPap.zz {I : MI} {np : Nat} {dy : Nat → Nat} {lt : Nat → Bool} {ac : Nat → Nat → Nat} (h : MPap I 0 np dy lt ac) : np ≤ 10 ∧ I 122 0 = nI np ∧ ∀ p, p < np → I 123 p = nI (dy p) ∧ dy p < 1000 ∧ I 124 p = b32 (lt p) ∧ ∀ f, f < 12 → I 125 (12 * p + f) = nI (ac p f) ∧ ac p f ≤ 6 := by
  have q := h
  unfold MPap at q
  simp only [z_add] at q
  exact q
theorem any_skip {P : Nat → Bool} {s : Nat} (h : P s = false) : anyB P (s + 1) = anyB P s := by
  show (anyB P s || P s) = _
  rw [h, Bool.or_false]
theorem al1 {A S X : Bool} (hS : S = true) (h1 : (!A) = true) (h2 : X = true) : nI 1 = b32 (!(A || (S && !X))) := by revert hS h1 h2; cases A <;> cases S <;> cases X <;> decide
theorem al0a {A S X : Bool} (h1 : (!A) = false) : nI 0 = b32 (!(A || (S && !X))) := by revert h1; cases A <;> cases S <;> cases X <;> decide
theorem al0b {A S X : Bool} (hS : S = true) (h2 : X = false) : nI 0 = b32 (!(A || (S && !X))) := by revert hS h2; cases A <;> cases S <;> cases X <;> decide
theorem nl1 {A S X : Bool} (hS : S = true) (h1 : (!A) = true) (h2 : X = false) : nI 1 = b32 (!(A || (S && X))) := by revert hS h1 h2; cases A <;> cases S <;> cases X <;> decide
theorem nl0a {A S X : Bool} (h1 : (!A) = false) : nI 0 = b32 (!(A || (S && X))) := by revert h1; cases A <;> cases S <;> cases X <;> decide
theorem nl0b {A S X : Bool} (hS : S = true) (h2 : X = true) : nI 0 = b32 (!(A || (S && X))) := by revert hS h2; cases A <;> cases S <;> cases X <;> decide
theorem soD_lt {Φ : Nat → FS} {s d : Nat} : soD Φ s d < 4096 := bS_lt 12
/-- 1: by all ways, 0: by none, else -1, if those of dn were denied -/
def suD (C : List Nat) (Φ : Nat → FS) (dn : Nat) : Int32 := if anyB (fun s => sub s (opN Φ ||| dn) && !(evC C (soD Φ s dn))) 4096 = false then nI 1 else if anyB (fun s => sub s (opN Φ ||| dn) && evC C (soD Φ s dn)) 4096 = false then nI 0 else -1
def enM (C : List Nat) (Φ : Nat → FS) (S : Nat) : Bool := !(anyB (fun s => sub s (opN Φ) && sub S s && !(evC C (soD Φ s 0))) 4096)
theorem fs_take {K : List Nat} {i : Nat} (h : i < K.length) : fsN (K.take (i + 1)) = if K.getD i 0 < 12 then fsN (K.take i) ||| 2 ^ K.getD i 0 else fsN (K.take i) := by
  unfold fsN
  rw [List.take_add_one, List.foldl_append]
  simp [h, List.getD]
theorem enc_lt {x : Nat} (h : x < 15) : enc x < 12 ↔ x < 12 := by
  unfold enc
  split
  · exact Iff.intro id id
  · split
    · omega
    · split <;> omega
theorem enc_le {x : Nat} (h : x < 15) : enc x < 103 := by
  unfold enc
  split
  · omega
  · split
    · omega
    · split <;> omega
theorem enc_id {x : Nat} (h : x < 12) : enc x = x := if_pos h
theorem enc_12 {x : Nat} (h : x < 15) : enc x = 100 ↔ x = 12 := by
  unfold enc
  split
  · omega
  · split
    · omega
    · split <;> omega
theorem enc_13 {x : Nat} (h : x < 15) : enc x = 101 ↔ x = 13 := by
  unfold enc
  split
  · omega
  · split
    · omega
    · split <;> omega
theorem b32_de {x : Int32} {P : Bool} (h : x = b32 P) : x = b32 P := h
theorem one_bit {s : Nat} : nI s &&& nI 1 = nI (s % 2) := fa_mask s 1
set_option maxHeartbeats 1000000 in
set_option maxRecDepth 100000 in
theorem c_X10_hearAll (hn : 148 ≤ n) (I : MI) (J : MJ) (np : Nat) (dy : Nat → Nat) (lt : Nat → Bool) (ac : Nat → Nat → Nat) (hP : MPap I 0 np dy lt ac) (x : Int32) : Cv l n ad cA D z 3 yX10_hearAll cX10_hearAll 3 I J [.ref (ad 117), .int x] (fun I' J' => FcM I' 134 (fun f => stF ac (ltX lt x) f np) ∧ (∀ p, p < np → I' 140 p = nI (silF ac (ltX lt x) p)) ∧ mH I I' ∧ J' = J) := by
  refine Cv.of (by decide) (Nat.le_of_ble_eq_true rfl) ?_
  intro p e s m args below meth c A C hin Z Q hret
  obtain ⟨hnp, h122, hPz⟩ := hP.zz
  refine r_iconst C (dk oX10_hearAll 0 rfl) (v := nI 0) (by decide) ?_
  refine r_istore_n (lo' := [(2, _), (0, _), (1, _)]) C (dk oX10_hearAll 1 rfl) rfl (by decide) rfl ?_
  have L2 : ∀ (d_ : Nat) (f_ : Nat) (I1 : MI), 12 - f_ < d_ → f_ ≤ 12 → (∀ g, g < f_ → ∀ i, i < 5 → I1 (134 + 1 + i) g = frS i) → mH I I1 → V p l e (rmL 3) s m args below meth c Q D A 3 0 0 n ad (mE cA ad I1 J) 2 [(0, .ref (ad 117)), (1, .int x), (2, .int (nI f_))] [] := by
    intro d_
    induction d_ with
    | zero => intros; exact absurd (by assumption) (Nat.not_lt_zero _)
    | succ d_ ih => 
      intro f_ I1 hd_ hf hA hO1
      refine r_iload_n C 2 (dk oX10_hearAll 2 rfl) rfl ?_
      refine r_bipush C (dk oX10_hearAll 3 rfl) (v := nI 12) (by decide) ?_
      refine r_icmp_ge (tgt := 19) C (dk oX10_hearAll 4 rfl) (by decide) (fun hb5 => ?_) (fun hb5 => ?_)
      · simp (disch := omega) only [nI_leI, nI_ltI, nI_eq, nI_eq0] at hb5
        refine r_iconst C (dk oX10_hearAll 10 rfl) (v := nI 0) (by decide) ?_
        refine r_istore_n (lo' := [(2, _), (0, _), (1, _)]) C (dk oX10_hearAll 11 rfl) rfl (by decide) rfl ?_
        have L21 : ∀ (d_ : Nat) (p_ : Nat) (I2 : MI), np - p_ < d_ → p_ ≤ np → FcM I2 134 (fun f => stF ac (ltX lt x) f p_) → (∀ q, q < p_ → I2 140 q = nI (silF ac (ltX lt x) q)) → mH I I2 → V p l e (rmL 3) s m args below meth c Q D A 3 0 0 n ad (mE cA ad I2 J) 21 [(0, .ref (ad 117)), (1, .int x), (2, .int (nI p_))] [] := by
          intro d_
          induction d_ with
          | zero => intros; exact absurd (by assumption) (Nat.not_lt_zero _)
          | succ d_ ih => 
            intro p_ I2 hd2 hpn hM2 hS2 hO2
            refine r_iload_n C 2 (dk oX10_hearAll 12 rfl) rfl ?_
            refine r_aload_n C 0 (dk oX10_hearAll 13 rfl) rfl ?_
            refine r_getR C (dk oX10_hearAll 14 rfl) fl_X10_22 rfl (km hn rfl) ?_
            refine r_iconst C (dk oX10_hearAll 15 rfl) (v := nI 0) (by decide) ?_
            refine r_iald C 0 (dk oX10_hearAll 16 rfl) rfl (km hn rfl) rfl (by decide) (by decide) ?_
            rw [hO2 122 (by decide), h122]
            refine r_icmp_ge (tgt := 61) C (dk oX10_hearAll 17 rfl) (by decide) (fun hb28 => ?_) (fun hb28 => ?_)
            · simp (disch := omega) only [nI_leI, nI_ltI, nI_eq, nI_eq0] at hb28
              refine hret (dk oX10_hearAll 34 rfl) ?_
              exact ⟨by rw [show np = p_ by omega]; exact hM2, fun p hp => hS2 p (by omega), hO2, rfl⟩
            · simp (disch := omega) only [nI_leI, nI_ltI, nI_eq, nI_eq0] at hb28
              refine r_aload_n C 0 (dk oX10_hearAll 18 rfl) rfl ?_
              refine r_iload_n C 2 (dk oX10_hearAll 19 rfl) rfl ?_
              refine r_aload_n C 0 (dk oX10_hearAll 20 rfl) rfl ?_
              refine r_getR C (dk oX10_hearAll 21 rfl) fl_X10_28 rfl (km hn rfl) ?_
              refine r_iload_n C 2 (dk oX10_hearAll 22 rfl) rfl ?_
              refine r_zald C _ (dk oX10_hearAll 23 rfl) rfl (km hn rfl) rfl (by omega) (by decide) ?_
              rw [hO2 124 (by decide), (hPz p_ (by omega)).2.2.1]
              refine r_if_ne (tgt := 47) C (dk oX10_hearAll 24 rfl) (by decide) (fun hb39 => ?_) (fun hb39 => ?_)
              · refine r_iconst C (dk oX10_hearAll 28 rfl) (v := nI 1) (by decide) ?_
                refine r_topI (show nI 1 = b32 (ltX lt x p_) from by
                  first
                    | (have h39 := b32_n.mp hb39
                       unfold ltX; rw [h39]; rfl)
                    | (unfold ltX; rw [decide_eq_true hb44, Bool.or_true]; rfl)) ?_
                refine r_goto (tgt := 52) C (dk oX10_hearAll 29 rfl) (by decide) ?_
                refine r_ivv C Z (dk oX10_hearAll 31 rfl) cl_X10_125 ci_X10_hear rfl (km hn rfl) (c_X10_hear hn I2 J p_ (by omega) (ltX lt x p_) (ac p_) (fun f hf => by rw [hO2 125 (by decide)]; exact (hPz p_ (by omega)).2.2.2 f hf) (fun f => stF ac (ltX lt x) f p_) hM2 (fun f hf => fsOK_st2 p_ (fun j hj => ((hPz j (by omega)).2.2.2 f hf).2))) rfl rfl (Nat.le_of_ble_eq_true rfl) ⟨Nat.le_of_ble_eq_true rfl, Nat.le_of_ble_eq_true rfl⟩ ⟨Nat.zero_le _, Nat.zero_le _⟩ (fun I52 J52 h52 => ?_)
                obtain ⟨hM3, hS3, hS4, hO3, e2_⟩ := h52
                have e2_ := e2_.symm
                subst e2_
                refine r_iinc (lo' := [(2, _), (0, _), (1, _)]) C 2 (dk oX10_hearAll 32 rfl) rfl (by first | exact nI_inc _ | rfl) (by decide) rfl ?_
                refine r_goto (tgt := 21) C (dk oX10_hearAll 33 rfl) (by decide) ?_
                refine V.sub [1, 2, 0] rfl ?_
                refine ih (p_ + 1) I52 (by omega) (by omega) hM3 (fun q hq => ?_) (fun k hk => (hO3 k hk).trans (hO2 k hk))
                by_cases e : q = p_
                · subst e; exact hS3
                · rw [hS4 q e]; exact hS2 q (by omega)
              · rw [b32_0] at hb39
                refine r_iload_n C 2 (dk oX10_hearAll 25 rfl) rfl ?_
                refine r_iload_n C 1 (dk oX10_hearAll 26 rfl) rfl ?_
                refine r_icmp_ne (tgt := 51) C (dk oX10_hearAll 27 rfl) (by decide) (fun hb44 => ?_) (fun hb44 => ?_)
                · refine r_iconst C (dk oX10_hearAll 30 rfl) (v := nI 0) (by decide) ?_
                  refine r_topI (show nI 0 = b32 (ltX lt x p_) from by unfold ltX; rw [hb39, decide_eq_false hb44]; rfl) ?_
                  refine r_ivv C Z (dk oX10_hearAll 31 rfl) cl_X10_125 ci_X10_hear rfl (km hn rfl) (c_X10_hear hn I2 J p_ (by omega) (ltX lt x p_) (ac p_) (fun f hf => by rw [hO2 125 (by decide)]; exact (hPz p_ (by omega)).2.2.2 f hf) (fun f => stF ac (ltX lt x) f p_) hM2 (fun f hf => fsOK_st2 p_ (fun j hj => ((hPz j (by omega)).2.2.2 f hf).2))) rfl rfl (Nat.le_of_ble_eq_true rfl) ⟨Nat.le_of_ble_eq_true rfl, Nat.le_of_ble_eq_true rfl⟩ ⟨Nat.zero_le _, Nat.zero_le _⟩ (fun I52 J52 h52 => ?_)
                  obtain ⟨hM3, hS3, hS4, hO3, e2_⟩ := h52
                  have e2_ := e2_.symm
                  subst e2_
                  refine r_iinc (lo' := [(2, _), (0, _), (1, _)]) C 2 (dk oX10_hearAll 32 rfl) rfl (by first | exact nI_inc _ | rfl) (by decide) rfl ?_
                  refine r_goto (tgt := 21) C (dk oX10_hearAll 33 rfl) (by decide) ?_
                  refine V.sub [1, 2, 0] rfl ?_
                  refine ih (p_ + 1) I52 (by omega) (by omega) hM3 (fun q hq => ?_) (fun k hk => (hO3 k hk).trans (hO2 k hk))
                  by_cases e : q = p_
                  · subst e; exact hS3
                  · rw [hS4 q e]; exact hS2 q (by omega)
                · refine r_iconst C (dk oX10_hearAll 28 rfl) (v := nI 1) (by decide) ?_
                  refine r_topI (show nI 1 = b32 (ltX lt x p_) from by
                    first
                      | (have h39 := b32_n.mp hb39
                         unfold ltX; rw [h39]; rfl)
                      | (unfold ltX; rw [decide_eq_true hb44, Bool.or_true]; rfl)) ?_
                  refine r_goto (tgt := 52) C (dk oX10_hearAll 29 rfl) (by decide) ?_
                  refine r_ivv C Z (dk oX10_hearAll 31 rfl) cl_X10_125 ci_X10_hear rfl (km hn rfl) (c_X10_hear hn I2 J p_ (by omega) (ltX lt x p_) (ac p_) (fun f hf => by rw [hO2 125 (by decide)]; exact (hPz p_ (by omega)).2.2.2 f hf) (fun f => stF ac (ltX lt x) f p_) hM2 (fun f hf => fsOK_st2 p_ (fun j hj => ((hPz j (by omega)).2.2.2 f hf).2))) rfl rfl (Nat.le_of_ble_eq_true rfl) ⟨Nat.le_of_ble_eq_true rfl, Nat.le_of_ble_eq_true rfl⟩ ⟨Nat.zero_le _, Nat.zero_le _⟩ (fun I52 J52 h52 => ?_)
                  obtain ⟨hM3, hS3, hS4, hO3, e2_⟩ := h52
                  have e2_ := e2_.symm
                  subst e2_
                  refine r_iinc (lo' := [(2, _), (0, _), (1, _)]) C 2 (dk oX10_hearAll 32 rfl) rfl (by first | exact nI_inc _ | rfl) (by decide) rfl ?_
                  refine r_goto (tgt := 21) C (dk oX10_hearAll 33 rfl) (by decide) ?_
                  refine V.sub [1, 2, 0] rfl ?_
                  refine ih (p_ + 1) I52 (by omega) (by omega) hM3 (fun q hq => ?_) (fun k hk => (hO3 k hk).trans (hO2 k hk))
                  by_cases e : q = p_
                  · subst e; exact hS3
                  · rw [hS4 q e]; exact hS2 q (by omega)
        refine V.sub [1, 2, 0] rfl ?_
        exact L21 (np + 1) 0 I1 (by omega) (Nat.zero_le _) (fun g hg i hi => hA g (by omega) i hi) (fun q hq => absurd hq (Nat.not_lt_zero _)) hO1
      · simp (disch := omega) only [nI_leI, nI_ltI, nI_eq, nI_eq0] at hb5
        refine r_aload_n C 0 (dk oX10_hearAll 5 rfl) rfl ?_
        refine r_iload_n C 2 (dk oX10_hearAll 6 rfl) rfl ?_
        refine r_ivv C Z (dk oX10_hearAll 7 rfl) cl_X10_113 ci_X10_free rfl (km hn rfl) (c_X10_free hn I1 J f_ (by omega)) rfl rfl (Nat.le_of_ble_eq_true rfl) ⟨Nat.le_of_ble_eq_true rfl, Nat.le_of_ble_eq_true rfl⟩ ⟨Nat.zero_le _, Nat.zero_le _⟩ (fun I10 J10 h10 => ?_)
        obtain ⟨h10, e2_⟩ := h10
        have e2_ := e2_.symm
        subst e2_
        refine r_iinc (lo' := [(2, _), (0, _), (1, _)]) C 2 (dk oX10_hearAll 8 rfl) rfl (by first | exact nI_inc _ | rfl) (by decide) rfl ?_
        refine r_goto (tgt := 2) C (dk oX10_hearAll 9 rfl) (by decide) ?_
        refine V.sub [1, 2, 0] rfl ?_
        refine ih (f_ + 1) I10 (by omega) (by omega) (fun g hg i hi => ?_) (fun k hk => (h10.1 k (by omega)).trans (hO1 k hk))
        rw [h10.2 i hi g]
        by_cases e : g = f_
        · rw [if_pos e]
        · rw [if_neg e]; exact hA g (by omega) i hi
  refine V.sub [1, 2, 0] rfl ?_
  exact L2 13 0 I (by omega) (Nat.zero_le _) (fun g hg => absurd hg (Nat.not_lt_zero _)) (fun _ _ => rfl)

set_option maxHeartbeats 1000000 in
set_option maxRecDepth 100000 in
theorem c_X10_openFacts (hn : 148 ≤ n) (I : MI) (J : MJ) (Φ : Nat → FS) (hM : FcM I 134 Φ) (hok : fsA Φ) : Ci l n ad cA D z 1 yX10_openFacts cX10_openFacts 3 .int I J [.ref (ad 117)] (fun r I' J' => r = nI (opN Φ) ∧ I' = I ∧ J' = J) := by
  refine Ci.of (by decide) (Nat.le_of_ble_eq_true rfl) ?_
  intro p e s m args below meth c A C hin Z Q hret
  refine r_iconst C (dk oX10_openFacts 0 rfl) (v := nI 0) (by decide) ?_
  refine r_istore_n (lo' := [(1, _), (0, _)]) C (dk oX10_openFacts 1 rfl) rfl (by decide) rfl ?_
  refine r_iconst C (dk oX10_openFacts 2 rfl) (v := nI 0) (by decide) ?_
  refine r_istore_n (lo' := [(2, _), (1, _), (0, _)]) C (dk oX10_openFacts 3 rfl) rfl (by decide) rfl ?_
  have L4 : ∀ (d_ : Nat) (f_ : Nat), 12 - f_ < d_ → f_ ≤ 12 → V p l e (rmL 1) s m args below meth c Q D A 3 0 0 n ad (mE cA ad I J) 4 [(0, .ref (ad 117)), (1, .int (nI (bS (fun f => opB (Φ f)) f_))), (2, .int (nI f_))] [] := by
    intro d_
    induction d_ with
    | zero => intros; exact absurd (by assumption) (Nat.not_lt_zero _)
    | succ d_ ih => 
      intro f_ hd_ hf
      refine r_iload_n C 2 (dk oX10_openFacts 4 rfl) rfl ?_
      refine r_bipush C (dk oX10_openFacts 5 rfl) (v := nI 12) (by decide) ?_
      refine r_icmp_ge (tgt := 59) C (dk oX10_openFacts 6 rfl) (by decide) (fun hb7 => ?_) (fun hb7 => ?_)
      · simp (disch := omega) only [nI_leI, nI_ltI, nI_eq, nI_eq0] at hb7
        refine r_iload_n C 1 (dk oX10_openFacts 36 rfl) rfl ?_
        refine hret (dk oX10_openFacts 37 rfl) rfl ?_
        exact ⟨by rw [show f_ = 12 by omega]; rfl, rfl, rfl⟩
      · simp (disch := omega) only [nI_leI, nI_ltI, nI_eq, nI_eq0] at hb7
        refine r_iload_n C 1 (dk oX10_openFacts 7 rfl) rfl ?_
        refine r_aload_n C 0 (dk oX10_openFacts 8 rfl) rfl ?_
        refine r_getR C (dk oX10_openFacts 9 rfl) fl_X10_62 rfl (km hn rfl) ?_
        refine r_iload_n C 2 (dk oX10_openFacts 10 rfl) rfl ?_
        refine r_iald C _ (dk oX10_openFacts 11 rfl) rfl (km hn rfl) rfl (by omega) (by decide) ?_
        rw [show I 135 f_ = Φ f_ 0 from hM f_ (by omega) 0 (by decide)]
        refine r_iconst C (dk oX10_openFacts 12 rfl) (v := nI 1) (by decide) ?_
        refine r_icmp_eq (tgt := 41) C (dk oX10_openFacts 13 rfl) (by decide) (fun hb18 => ?_) (fun hb18 => ?_)
        · refine r_iconst C (dk oX10_openFacts 26 rfl) (v := nI 1) (by decide) ?_
          refine r_topI (show nI 1 = b32 (opB (Φ f_)) from by
            rw [opB_o (hok f_ (by omega))]
            first
              | exact b32_dt (Or.inl hb18)
              | exact b32_dt (Or.inr (Or.inl hb28))
              | exact b32_dt (Or.inr (Or.inr hb38))) ?_
          refine r_goto (tgt := 46) C (dk oX10_openFacts 27 rfl) (by decide) ?_
          refine r_isi C Z (dk oX10_openFacts 29 rfl) cl_X10_109 st_X10_one (c_X10_one _ J _) rfl rfl (Nat.le_of_ble_eq_true rfl) ⟨Nat.le_of_ble_eq_true rfl, Nat.le_of_ble_eq_true rfl⟩ ⟨Nat.zero_le _, Nat.zero_le _⟩ (fun r46 I46 J46 h46 => ?_)
          obtain ⟨h46, e1_, e2_⟩ := h46
          have e1_ := e1_.symm
          have e2_ := e2_.symm
          subst e1_
          subst e2_
          subst h46
          refine r_iload_n C 2 (dk oX10_openFacts 30 rfl) rfl ?_
          refine r_ishl C (dk oX10_openFacts 31 rfl) ?_
          refine r_ior C (dk oX10_openFacts 32 rfl) ?_
          rw [or_b32 (by omega)]
          refine r_istore_n (lo' := [(1, _), (0, _), (2, _)]) C (dk oX10_openFacts 33 rfl) rfl (by decide) rfl ?_
          refine r_iinc (lo' := [(2, _), (1, _), (0, _)]) C 2 (dk oX10_openFacts 34 rfl) rfl (by first | exact nI_inc _ | rfl) (by decide) rfl ?_
          refine r_goto (tgt := 4) C (dk oX10_openFacts 35 rfl) (by decide) ?_
          refine V.sub [2, 1, 0] rfl ?_
          exact ih (f_ + 1) (by omega) (by omega)
        · refine r_aload_n C 0 (dk oX10_openFacts 14 rfl) rfl ?_
          refine r_getR C (dk oX10_openFacts 15 rfl) fl_X10_62 rfl (km hn rfl) ?_
          refine r_iload_n C 2 (dk oX10_openFacts 16 rfl) rfl ?_
          refine r_iald C _ (dk oX10_openFacts 17 rfl) rfl (km hn rfl) rfl (by omega) (by decide) ?_
          rw [show I 135 f_ = Φ f_ 0 from hM f_ (by omega) 0 (by decide)]
          refine r_iconst C (dk oX10_openFacts 18 rfl) (v := nI 3) (by decide) ?_
          refine r_icmp_eq (tgt := 41) C (dk oX10_openFacts 19 rfl) (by decide) (fun hb28 => ?_) (fun hb28 => ?_)
          · refine r_iconst C (dk oX10_openFacts 26 rfl) (v := nI 1) (by decide) ?_
            refine r_topI (show nI 1 = b32 (opB (Φ f_)) from by
              rw [opB_o (hok f_ (by omega))]
              first
                | exact b32_dt (Or.inl hb18)
                | exact b32_dt (Or.inr (Or.inl hb28))
                | exact b32_dt (Or.inr (Or.inr hb38))) ?_
            refine r_goto (tgt := 46) C (dk oX10_openFacts 27 rfl) (by decide) ?_
            refine r_isi C Z (dk oX10_openFacts 29 rfl) cl_X10_109 st_X10_one (c_X10_one _ J _) rfl rfl (Nat.le_of_ble_eq_true rfl) ⟨Nat.le_of_ble_eq_true rfl, Nat.le_of_ble_eq_true rfl⟩ ⟨Nat.zero_le _, Nat.zero_le _⟩ (fun r46 I46 J46 h46 => ?_)
            obtain ⟨h46, e1_, e2_⟩ := h46
            have e1_ := e1_.symm
            have e2_ := e2_.symm
            subst e1_
            subst e2_
            subst h46
            refine r_iload_n C 2 (dk oX10_openFacts 30 rfl) rfl ?_
            refine r_ishl C (dk oX10_openFacts 31 rfl) ?_
            refine r_ior C (dk oX10_openFacts 32 rfl) ?_
            rw [or_b32 (by omega)]
            refine r_istore_n (lo' := [(1, _), (0, _), (2, _)]) C (dk oX10_openFacts 33 rfl) rfl (by decide) rfl ?_
            refine r_iinc (lo' := [(2, _), (1, _), (0, _)]) C 2 (dk oX10_openFacts 34 rfl) rfl (by first | exact nI_inc _ | rfl) (by decide) rfl ?_
            refine r_goto (tgt := 4) C (dk oX10_openFacts 35 rfl) (by decide) ?_
            refine V.sub [2, 1, 0] rfl ?_
            exact ih (f_ + 1) (by omega) (by omega)
          · refine r_aload_n C 0 (dk oX10_openFacts 20 rfl) rfl ?_
            refine r_getR C (dk oX10_openFacts 21 rfl) fl_X10_62 rfl (km hn rfl) ?_
            refine r_iload_n C 2 (dk oX10_openFacts 22 rfl) rfl ?_
            refine r_iald C _ (dk oX10_openFacts 23 rfl) rfl (km hn rfl) rfl (by omega) (by decide) ?_
            rw [show I 135 f_ = Φ f_ 0 from hM f_ (by omega) 0 (by decide)]
            refine r_iconst C (dk oX10_openFacts 24 rfl) (v := nI 4) (by decide) ?_
            refine r_icmp_ne (tgt := 45) C (dk oX10_openFacts 25 rfl) (by decide) (fun hb38 => ?_) (fun hb38 => ?_)
            · refine r_iconst C (dk oX10_openFacts 28 rfl) (v := nI 0) (by decide) ?_
              refine r_topI (show nI 0 = b32 (opB (Φ f_)) from by
                rw [opB_o (hok f_ (by omega))]
                exact b32_df (fun q => q.elim hb18 (fun q => q.elim hb28 hb38))) ?_
              refine r_isi C Z (dk oX10_openFacts 29 rfl) cl_X10_109 st_X10_one (c_X10_one _ J _) rfl rfl (Nat.le_of_ble_eq_true rfl) ⟨Nat.le_of_ble_eq_true rfl, Nat.le_of_ble_eq_true rfl⟩ ⟨Nat.zero_le _, Nat.zero_le _⟩ (fun r46 I46 J46 h46 => ?_)
              obtain ⟨h46, e1_, e2_⟩ := h46
              have e1_ := e1_.symm
              have e2_ := e2_.symm
              subst e1_
              subst e2_
              subst h46
              refine r_iload_n C 2 (dk oX10_openFacts 30 rfl) rfl ?_
              refine r_ishl C (dk oX10_openFacts 31 rfl) ?_
              refine r_ior C (dk oX10_openFacts 32 rfl) ?_
              rw [or_b32 (by omega)]
              refine r_istore_n (lo' := [(1, _), (0, _), (2, _)]) C (dk oX10_openFacts 33 rfl) rfl (by decide) rfl ?_
              refine r_iinc (lo' := [(2, _), (1, _), (0, _)]) C 2 (dk oX10_openFacts 34 rfl) rfl (by first | exact nI_inc _ | rfl) (by decide) rfl ?_
              refine r_goto (tgt := 4) C (dk oX10_openFacts 35 rfl) (by decide) ?_
              refine V.sub [2, 1, 0] rfl ?_
              exact ih (f_ + 1) (by omega) (by omega)
            · refine r_iconst C (dk oX10_openFacts 26 rfl) (v := nI 1) (by decide) ?_
              refine r_topI (show nI 1 = b32 (opB (Φ f_)) from by
                rw [opB_o (hok f_ (by omega))]
                first
                  | exact b32_dt (Or.inl hb18)
                  | exact b32_dt (Or.inr (Or.inl hb28))
                  | exact b32_dt (Or.inr (Or.inr hb38))) ?_
              refine r_goto (tgt := 46) C (dk oX10_openFacts 27 rfl) (by decide) ?_
              refine r_isi C Z (dk oX10_openFacts 29 rfl) cl_X10_109 st_X10_one (c_X10_one _ J _) rfl rfl (Nat.le_of_ble_eq_true rfl) ⟨Nat.le_of_ble_eq_true rfl, Nat.le_of_ble_eq_true rfl⟩ ⟨Nat.zero_le _, Nat.zero_le _⟩ (fun r46 I46 J46 h46 => ?_)
              obtain ⟨h46, e1_, e2_⟩ := h46
              have e1_ := e1_.symm
              have e2_ := e2_.symm
              subst e1_
              subst e2_
              subst h46
              refine r_iload_n C 2 (dk oX10_openFacts 30 rfl) rfl ?_
              refine r_ishl C (dk oX10_openFacts 31 rfl) ?_
              refine r_ior C (dk oX10_openFacts 32 rfl) ?_
              rw [or_b32 (by omega)]
              refine r_istore_n (lo' := [(1, _), (0, _), (2, _)]) C (dk oX10_openFacts 33 rfl) rfl (by decide) rfl ?_
              refine r_iinc (lo' := [(2, _), (1, _), (0, _)]) C 2 (dk oX10_openFacts 34 rfl) rfl (by first | exact nI_inc _ | rfl) (by decide) rfl ?_
              refine r_goto (tgt := 4) C (dk oX10_openFacts 35 rfl) (by decide) ?_
              refine V.sub [2, 1, 0] rfl ?_
              exact ih (f_ + 1) (by omega) (by omega)
  refine V.sub [2, 1, 0] rfl ?_
  exact L4 13 0 (by omega) (Nat.zero_le _)

set_option maxHeartbeats 1000000 in
set_option maxRecDepth 100000 in
theorem c_X10_soBy (hn : 148 ≤ n) (I : MI) (J : MJ) (Φ : Nat → FS) (hM : FcM I 134 Φ) (sh dn : Nat) (hsh : sh < 4096) (hdn : dn < 4096) : Ci l n ad cA D z 1 yX10_soBy cX10_soBy 7 .int I J [.ref (ad 117), .int (nI sh), .int (nI dn)] (fun r I' J' => r = nI (soD Φ sh dn) ∧ I' = I ∧ J' = J) := by
  refine Ci.of (by decide) (Nat.le_of_ble_eq_true rfl) ?_
  intro p e s m args below meth c A C hin Z Q hret
  refine r_iconst C (dk oX10_soBy 0 rfl) (v := nI 0) (by decide) ?_
  refine r_istore_n (lo' := [(3, _), (0, _), (1, _), (2, _)]) C (dk oX10_soBy 1 rfl) rfl (by decide) rfl ?_
  refine r_iconst C (dk oX10_soBy 2 rfl) (v := nI 0) (by decide) ?_
  refine r_istore (lo' := [(4, _), (3, _), (0, _), (1, _), (2, _)]) C (dk oX10_soBy 3 rfl) (by decide) rfl ?_
  have L5 : ∀ (d_ : Nat) (f_ : Nat), 12 - f_ < d_ → f_ ≤ 12 → V p l e (rmL 1) s m args below meth c Q D A 7 0 0 n ad (mE cA ad I J) 5 [(0, .ref (ad 117)), (1, .int (nI sh)), (2, .int (nI dn)), (3, .int (nI (bS (fun f => sdB (Φ f) (sh.testBit f) (dn.testBit f)) f_))), (4, .int (nI f_))] [] := by
    intro d_
    induction d_ with
    | zero => intros; exact absurd (by assumption) (Nat.not_lt_zero _)
    | succ d_ ih => 
      intro f_ hd_ hf
      refine r_iload C 4 (dk oX10_soBy 4 rfl) rfl ?_
      refine r_bipush C (dk oX10_soBy 5 rfl) (v := nI 12) (by decide) ?_
      refine r_icmp_ge (tgt := 136) C (dk oX10_soBy 6 rfl) (by decide) (fun hb9 => ?_) (fun hb9 => ?_)
      · simp (disch := omega) only [nI_leI, nI_ltI, nI_eq, nI_eq0] at hb9
        refine r_iload_n C 3 (dk oX10_soBy 70 rfl) rfl ?_
        refine hret (dk oX10_soBy 71 rfl) rfl ?_
        exact ⟨by rw [show f_ = 12 by omega]; rfl, rfl, rfl⟩
      · simp (disch := omega) only [nI_leI, nI_ltI, nI_eq, nI_eq0] at hb9
        refine r_aload_n C 0 (dk oX10_soBy 7 rfl) rfl ?_
        refine r_getR C (dk oX10_soBy 8 rfl) fl_X10_62 rfl (km hn rfl) ?_
        refine r_iload C 4 (dk oX10_soBy 9 rfl) rfl ?_
        refine r_iald C _ (dk oX10_soBy 10 rfl) rfl (km hn rfl) rfl (by omega) (by decide) ?_
        rw [show I 135 f_ = Φ f_ 0 from hM f_ (by omega) 0 (by decide)]
        refine r_if_eq (tgt := 37) C (dk oX10_soBy 11 rfl) (by decide) (fun hb19 => ?_) (fun hb19 => ?_)
        · refine r_iconst C (dk oX10_soBy 20 rfl) (v := nI 0) (by decide) ?_
          refine r_topI (show nI 0 = b32 (decide (Φ f_ 0 ≠ nI 0 ∧ Φ f_ 1 = nI 1)) from by
            first
              | exact b32_df (fun q => q.1 hb19)
              | exact b32_df (fun q => hb30 q.2)) ?_
          refine r_istore (lo' := [(5, _), (0, _), (1, _), (2, _), (3, _), (4, _)]) C (dk oX10_soBy 21 rfl) (by decide) rfl ?_
          refine r_aload_n C 1 (dk oX10_soBy 22 rfl) rfl ?_
          refine r_getR C (dk oX10_soBy 23 rfl) fl_X10_62 rfl (km hn rfl) ?_
          refine r_iload C 5 (dk oX10_soBy 24 rfl) rfl ?_
          refine r_iald C _ (dk oX10_soBy 25 rfl) rfl (km hn rfl) rfl (by omega) (by decide) ?_
          rw [show I 135 f_ = Φ f_ 0 from hM f_ (by omega) 0 (by decide)]
          refine r_if_eq (tgt := 74) C (dk oX10_soBy 26 rfl) (by decide) (fun hb47 => ?_) (fun hb47 => ?_)
          · refine r_iconst C (dk oX10_soBy 39 rfl) (v := nI 0) (by decide) ?_
            refine r_topI (show nI 0 = b32 (decide (Φ f_ 0 ≠ nI 0 ∧ (Φ f_ 0 ≠ nI 2 ∨ dn.testBit f_ = true))) from by
              first
                | exact b32_df (fun q => q.1 hb47)
                | exact b32_df (fun q => q.2.elim (fun z => z hb58) (fun z => by rw [hb67] at z; cases z))) ?_
            refine r_istore (lo' := [(6, _), (5, _), (0, _), (1, _), (2, _), (3, _), (4, _)]) C (dk oX10_soBy 40 rfl) (by decide) rfl ?_
            refine r_iload_n C 5 (dk oX10_soBy 41 rfl) rfl ?_
            refine r_iload C 0 (dk oX10_soBy 42 rfl) rfl ?_
            refine r_if_eq (tgt := 120) C (dk oX10_soBy 43 rfl) (by decide) (fun hb80 => ?_) (fun hb80 => ?_)
            · rw [b32_0] at hb80
              refine r_iload C 1 (dk oX10_soBy 62 rfl) rfl ?_
              refine r_topI (show b32 (decide (Φ f_ 0 ≠ nI 0 ∧ Φ f_ 1 = nI 1)) = b32 (sdB (Φ f_) (sh.testBit f_) (dn.testBit f_)) from by
                unfold sdB
                rw [if_neg]
                first
                  | exact fun q => by rw [hb80] at q; exact absurd q.1 (by decide)
                  | exact fun q => by rw [hb89] at q; exact absurd q.2 (by decide)) ?_
              refine r_isi C Z (dk oX10_soBy 63 rfl) cl_X10_109 st_X10_one (c_X10_one _ J _) rfl rfl (Nat.le_of_ble_eq_true rfl) ⟨Nat.le_of_ble_eq_true rfl, Nat.le_of_ble_eq_true rfl⟩ ⟨Nat.zero_le _, Nat.zero_le _⟩ (fun r122 I122 J122 h122 => ?_)
              obtain ⟨h122, e1_, e2_⟩ := h122
              have e1_ := e1_.symm
              have e2_ := e2_.symm
              subst e1_
              subst e2_
              subst h122
              refine r_iload C 6 (dk oX10_soBy 64 rfl) rfl ?_
              refine r_ishl C (dk oX10_soBy 65 rfl) ?_
              refine r_ior C (dk oX10_soBy 66 rfl) ?_
              rw [or_b32 (by omega)]
              refine r_istore_n (lo' := [(3, _), (6, _), (5, _), (0, _), (1, _), (2, _), (4, _)]) C (dk oX10_soBy 67 rfl) rfl (by decide) rfl ?_
              refine r_iinc (lo' := [(4, _), (3, _), (6, _), (5, _), (0, _), (1, _), (2, _)]) C 6 (dk oX10_soBy 68 rfl) rfl (by first | exact nI_inc _ | rfl) (by decide) rfl ?_
              refine r_goto (tgt := 5) C (dk oX10_soBy 69 rfl) (by decide) ?_
              refine V.sub [4, 5, 6, 1, 0] rfl ?_
              exact ih (f_ + 1) (by omega) (by omega)
            · rw [b32_n] at hb80
              refine r_iload_n C 3 (dk oX10_soBy 44 rfl) rfl ?_
              refine r_iload C 6 (dk oX10_soBy 45 rfl) rfl ?_
              refine r_isi C Z (dk oX10_soBy 46 rfl) cl_X10_231 st_X10_has (c_X10_has I J (sh) (f_) (by omega) (by omega)) rfl rfl (Nat.le_of_ble_eq_true rfl) ⟨Nat.le_of_ble_eq_true rfl, Nat.le_of_ble_eq_true rfl⟩ ⟨Nat.zero_le _, Nat.zero_le _⟩ (fun r86 I86 J86 h86 => ?_)
              obtain ⟨h86, e1_, e2_⟩ := h86
              have e1_ := e1_.symm
              have e2_ := e2_.symm
              subst e1_
              subst e2_
              subst h86
              refine r_if_ne (tgt := 120) C (dk oX10_soBy 47 rfl) (by decide) (fun hb89 => ?_) (fun hb89 => ?_)
              · rw [b32_n] at hb89
                refine r_iload C 1 (dk oX10_soBy 62 rfl) rfl ?_
                refine r_topI (show b32 (decide (Φ f_ 0 ≠ nI 0 ∧ Φ f_ 1 = nI 1)) = b32 (sdB (Φ f_) (sh.testBit f_) (dn.testBit f_)) from by
                  unfold sdB
                  rw [if_neg]
                  first
                    | exact fun q => by rw [hb80] at q; exact absurd q.1 (by decide)
                    | exact fun q => by rw [hb89] at q; exact absurd q.2 (by decide)) ?_
                refine r_isi C Z (dk oX10_soBy 63 rfl) cl_X10_109 st_X10_one (c_X10_one _ J _) rfl rfl (Nat.le_of_ble_eq_true rfl) ⟨Nat.le_of_ble_eq_true rfl, Nat.le_of_ble_eq_true rfl⟩ ⟨Nat.zero_le _, Nat.zero_le _⟩ (fun r122 I122 J122 h122 => ?_)
                obtain ⟨h122, e1_, e2_⟩ := h122
                have e1_ := e1_.symm
                have e2_ := e2_.symm
                subst e1_
                subst e2_
                subst h122
                refine r_iload C 6 (dk oX10_soBy 64 rfl) rfl ?_
                refine r_ishl C (dk oX10_soBy 65 rfl) ?_
                refine r_ior C (dk oX10_soBy 66 rfl) ?_
                rw [or_b32 (by omega)]
                refine r_istore_n (lo' := [(3, _), (6, _), (5, _), (0, _), (1, _), (2, _), (4, _)]) C (dk oX10_soBy 67 rfl) rfl (by decide) rfl ?_
                refine r_iinc (lo' := [(4, _), (3, _), (6, _), (5, _), (0, _), (1, _), (2, _)]) C 6 (dk oX10_soBy 68 rfl) rfl (by first | exact nI_inc _ | rfl) (by decide) rfl ?_
                refine r_goto (tgt := 5) C (dk oX10_soBy 69 rfl) (by decide) ?_
                refine V.sub [4, 5, 6, 1, 0] rfl ?_
                exact ih (f_ + 1) (by omega) (by omega)
              · rw [b32_0] at hb89
                refine r_aload_n C 2 (dk oX10_soBy 48 rfl) rfl ?_
                refine r_getR C (dk oX10_soBy 49 rfl) fl_X10_62 rfl (km hn rfl) ?_
                refine r_iload C 6 (dk oX10_soBy 50 rfl) rfl ?_
                refine r_iald C _ (dk oX10_soBy 51 rfl) rfl (km hn rfl) rfl (by omega) (by decide) ?_
                rw [show I 135 f_ = Φ f_ 0 from hM f_ (by omega) 0 (by decide)]
                refine r_if_eq (tgt := 116) C (dk oX10_soBy 52 rfl) (by decide) (fun hb99 => ?_) (fun hb99 => ?_)
                · refine r_iconst C (dk oX10_soBy 60 rfl) (v := nI 0) (by decide) ?_
                  refine r_topI (show nI 0 = b32 (sdB (Φ f_) (sh.testBit f_) (dn.testBit f_)) from by
                    unfold sdB
                    rw [if_pos ⟨hb80, hb89⟩]
                    first
                      | exact b32_df (fun q => q.1 hb99)
                      | exact b32_df (fun q => hb109 q.2)) ?_
                  refine r_goto (tgt := 122) C (dk oX10_soBy 61 rfl) (by decide) ?_
                  refine r_isi C Z (dk oX10_soBy 63 rfl) cl_X10_109 st_X10_one (c_X10_one _ J _) rfl rfl (Nat.le_of_ble_eq_true rfl) ⟨Nat.le_of_ble_eq_true rfl, Nat.le_of_ble_eq_true rfl⟩ ⟨Nat.zero_le _, Nat.zero_le _⟩ (fun r122 I122 J122 h122 => ?_)
                  obtain ⟨h122, e1_, e2_⟩ := h122
                  have e1_ := e1_.symm
                  have e2_ := e2_.symm
                  subst e1_
                  subst e2_
                  subst h122
                  refine r_iload C 6 (dk oX10_soBy 64 rfl) rfl ?_
                  refine r_ishl C (dk oX10_soBy 65 rfl) ?_
                  refine r_ior C (dk oX10_soBy 66 rfl) ?_
                  rw [or_b32 (by omega)]
                  refine r_istore_n (lo' := [(3, _), (6, _), (5, _), (0, _), (1, _), (2, _), (4, _)]) C (dk oX10_soBy 67 rfl) rfl (by decide) rfl ?_
                  refine r_iinc (lo' := [(4, _), (3, _), (6, _), (5, _), (0, _), (1, _), (2, _)]) C 6 (dk oX10_soBy 68 rfl) rfl (by first | exact nI_inc _ | rfl) (by decide) rfl ?_
                  refine r_goto (tgt := 5) C (dk oX10_soBy 69 rfl) (by decide) ?_
                  refine V.sub [4, 5, 6, 1, 0] rfl ?_
                  exact ih (f_ + 1) (by omega) (by omega)
                · refine r_aload_n C 2 (dk oX10_soBy 53 rfl) rfl ?_
                  refine r_getR C (dk oX10_soBy 54 rfl) fl_X10_65 rfl (km hn rfl) ?_
                  refine r_iload C 6 (dk oX10_soBy 55 rfl) rfl ?_
                  refine r_iald C _ (dk oX10_soBy 56 rfl) rfl (km hn rfl) rfl (by omega) (by decide) ?_
                  rw [show I 136 f_ = Φ f_ 1 from hM f_ (by omega) 1 (by decide)]
                  refine r_if_ne (tgt := 116) C (dk oX10_soBy 57 rfl) (by decide) (fun hb109 => ?_) (fun hb109 => ?_)
                  · refine r_iconst C (dk oX10_soBy 60 rfl) (v := nI 0) (by decide) ?_
                    refine r_topI (show nI 0 = b32 (sdB (Φ f_) (sh.testBit f_) (dn.testBit f_)) from by
                      unfold sdB
                      rw [if_pos ⟨hb80, hb89⟩]
                      first
                        | exact b32_df (fun q => q.1 hb99)
                        | exact b32_df (fun q => hb109 q.2)) ?_
                    refine r_goto (tgt := 122) C (dk oX10_soBy 61 rfl) (by decide) ?_
                    refine r_isi C Z (dk oX10_soBy 63 rfl) cl_X10_109 st_X10_one (c_X10_one _ J _) rfl rfl (Nat.le_of_ble_eq_true rfl) ⟨Nat.le_of_ble_eq_true rfl, Nat.le_of_ble_eq_true rfl⟩ ⟨Nat.zero_le _, Nat.zero_le _⟩ (fun r122 I122 J122 h122 => ?_)
                    obtain ⟨h122, e1_, e2_⟩ := h122
                    have e1_ := e1_.symm
                    have e2_ := e2_.symm
                    subst e1_
                    subst e2_
                    subst h122
                    refine r_iload C 6 (dk oX10_soBy 64 rfl) rfl ?_
                    refine r_ishl C (dk oX10_soBy 65 rfl) ?_
                    refine r_ior C (dk oX10_soBy 66 rfl) ?_
                    rw [or_b32 (by omega)]
                    refine r_istore_n (lo' := [(3, _), (6, _), (5, _), (0, _), (1, _), (2, _), (4, _)]) C (dk oX10_soBy 67 rfl) rfl (by decide) rfl ?_
                    refine r_iinc (lo' := [(4, _), (3, _), (6, _), (5, _), (0, _), (1, _), (2, _)]) C 6 (dk oX10_soBy 68 rfl) rfl (by first | exact nI_inc _ | rfl) (by decide) rfl ?_
                    refine r_goto (tgt := 5) C (dk oX10_soBy 69 rfl) (by decide) ?_
                    refine V.sub [4, 5, 6, 1, 0] rfl ?_
                    exact ih (f_ + 1) (by omega) (by omega)
                  · refine r_iconst C (dk oX10_soBy 58 rfl) (v := nI 1) (by decide) ?_
                    refine r_topI (show nI 1 = b32 (sdB (Φ f_) (sh.testBit f_) (dn.testBit f_)) from by
                      unfold sdB
                      rw [if_pos ⟨hb80, hb89⟩]
                      exact b32_dt ⟨hb99, hb109⟩) ?_
                    refine r_goto (tgt := 122) C (dk oX10_soBy 59 rfl) (by decide) ?_
                    refine r_isi C Z (dk oX10_soBy 63 rfl) cl_X10_109 st_X10_one (c_X10_one _ J _) rfl rfl (Nat.le_of_ble_eq_true rfl) ⟨Nat.le_of_ble_eq_true rfl, Nat.le_of_ble_eq_true rfl⟩ ⟨Nat.zero_le _, Nat.zero_le _⟩ (fun r122 I122 J122 h122 => ?_)
                    obtain ⟨h122, e1_, e2_⟩ := h122
                    have e1_ := e1_.symm
                    have e2_ := e2_.symm
                    subst e1_
                    subst e2_
                    subst h122
                    refine r_iload C 6 (dk oX10_soBy 64 rfl) rfl ?_
                    refine r_ishl C (dk oX10_soBy 65 rfl) ?_
                    refine r_ior C (dk oX10_soBy 66 rfl) ?_
                    rw [or_b32 (by omega)]
                    refine r_istore_n (lo' := [(3, _), (6, _), (5, _), (0, _), (1, _), (2, _), (4, _)]) C (dk oX10_soBy 67 rfl) rfl (by decide) rfl ?_
                    refine r_iinc (lo' := [(4, _), (3, _), (6, _), (5, _), (0, _), (1, _), (2, _)]) C 6 (dk oX10_soBy 68 rfl) rfl (by first | exact nI_inc _ | rfl) (by decide) rfl ?_
                    refine r_goto (tgt := 5) C (dk oX10_soBy 69 rfl) (by decide) ?_
                    refine V.sub [4, 5, 6, 1, 0] rfl ?_
                    exact ih (f_ + 1) (by omega) (by omega)
          · refine r_aload_n C 1 (dk oX10_soBy 27 rfl) rfl ?_
            refine r_getR C (dk oX10_soBy 28 rfl) fl_X10_62 rfl (km hn rfl) ?_
            refine r_iload C 5 (dk oX10_soBy 29 rfl) rfl ?_
            refine r_iald C _ (dk oX10_soBy 30 rfl) rfl (km hn rfl) rfl (by omega) (by decide) ?_
            rw [show I 135 f_ = Φ f_ 0 from hM f_ (by omega) 0 (by decide)]
            refine r_iconst C (dk oX10_soBy 31 rfl) (v := nI 2) (by decide) ?_
            refine r_icmp_ne (tgt := 70) C (dk oX10_soBy 32 rfl) (by decide) (fun hb58 => ?_) (fun hb58 => ?_)
            · refine r_iconst C (dk oX10_soBy 37 rfl) (v := nI 1) (by decide) ?_
              refine r_topI (show nI 1 = b32 (decide (Φ f_ 0 ≠ nI 0 ∧ (Φ f_ 0 ≠ nI 2 ∨ dn.testBit f_ = true))) from by
                first
                  | exact b32_dt ⟨hb47, Or.inl hb58⟩
                  | exact b32_dt ⟨hb47, Or.inr hb67⟩) ?_
              refine r_goto (tgt := 75) C (dk oX10_soBy 38 rfl) (by decide) ?_
              refine r_istore (lo' := [(6, _), (5, _), (0, _), (1, _), (2, _), (3, _), (4, _)]) C (dk oX10_soBy 40 rfl) (by decide) rfl ?_
              refine r_iload_n C 5 (dk oX10_soBy 41 rfl) rfl ?_
              refine r_iload C 0 (dk oX10_soBy 42 rfl) rfl ?_
              refine r_if_eq (tgt := 120) C (dk oX10_soBy 43 rfl) (by decide) (fun hb80 => ?_) (fun hb80 => ?_)
              · rw [b32_0] at hb80
                refine r_iload C 1 (dk oX10_soBy 62 rfl) rfl ?_
                refine r_topI (show b32 (decide (Φ f_ 0 ≠ nI 0 ∧ Φ f_ 1 = nI 1)) = b32 (sdB (Φ f_) (sh.testBit f_) (dn.testBit f_)) from by
                  unfold sdB
                  rw [if_neg]
                  first
                    | exact fun q => by rw [hb80] at q; exact absurd q.1 (by decide)
                    | exact fun q => by rw [hb89] at q; exact absurd q.2 (by decide)) ?_
                refine r_isi C Z (dk oX10_soBy 63 rfl) cl_X10_109 st_X10_one (c_X10_one _ J _) rfl rfl (Nat.le_of_ble_eq_true rfl) ⟨Nat.le_of_ble_eq_true rfl, Nat.le_of_ble_eq_true rfl⟩ ⟨Nat.zero_le _, Nat.zero_le _⟩ (fun r122 I122 J122 h122 => ?_)
                obtain ⟨h122, e1_, e2_⟩ := h122
                have e1_ := e1_.symm
                have e2_ := e2_.symm
                subst e1_
                subst e2_
                subst h122
                refine r_iload C 6 (dk oX10_soBy 64 rfl) rfl ?_
                refine r_ishl C (dk oX10_soBy 65 rfl) ?_
                refine r_ior C (dk oX10_soBy 66 rfl) ?_
                rw [or_b32 (by omega)]
                refine r_istore_n (lo' := [(3, _), (6, _), (5, _), (0, _), (1, _), (2, _), (4, _)]) C (dk oX10_soBy 67 rfl) rfl (by decide) rfl ?_
                refine r_iinc (lo' := [(4, _), (3, _), (6, _), (5, _), (0, _), (1, _), (2, _)]) C 6 (dk oX10_soBy 68 rfl) rfl (by first | exact nI_inc _ | rfl) (by decide) rfl ?_
                refine r_goto (tgt := 5) C (dk oX10_soBy 69 rfl) (by decide) ?_
                refine V.sub [4, 5, 6, 1, 0] rfl ?_
                exact ih (f_ + 1) (by omega) (by omega)
              · rw [b32_n] at hb80
                refine r_iload_n C 3 (dk oX10_soBy 44 rfl) rfl ?_
                refine r_iload C 6 (dk oX10_soBy 45 rfl) rfl ?_
                refine r_isi C Z (dk oX10_soBy 46 rfl) cl_X10_231 st_X10_has (c_X10_has I J (sh) (f_) (by omega) (by omega)) rfl rfl (Nat.le_of_ble_eq_true rfl) ⟨Nat.le_of_ble_eq_true rfl, Nat.le_of_ble_eq_true rfl⟩ ⟨Nat.zero_le _, Nat.zero_le _⟩ (fun r86 I86 J86 h86 => ?_)
                obtain ⟨h86, e1_, e2_⟩ := h86
                have e1_ := e1_.symm
                have e2_ := e2_.symm
                subst e1_
                subst e2_
                subst h86
                refine r_if_ne (tgt := 120) C (dk oX10_soBy 47 rfl) (by decide) (fun hb89 => ?_) (fun hb89 => ?_)
                · rw [b32_n] at hb89
                  refine r_iload C 1 (dk oX10_soBy 62 rfl) rfl ?_
                  refine r_topI (show b32 (decide (Φ f_ 0 ≠ nI 0 ∧ Φ f_ 1 = nI 1)) = b32 (sdB (Φ f_) (sh.testBit f_) (dn.testBit f_)) from by
                    unfold sdB
                    rw [if_neg]
                    first
                      | exact fun q => by rw [hb80] at q; exact absurd q.1 (by decide)
                      | exact fun q => by rw [hb89] at q; exact absurd q.2 (by decide)) ?_
                  refine r_isi C Z (dk oX10_soBy 63 rfl) cl_X10_109 st_X10_one (c_X10_one _ J _) rfl rfl (Nat.le_of_ble_eq_true rfl) ⟨Nat.le_of_ble_eq_true rfl, Nat.le_of_ble_eq_true rfl⟩ ⟨Nat.zero_le _, Nat.zero_le _⟩ (fun r122 I122 J122 h122 => ?_)
                  obtain ⟨h122, e1_, e2_⟩ := h122
                  have e1_ := e1_.symm
                  have e2_ := e2_.symm
                  subst e1_
                  subst e2_
                  subst h122
                  refine r_iload C 6 (dk oX10_soBy 64 rfl) rfl ?_
                  refine r_ishl C (dk oX10_soBy 65 rfl) ?_
                  refine r_ior C (dk oX10_soBy 66 rfl) ?_
                  rw [or_b32 (by omega)]
                  refine r_istore_n (lo' := [(3, _), (6, _), (5, _), (0, _), (1, _), (2, _), (4, _)]) C (dk oX10_soBy 67 rfl) rfl (by decide) rfl ?_
                  refine r_iinc (lo' := [(4, _), (3, _), (6, _), (5, _), (0, _), (1, _), (2, _)]) C 6 (dk oX10_soBy 68 rfl) rfl (by first | exact nI_inc _ | rfl) (by decide) rfl ?_
                  refine r_goto (tgt := 5) C (dk oX10_soBy 69 rfl) (by decide) ?_
                  refine V.sub [4, 5, 6, 1, 0] rfl ?_
                  exact ih (f_ + 1) (by omega) (by omega)
                · rw [b32_0] at hb89
                  refine r_aload_n C 2 (dk oX10_soBy 48 rfl) rfl ?_
                  refine r_getR C (dk oX10_soBy 49 rfl) fl_X10_62 rfl (km hn rfl) ?_
                  refine r_iload C 6 (dk oX10_soBy 50 rfl) rfl ?_
                  refine r_iald C _ (dk oX10_soBy 51 rfl) rfl (km hn rfl) rfl (by omega) (by decide) ?_
                  rw [show I 135 f_ = Φ f_ 0 from hM f_ (by omega) 0 (by decide)]
                  refine r_if_eq (tgt := 116) C (dk oX10_soBy 52 rfl) (by decide) (fun hb99 => ?_) (fun hb99 => ?_)
                  · refine r_iconst C (dk oX10_soBy 60 rfl) (v := nI 0) (by decide) ?_
                    refine r_topI (show nI 0 = b32 (sdB (Φ f_) (sh.testBit f_) (dn.testBit f_)) from by
                      unfold sdB
                      rw [if_pos ⟨hb80, hb89⟩]
                      first
                        | exact b32_df (fun q => q.1 hb99)
                        | exact b32_df (fun q => hb109 q.2)) ?_
                    refine r_goto (tgt := 122) C (dk oX10_soBy 61 rfl) (by decide) ?_
                    refine r_isi C Z (dk oX10_soBy 63 rfl) cl_X10_109 st_X10_one (c_X10_one _ J _) rfl rfl (Nat.le_of_ble_eq_true rfl) ⟨Nat.le_of_ble_eq_true rfl, Nat.le_of_ble_eq_true rfl⟩ ⟨Nat.zero_le _, Nat.zero_le _⟩ (fun r122 I122 J122 h122 => ?_)
                    obtain ⟨h122, e1_, e2_⟩ := h122
                    have e1_ := e1_.symm
                    have e2_ := e2_.symm
                    subst e1_
                    subst e2_
                    subst h122
                    refine r_iload C 6 (dk oX10_soBy 64 rfl) rfl ?_
                    refine r_ishl C (dk oX10_soBy 65 rfl) ?_
                    refine r_ior C (dk oX10_soBy 66 rfl) ?_
                    rw [or_b32 (by omega)]
                    refine r_istore_n (lo' := [(3, _), (6, _), (5, _), (0, _), (1, _), (2, _), (4, _)]) C (dk oX10_soBy 67 rfl) rfl (by decide) rfl ?_
                    refine r_iinc (lo' := [(4, _), (3, _), (6, _), (5, _), (0, _), (1, _), (2, _)]) C 6 (dk oX10_soBy 68 rfl) rfl (by first | exact nI_inc _ | rfl) (by decide) rfl ?_
                    refine r_goto (tgt := 5) C (dk oX10_soBy 69 rfl) (by decide) ?_
                    refine V.sub [4, 5, 6, 1, 0] rfl ?_
                    exact ih (f_ + 1) (by omega) (by omega)
                  · refine r_aload_n C 2 (dk oX10_soBy 53 rfl) rfl ?_
                    refine r_getR C (dk oX10_soBy 54 rfl) fl_X10_65 rfl (km hn rfl) ?_
                    refine r_iload C 6 (dk oX10_soBy 55 rfl) rfl ?_
                    refine r_iald C _ (dk oX10_soBy 56 rfl) rfl (km hn rfl) rfl (by omega) (by decide) ?_
                    rw [show I 136 f_ = Φ f_ 1 from hM f_ (by omega) 1 (by decide)]
                    refine r_if_ne (tgt := 116) C (dk oX10_soBy 57 rfl) (by decide) (fun hb109 => ?_) (fun hb109 => ?_)
                    · refine r_iconst C (dk oX10_soBy 60 rfl) (v := nI 0) (by decide) ?_
                      refine r_topI (show nI 0 = b32 (sdB (Φ f_) (sh.testBit f_) (dn.testBit f_)) from by
                        unfold sdB
                        rw [if_pos ⟨hb80, hb89⟩]
                        first
                          | exact b32_df (fun q => q.1 hb99)
                          | exact b32_df (fun q => hb109 q.2)) ?_
                      refine r_goto (tgt := 122) C (dk oX10_soBy 61 rfl) (by decide) ?_
                      refine r_isi C Z (dk oX10_soBy 63 rfl) cl_X10_109 st_X10_one (c_X10_one _ J _) rfl rfl (Nat.le_of_ble_eq_true rfl) ⟨Nat.le_of_ble_eq_true rfl, Nat.le_of_ble_eq_true rfl⟩ ⟨Nat.zero_le _, Nat.zero_le _⟩ (fun r122 I122 J122 h122 => ?_)
                      obtain ⟨h122, e1_, e2_⟩ := h122
                      have e1_ := e1_.symm
                      have e2_ := e2_.symm
                      subst e1_
                      subst e2_
                      subst h122
                      refine r_iload C 6 (dk oX10_soBy 64 rfl) rfl ?_
                      refine r_ishl C (dk oX10_soBy 65 rfl) ?_
                      refine r_ior C (dk oX10_soBy 66 rfl) ?_
                      rw [or_b32 (by omega)]
                      refine r_istore_n (lo' := [(3, _), (6, _), (5, _), (0, _), (1, _), (2, _), (4, _)]) C (dk oX10_soBy 67 rfl) rfl (by decide) rfl ?_
                      refine r_iinc (lo' := [(4, _), (3, _), (6, _), (5, _), (0, _), (1, _), (2, _)]) C 6 (dk oX10_soBy 68 rfl) rfl (by first | exact nI_inc _ | rfl) (by decide) rfl ?_
                      refine r_goto (tgt := 5) C (dk oX10_soBy 69 rfl) (by decide) ?_
                      refine V.sub [4, 5, 6, 1, 0] rfl ?_
                      exact ih (f_ + 1) (by omega) (by omega)
                    · refine r_iconst C (dk oX10_soBy 58 rfl) (v := nI 1) (by decide) ?_
                      refine r_topI (show nI 1 = b32 (sdB (Φ f_) (sh.testBit f_) (dn.testBit f_)) from by
                        unfold sdB
                        rw [if_pos ⟨hb80, hb89⟩]
                        exact b32_dt ⟨hb99, hb109⟩) ?_
                      refine r_goto (tgt := 122) C (dk oX10_soBy 59 rfl) (by decide) ?_
                      refine r_isi C Z (dk oX10_soBy 63 rfl) cl_X10_109 st_X10_one (c_X10_one _ J _) rfl rfl (Nat.le_of_ble_eq_true rfl) ⟨Nat.le_of_ble_eq_true rfl, Nat.le_of_ble_eq_true rfl⟩ ⟨Nat.zero_le _, Nat.zero_le _⟩ (fun r122 I122 J122 h122 => ?_)
                      obtain ⟨h122, e1_, e2_⟩ := h122
                      have e1_ := e1_.symm
                      have e2_ := e2_.symm
                      subst e1_
                      subst e2_
                      subst h122
                      refine r_iload C 6 (dk oX10_soBy 64 rfl) rfl ?_
                      refine r_ishl C (dk oX10_soBy 65 rfl) ?_
                      refine r_ior C (dk oX10_soBy 66 rfl) ?_
                      rw [or_b32 (by omega)]
                      refine r_istore_n (lo' := [(3, _), (6, _), (5, _), (0, _), (1, _), (2, _), (4, _)]) C (dk oX10_soBy 67 rfl) rfl (by decide) rfl ?_
                      refine r_iinc (lo' := [(4, _), (3, _), (6, _), (5, _), (0, _), (1, _), (2, _)]) C 6 (dk oX10_soBy 68 rfl) rfl (by first | exact nI_inc _ | rfl) (by decide) rfl ?_
                      refine r_goto (tgt := 5) C (dk oX10_soBy 69 rfl) (by decide) ?_
                      refine V.sub [4, 5, 6, 1, 0] rfl ?_
                      exact ih (f_ + 1) (by omega) (by omega)
            · refine r_iload_n C 3 (dk oX10_soBy 33 rfl) rfl ?_
              refine r_iload C 5 (dk oX10_soBy 34 rfl) rfl ?_
              refine r_isi C Z (dk oX10_soBy 35 rfl) cl_X10_231 st_X10_has (c_X10_has I J (dn) (f_) (by omega) (by omega)) rfl rfl (Nat.le_of_ble_eq_true rfl) ⟨Nat.le_of_ble_eq_true rfl, Nat.le_of_ble_eq_true rfl⟩ ⟨Nat.zero_le _, Nat.zero_le _⟩ (fun r64 I64 J64 h64 => ?_)
              obtain ⟨h64, e1_, e2_⟩ := h64
              have e1_ := e1_.symm
              have e2_ := e2_.symm
              subst e1_
              subst e2_
              subst h64
              refine r_if_eq (tgt := 74) C (dk oX10_soBy 36 rfl) (by decide) (fun hb67 => ?_) (fun hb67 => ?_)
              · rw [b32_0] at hb67
                refine r_iconst C (dk oX10_soBy 39 rfl) (v := nI 0) (by decide) ?_
                refine r_topI (show nI 0 = b32 (decide (Φ f_ 0 ≠ nI 0 ∧ (Φ f_ 0 ≠ nI 2 ∨ dn.testBit f_ = true))) from by
                  first
                    | exact b32_df (fun q => q.1 hb47)
                    | exact b32_df (fun q => q.2.elim (fun z => z hb58) (fun z => by rw [hb67] at z; cases z))) ?_
                refine r_istore (lo' := [(6, _), (5, _), (0, _), (1, _), (2, _), (3, _), (4, _)]) C (dk oX10_soBy 40 rfl) (by decide) rfl ?_
                refine r_iload_n C 5 (dk oX10_soBy 41 rfl) rfl ?_
                refine r_iload C 0 (dk oX10_soBy 42 rfl) rfl ?_
                refine r_if_eq (tgt := 120) C (dk oX10_soBy 43 rfl) (by decide) (fun hb80 => ?_) (fun hb80 => ?_)
                · rw [b32_0] at hb80
                  refine r_iload C 1 (dk oX10_soBy 62 rfl) rfl ?_
                  refine r_topI (show b32 (decide (Φ f_ 0 ≠ nI 0 ∧ Φ f_ 1 = nI 1)) = b32 (sdB (Φ f_) (sh.testBit f_) (dn.testBit f_)) from by
                    unfold sdB
                    rw [if_neg]
                    first
                      | exact fun q => by rw [hb80] at q; exact absurd q.1 (by decide)
                      | exact fun q => by rw [hb89] at q; exact absurd q.2 (by decide)) ?_
                  refine r_isi C Z (dk oX10_soBy 63 rfl) cl_X10_109 st_X10_one (c_X10_one _ J _) rfl rfl (Nat.le_of_ble_eq_true rfl) ⟨Nat.le_of_ble_eq_true rfl, Nat.le_of_ble_eq_true rfl⟩ ⟨Nat.zero_le _, Nat.zero_le _⟩ (fun r122 I122 J122 h122 => ?_)
                  obtain ⟨h122, e1_, e2_⟩ := h122
                  have e1_ := e1_.symm
                  have e2_ := e2_.symm
                  subst e1_
                  subst e2_
                  subst h122
                  refine r_iload C 6 (dk oX10_soBy 64 rfl) rfl ?_
                  refine r_ishl C (dk oX10_soBy 65 rfl) ?_
                  refine r_ior C (dk oX10_soBy 66 rfl) ?_
                  rw [or_b32 (by omega)]
                  refine r_istore_n (lo' := [(3, _), (6, _), (5, _), (0, _), (1, _), (2, _), (4, _)]) C (dk oX10_soBy 67 rfl) rfl (by decide) rfl ?_
                  refine r_iinc (lo' := [(4, _), (3, _), (6, _), (5, _), (0, _), (1, _), (2, _)]) C 6 (dk oX10_soBy 68 rfl) rfl (by first | exact nI_inc _ | rfl) (by decide) rfl ?_
                  refine r_goto (tgt := 5) C (dk oX10_soBy 69 rfl) (by decide) ?_
                  refine V.sub [4, 5, 6, 1, 0] rfl ?_
                  exact ih (f_ + 1) (by omega) (by omega)
                · rw [b32_n] at hb80
                  refine r_iload_n C 3 (dk oX10_soBy 44 rfl) rfl ?_
                  refine r_iload C 6 (dk oX10_soBy 45 rfl) rfl ?_
                  refine r_isi C Z (dk oX10_soBy 46 rfl) cl_X10_231 st_X10_has (c_X10_has I J (sh) (f_) (by omega) (by omega)) rfl rfl (Nat.le_of_ble_eq_true rfl) ⟨Nat.le_of_ble_eq_true rfl, Nat.le_of_ble_eq_true rfl⟩ ⟨Nat.zero_le _, Nat.zero_le _⟩ (fun r86 I86 J86 h86 => ?_)
                  obtain ⟨h86, e1_, e2_⟩ := h86
                  have e1_ := e1_.symm
                  have e2_ := e2_.symm
                  subst e1_
                  subst e2_
                  subst h86
                  refine r_if_ne (tgt := 120) C (dk oX10_soBy 47 rfl) (by decide) (fun hb89 => ?_) (fun hb89 => ?_)
                  · rw [b32_n] at hb89
                    refine r_iload C 1 (dk oX10_soBy 62 rfl) rfl ?_
                    refine r_topI (show b32 (decide (Φ f_ 0 ≠ nI 0 ∧ Φ f_ 1 = nI 1)) = b32 (sdB (Φ f_) (sh.testBit f_) (dn.testBit f_)) from by
                      unfold sdB
                      rw [if_neg]
                      first
                        | exact fun q => by rw [hb80] at q; exact absurd q.1 (by decide)
                        | exact fun q => by rw [hb89] at q; exact absurd q.2 (by decide)) ?_
                    refine r_isi C Z (dk oX10_soBy 63 rfl) cl_X10_109 st_X10_one (c_X10_one _ J _) rfl rfl (Nat.le_of_ble_eq_true rfl) ⟨Nat.le_of_ble_eq_true rfl, Nat.le_of_ble_eq_true rfl⟩ ⟨Nat.zero_le _, Nat.zero_le _⟩ (fun r122 I122 J122 h122 => ?_)
                    obtain ⟨h122, e1_, e2_⟩ := h122
                    have e1_ := e1_.symm
                    have e2_ := e2_.symm
                    subst e1_
                    subst e2_
                    subst h122
                    refine r_iload C 6 (dk oX10_soBy 64 rfl) rfl ?_
                    refine r_ishl C (dk oX10_soBy 65 rfl) ?_
                    refine r_ior C (dk oX10_soBy 66 rfl) ?_
                    rw [or_b32 (by omega)]
                    refine r_istore_n (lo' := [(3, _), (6, _), (5, _), (0, _), (1, _), (2, _), (4, _)]) C (dk oX10_soBy 67 rfl) rfl (by decide) rfl ?_
                    refine r_iinc (lo' := [(4, _), (3, _), (6, _), (5, _), (0, _), (1, _), (2, _)]) C 6 (dk oX10_soBy 68 rfl) rfl (by first | exact nI_inc _ | rfl) (by decide) rfl ?_
                    refine r_goto (tgt := 5) C (dk oX10_soBy 69 rfl) (by decide) ?_
                    refine V.sub [4, 5, 6, 1, 0] rfl ?_
                    exact ih (f_ + 1) (by omega) (by omega)
                  · rw [b32_0] at hb89
                    refine r_aload_n C 2 (dk oX10_soBy 48 rfl) rfl ?_
                    refine r_getR C (dk oX10_soBy 49 rfl) fl_X10_62 rfl (km hn rfl) ?_
                    refine r_iload C 6 (dk oX10_soBy 50 rfl) rfl ?_
                    refine r_iald C _ (dk oX10_soBy 51 rfl) rfl (km hn rfl) rfl (by omega) (by decide) ?_
                    rw [show I 135 f_ = Φ f_ 0 from hM f_ (by omega) 0 (by decide)]
                    refine r_if_eq (tgt := 116) C (dk oX10_soBy 52 rfl) (by decide) (fun hb99 => ?_) (fun hb99 => ?_)
                    · refine r_iconst C (dk oX10_soBy 60 rfl) (v := nI 0) (by decide) ?_
                      refine r_topI (show nI 0 = b32 (sdB (Φ f_) (sh.testBit f_) (dn.testBit f_)) from by
                        unfold sdB
                        rw [if_pos ⟨hb80, hb89⟩]
                        first
                          | exact b32_df (fun q => q.1 hb99)
                          | exact b32_df (fun q => hb109 q.2)) ?_
                      refine r_goto (tgt := 122) C (dk oX10_soBy 61 rfl) (by decide) ?_
                      refine r_isi C Z (dk oX10_soBy 63 rfl) cl_X10_109 st_X10_one (c_X10_one _ J _) rfl rfl (Nat.le_of_ble_eq_true rfl) ⟨Nat.le_of_ble_eq_true rfl, Nat.le_of_ble_eq_true rfl⟩ ⟨Nat.zero_le _, Nat.zero_le _⟩ (fun r122 I122 J122 h122 => ?_)
                      obtain ⟨h122, e1_, e2_⟩ := h122
                      have e1_ := e1_.symm
                      have e2_ := e2_.symm
                      subst e1_
                      subst e2_
                      subst h122
                      refine r_iload C 6 (dk oX10_soBy 64 rfl) rfl ?_
                      refine r_ishl C (dk oX10_soBy 65 rfl) ?_
                      refine r_ior C (dk oX10_soBy 66 rfl) ?_
                      rw [or_b32 (by omega)]
                      refine r_istore_n (lo' := [(3, _), (6, _), (5, _), (0, _), (1, _), (2, _), (4, _)]) C (dk oX10_soBy 67 rfl) rfl (by decide) rfl ?_
                      refine r_iinc (lo' := [(4, _), (3, _), (6, _), (5, _), (0, _), (1, _), (2, _)]) C 6 (dk oX10_soBy 68 rfl) rfl (by first | exact nI_inc _ | rfl) (by decide) rfl ?_
                      refine r_goto (tgt := 5) C (dk oX10_soBy 69 rfl) (by decide) ?_
                      refine V.sub [4, 5, 6, 1, 0] rfl ?_
                      exact ih (f_ + 1) (by omega) (by omega)
                    · refine r_aload_n C 2 (dk oX10_soBy 53 rfl) rfl ?_
                      refine r_getR C (dk oX10_soBy 54 rfl) fl_X10_65 rfl (km hn rfl) ?_
                      refine r_iload C 6 (dk oX10_soBy 55 rfl) rfl ?_
                      refine r_iald C _ (dk oX10_soBy 56 rfl) rfl (km hn rfl) rfl (by omega) (by decide) ?_
                      rw [show I 136 f_ = Φ f_ 1 from hM f_ (by omega) 1 (by decide)]
                      refine r_if_ne (tgt := 116) C (dk oX10_soBy 57 rfl) (by decide) (fun hb109 => ?_) (fun hb109 => ?_)
                      · refine r_iconst C (dk oX10_soBy 60 rfl) (v := nI 0) (by decide) ?_
                        refine r_topI (show nI 0 = b32 (sdB (Φ f_) (sh.testBit f_) (dn.testBit f_)) from by
                          unfold sdB
                          rw [if_pos ⟨hb80, hb89⟩]
                          first
                            | exact b32_df (fun q => q.1 hb99)
                            | exact b32_df (fun q => hb109 q.2)) ?_
                        refine r_goto (tgt := 122) C (dk oX10_soBy 61 rfl) (by decide) ?_
                        refine r_isi C Z (dk oX10_soBy 63 rfl) cl_X10_109 st_X10_one (c_X10_one _ J _) rfl rfl (Nat.le_of_ble_eq_true rfl) ⟨Nat.le_of_ble_eq_true rfl, Nat.le_of_ble_eq_true rfl⟩ ⟨Nat.zero_le _, Nat.zero_le _⟩ (fun r122 I122 J122 h122 => ?_)
                        obtain ⟨h122, e1_, e2_⟩ := h122
                        have e1_ := e1_.symm
                        have e2_ := e2_.symm
                        subst e1_
                        subst e2_
                        subst h122
                        refine r_iload C 6 (dk oX10_soBy 64 rfl) rfl ?_
                        refine r_ishl C (dk oX10_soBy 65 rfl) ?_
                        refine r_ior C (dk oX10_soBy 66 rfl) ?_
                        rw [or_b32 (by omega)]
                        refine r_istore_n (lo' := [(3, _), (6, _), (5, _), (0, _), (1, _), (2, _), (4, _)]) C (dk oX10_soBy 67 rfl) rfl (by decide) rfl ?_
                        refine r_iinc (lo' := [(4, _), (3, _), (6, _), (5, _), (0, _), (1, _), (2, _)]) C 6 (dk oX10_soBy 68 rfl) rfl (by first | exact nI_inc _ | rfl) (by decide) rfl ?_
                        refine r_goto (tgt := 5) C (dk oX10_soBy 69 rfl) (by decide) ?_
                        refine V.sub [4, 5, 6, 1, 0] rfl ?_
                        exact ih (f_ + 1) (by omega) (by omega)
                      · refine r_iconst C (dk oX10_soBy 58 rfl) (v := nI 1) (by decide) ?_
                        refine r_topI (show nI 1 = b32 (sdB (Φ f_) (sh.testBit f_) (dn.testBit f_)) from by
                          unfold sdB
                          rw [if_pos ⟨hb80, hb89⟩]
                          exact b32_dt ⟨hb99, hb109⟩) ?_
                        refine r_goto (tgt := 122) C (dk oX10_soBy 59 rfl) (by decide) ?_
                        refine r_isi C Z (dk oX10_soBy 63 rfl) cl_X10_109 st_X10_one (c_X10_one _ J _) rfl rfl (Nat.le_of_ble_eq_true rfl) ⟨Nat.le_of_ble_eq_true rfl, Nat.le_of_ble_eq_true rfl⟩ ⟨Nat.zero_le _, Nat.zero_le _⟩ (fun r122 I122 J122 h122 => ?_)
                        obtain ⟨h122, e1_, e2_⟩ := h122
                        have e1_ := e1_.symm
                        have e2_ := e2_.symm
                        subst e1_
                        subst e2_
                        subst h122
                        refine r_iload C 6 (dk oX10_soBy 64 rfl) rfl ?_
                        refine r_ishl C (dk oX10_soBy 65 rfl) ?_
                        refine r_ior C (dk oX10_soBy 66 rfl) ?_
                        rw [or_b32 (by omega)]
                        refine r_istore_n (lo' := [(3, _), (6, _), (5, _), (0, _), (1, _), (2, _), (4, _)]) C (dk oX10_soBy 67 rfl) rfl (by decide) rfl ?_
                        refine r_iinc (lo' := [(4, _), (3, _), (6, _), (5, _), (0, _), (1, _), (2, _)]) C 6 (dk oX10_soBy 68 rfl) rfl (by first | exact nI_inc _ | rfl) (by decide) rfl ?_
                        refine r_goto (tgt := 5) C (dk oX10_soBy 69 rfl) (by decide) ?_
                        refine V.sub [4, 5, 6, 1, 0] rfl ?_
                        exact ih (f_ + 1) (by omega) (by omega)
              · rw [b32_n] at hb67
                refine r_iconst C (dk oX10_soBy 37 rfl) (v := nI 1) (by decide) ?_
                refine r_topI (show nI 1 = b32 (decide (Φ f_ 0 ≠ nI 0 ∧ (Φ f_ 0 ≠ nI 2 ∨ dn.testBit f_ = true))) from by
                  first
                    | exact b32_dt ⟨hb47, Or.inl hb58⟩
                    | exact b32_dt ⟨hb47, Or.inr hb67⟩) ?_
                refine r_goto (tgt := 75) C (dk oX10_soBy 38 rfl) (by decide) ?_
                refine r_istore (lo' := [(6, _), (5, _), (0, _), (1, _), (2, _), (3, _), (4, _)]) C (dk oX10_soBy 40 rfl) (by decide) rfl ?_
                refine r_iload_n C 5 (dk oX10_soBy 41 rfl) rfl ?_
                refine r_iload C 0 (dk oX10_soBy 42 rfl) rfl ?_
                refine r_if_eq (tgt := 120) C (dk oX10_soBy 43 rfl) (by decide) (fun hb80 => ?_) (fun hb80 => ?_)
                · rw [b32_0] at hb80
                  refine r_iload C 1 (dk oX10_soBy 62 rfl) rfl ?_
                  refine r_topI (show b32 (decide (Φ f_ 0 ≠ nI 0 ∧ Φ f_ 1 = nI 1)) = b32 (sdB (Φ f_) (sh.testBit f_) (dn.testBit f_)) from by
                    unfold sdB
                    rw [if_neg]
                    first
                      | exact fun q => by rw [hb80] at q; exact absurd q.1 (by decide)
                      | exact fun q => by rw [hb89] at q; exact absurd q.2 (by decide)) ?_
                  refine r_isi C Z (dk oX10_soBy 63 rfl) cl_X10_109 st_X10_one (c_X10_one _ J _) rfl rfl (Nat.le_of_ble_eq_true rfl) ⟨Nat.le_of_ble_eq_true rfl, Nat.le_of_ble_eq_true rfl⟩ ⟨Nat.zero_le _, Nat.zero_le _⟩ (fun r122 I122 J122 h122 => ?_)
                  obtain ⟨h122, e1_, e2_⟩ := h122
                  have e1_ := e1_.symm
                  have e2_ := e2_.symm
                  subst e1_
                  subst e2_
                  subst h122
                  refine r_iload C 6 (dk oX10_soBy 64 rfl) rfl ?_
                  refine r_ishl C (dk oX10_soBy 65 rfl) ?_
                  refine r_ior C (dk oX10_soBy 66 rfl) ?_
                  rw [or_b32 (by omega)]
                  refine r_istore_n (lo' := [(3, _), (6, _), (5, _), (0, _), (1, _), (2, _), (4, _)]) C (dk oX10_soBy 67 rfl) rfl (by decide) rfl ?_
                  refine r_iinc (lo' := [(4, _), (3, _), (6, _), (5, _), (0, _), (1, _), (2, _)]) C 6 (dk oX10_soBy 68 rfl) rfl (by first | exact nI_inc _ | rfl) (by decide) rfl ?_
                  refine r_goto (tgt := 5) C (dk oX10_soBy 69 rfl) (by decide) ?_
                  refine V.sub [4, 5, 6, 1, 0] rfl ?_
                  exact ih (f_ + 1) (by omega) (by omega)
                · rw [b32_n] at hb80
                  refine r_iload_n C 3 (dk oX10_soBy 44 rfl) rfl ?_
                  refine r_iload C 6 (dk oX10_soBy 45 rfl) rfl ?_
                  refine r_isi C Z (dk oX10_soBy 46 rfl) cl_X10_231 st_X10_has (c_X10_has I J (sh) (f_) (by omega) (by omega)) rfl rfl (Nat.le_of_ble_eq_true rfl) ⟨Nat.le_of_ble_eq_true rfl, Nat.le_of_ble_eq_true rfl⟩ ⟨Nat.zero_le _, Nat.zero_le _⟩ (fun r86 I86 J86 h86 => ?_)
                  obtain ⟨h86, e1_, e2_⟩ := h86
                  have e1_ := e1_.symm
                  have e2_ := e2_.symm
                  subst e1_
                  subst e2_
                  subst h86
                  refine r_if_ne (tgt := 120) C (dk oX10_soBy 47 rfl) (by decide) (fun hb89 => ?_) (fun hb89 => ?_)
                  · rw [b32_n] at hb89
                    refine r_iload C 1 (dk oX10_soBy 62 rfl) rfl ?_
                    refine r_topI (show b32 (decide (Φ f_ 0 ≠ nI 0 ∧ Φ f_ 1 = nI 1)) = b32 (sdB (Φ f_) (sh.testBit f_) (dn.testBit f_)) from by
                      unfold sdB
                      rw [if_neg]
                      first
                        | exact fun q => by rw [hb80] at q; exact absurd q.1 (by decide)
                        | exact fun q => by rw [hb89] at q; exact absurd q.2 (by decide)) ?_
                    refine r_isi C Z (dk oX10_soBy 63 rfl) cl_X10_109 st_X10_one (c_X10_one _ J _) rfl rfl (Nat.le_of_ble_eq_true rfl) ⟨Nat.le_of_ble_eq_true rfl, Nat.le_of_ble_eq_true rfl⟩ ⟨Nat.zero_le _, Nat.zero_le _⟩ (fun r122 I122 J122 h122 => ?_)
                    obtain ⟨h122, e1_, e2_⟩ := h122
                    have e1_ := e1_.symm
                    have e2_ := e2_.symm
                    subst e1_
                    subst e2_
                    subst h122
                    refine r_iload C 6 (dk oX10_soBy 64 rfl) rfl ?_
                    refine r_ishl C (dk oX10_soBy 65 rfl) ?_
                    refine r_ior C (dk oX10_soBy 66 rfl) ?_
                    rw [or_b32 (by omega)]
                    refine r_istore_n (lo' := [(3, _), (6, _), (5, _), (0, _), (1, _), (2, _), (4, _)]) C (dk oX10_soBy 67 rfl) rfl (by decide) rfl ?_
                    refine r_iinc (lo' := [(4, _), (3, _), (6, _), (5, _), (0, _), (1, _), (2, _)]) C 6 (dk oX10_soBy 68 rfl) rfl (by first | exact nI_inc _ | rfl) (by decide) rfl ?_
                    refine r_goto (tgt := 5) C (dk oX10_soBy 69 rfl) (by decide) ?_
                    refine V.sub [4, 5, 6, 1, 0] rfl ?_
                    exact ih (f_ + 1) (by omega) (by omega)
                  · rw [b32_0] at hb89
                    refine r_aload_n C 2 (dk oX10_soBy 48 rfl) rfl ?_
                    refine r_getR C (dk oX10_soBy 49 rfl) fl_X10_62 rfl (km hn rfl) ?_
                    refine r_iload C 6 (dk oX10_soBy 50 rfl) rfl ?_
                    refine r_iald C _ (dk oX10_soBy 51 rfl) rfl (km hn rfl) rfl (by omega) (by decide) ?_
                    rw [show I 135 f_ = Φ f_ 0 from hM f_ (by omega) 0 (by decide)]
                    refine r_if_eq (tgt := 116) C (dk oX10_soBy 52 rfl) (by decide) (fun hb99 => ?_) (fun hb99 => ?_)
                    · refine r_iconst C (dk oX10_soBy 60 rfl) (v := nI 0) (by decide) ?_
                      refine r_topI (show nI 0 = b32 (sdB (Φ f_) (sh.testBit f_) (dn.testBit f_)) from by
                        unfold sdB
                        rw [if_pos ⟨hb80, hb89⟩]
                        first
                          | exact b32_df (fun q => q.1 hb99)
                          | exact b32_df (fun q => hb109 q.2)) ?_
                      refine r_goto (tgt := 122) C (dk oX10_soBy 61 rfl) (by decide) ?_
                      refine r_isi C Z (dk oX10_soBy 63 rfl) cl_X10_109 st_X10_one (c_X10_one _ J _) rfl rfl (Nat.le_of_ble_eq_true rfl) ⟨Nat.le_of_ble_eq_true rfl, Nat.le_of_ble_eq_true rfl⟩ ⟨Nat.zero_le _, Nat.zero_le _⟩ (fun r122 I122 J122 h122 => ?_)
                      obtain ⟨h122, e1_, e2_⟩ := h122
                      have e1_ := e1_.symm
                      have e2_ := e2_.symm
                      subst e1_
                      subst e2_
                      subst h122
                      refine r_iload C 6 (dk oX10_soBy 64 rfl) rfl ?_
                      refine r_ishl C (dk oX10_soBy 65 rfl) ?_
                      refine r_ior C (dk oX10_soBy 66 rfl) ?_
                      rw [or_b32 (by omega)]
                      refine r_istore_n (lo' := [(3, _), (6, _), (5, _), (0, _), (1, _), (2, _), (4, _)]) C (dk oX10_soBy 67 rfl) rfl (by decide) rfl ?_
                      refine r_iinc (lo' := [(4, _), (3, _), (6, _), (5, _), (0, _), (1, _), (2, _)]) C 6 (dk oX10_soBy 68 rfl) rfl (by first | exact nI_inc _ | rfl) (by decide) rfl ?_
                      refine r_goto (tgt := 5) C (dk oX10_soBy 69 rfl) (by decide) ?_
                      refine V.sub [4, 5, 6, 1, 0] rfl ?_
                      exact ih (f_ + 1) (by omega) (by omega)
                    · refine r_aload_n C 2 (dk oX10_soBy 53 rfl) rfl ?_
                      refine r_getR C (dk oX10_soBy 54 rfl) fl_X10_65 rfl (km hn rfl) ?_
                      refine r_iload C 6 (dk oX10_soBy 55 rfl) rfl ?_
                      refine r_iald C _ (dk oX10_soBy 56 rfl) rfl (km hn rfl) rfl (by omega) (by decide) ?_
                      rw [show I 136 f_ = Φ f_ 1 from hM f_ (by omega) 1 (by decide)]
                      refine r_if_ne (tgt := 116) C (dk oX10_soBy 57 rfl) (by decide) (fun hb109 => ?_) (fun hb109 => ?_)
                      · refine r_iconst C (dk oX10_soBy 60 rfl) (v := nI 0) (by decide) ?_
                        refine r_topI (show nI 0 = b32 (sdB (Φ f_) (sh.testBit f_) (dn.testBit f_)) from by
                          unfold sdB
                          rw [if_pos ⟨hb80, hb89⟩]
                          first
                            | exact b32_df (fun q => q.1 hb99)
                            | exact b32_df (fun q => hb109 q.2)) ?_
                        refine r_goto (tgt := 122) C (dk oX10_soBy 61 rfl) (by decide) ?_
                        refine r_isi C Z (dk oX10_soBy 63 rfl) cl_X10_109 st_X10_one (c_X10_one _ J _) rfl rfl (Nat.le_of_ble_eq_true rfl) ⟨Nat.le_of_ble_eq_true rfl, Nat.le_of_ble_eq_true rfl⟩ ⟨Nat.zero_le _, Nat.zero_le _⟩ (fun r122 I122 J122 h122 => ?_)
                        obtain ⟨h122, e1_, e2_⟩ := h122
                        have e1_ := e1_.symm
                        have e2_ := e2_.symm
                        subst e1_
                        subst e2_
                        subst h122
                        refine r_iload C 6 (dk oX10_soBy 64 rfl) rfl ?_
                        refine r_ishl C (dk oX10_soBy 65 rfl) ?_
                        refine r_ior C (dk oX10_soBy 66 rfl) ?_
                        rw [or_b32 (by omega)]
                        refine r_istore_n (lo' := [(3, _), (6, _), (5, _), (0, _), (1, _), (2, _), (4, _)]) C (dk oX10_soBy 67 rfl) rfl (by decide) rfl ?_
                        refine r_iinc (lo' := [(4, _), (3, _), (6, _), (5, _), (0, _), (1, _), (2, _)]) C 6 (dk oX10_soBy 68 rfl) rfl (by first | exact nI_inc _ | rfl) (by decide) rfl ?_
                        refine r_goto (tgt := 5) C (dk oX10_soBy 69 rfl) (by decide) ?_
                        refine V.sub [4, 5, 6, 1, 0] rfl ?_
                        exact ih (f_ + 1) (by omega) (by omega)
                      · refine r_iconst C (dk oX10_soBy 58 rfl) (v := nI 1) (by decide) ?_
                        refine r_topI (show nI 1 = b32 (sdB (Φ f_) (sh.testBit f_) (dn.testBit f_)) from by
                          unfold sdB
                          rw [if_pos ⟨hb80, hb89⟩]
                          exact b32_dt ⟨hb99, hb109⟩) ?_
                        refine r_goto (tgt := 122) C (dk oX10_soBy 59 rfl) (by decide) ?_
                        refine r_isi C Z (dk oX10_soBy 63 rfl) cl_X10_109 st_X10_one (c_X10_one _ J _) rfl rfl (Nat.le_of_ble_eq_true rfl) ⟨Nat.le_of_ble_eq_true rfl, Nat.le_of_ble_eq_true rfl⟩ ⟨Nat.zero_le _, Nat.zero_le _⟩ (fun r122 I122 J122 h122 => ?_)
                        obtain ⟨h122, e1_, e2_⟩ := h122
                        have e1_ := e1_.symm
                        have e2_ := e2_.symm
                        subst e1_
                        subst e2_
                        subst h122
                        refine r_iload C 6 (dk oX10_soBy 64 rfl) rfl ?_
                        refine r_ishl C (dk oX10_soBy 65 rfl) ?_
                        refine r_ior C (dk oX10_soBy 66 rfl) ?_
                        rw [or_b32 (by omega)]
                        refine r_istore_n (lo' := [(3, _), (6, _), (5, _), (0, _), (1, _), (2, _), (4, _)]) C (dk oX10_soBy 67 rfl) rfl (by decide) rfl ?_
                        refine r_iinc (lo' := [(4, _), (3, _), (6, _), (5, _), (0, _), (1, _), (2, _)]) C 6 (dk oX10_soBy 68 rfl) rfl (by first | exact nI_inc _ | rfl) (by decide) rfl ?_
                        refine r_goto (tgt := 5) C (dk oX10_soBy 69 rfl) (by decide) ?_
                        refine V.sub [4, 5, 6, 1, 0] rfl ?_
                        exact ih (f_ + 1) (by omega) (by omega)
        · refine r_aload_n C 0 (dk oX10_soBy 12 rfl) rfl ?_
          refine r_getR C (dk oX10_soBy 13 rfl) fl_X10_65 rfl (km hn rfl) ?_
          refine r_iload C 4 (dk oX10_soBy 14 rfl) rfl ?_
          refine r_iald C _ (dk oX10_soBy 15 rfl) rfl (km hn rfl) rfl (by omega) (by decide) ?_
          rw [show I 136 f_ = Φ f_ 1 from hM f_ (by omega) 1 (by decide)]
          refine r_iconst C (dk oX10_soBy 16 rfl) (v := nI 1) (by decide) ?_
          refine r_icmp_ne (tgt := 37) C (dk oX10_soBy 17 rfl) (by decide) (fun hb30 => ?_) (fun hb30 => ?_)
          · refine r_iconst C (dk oX10_soBy 20 rfl) (v := nI 0) (by decide) ?_
            refine r_topI (show nI 0 = b32 (decide (Φ f_ 0 ≠ nI 0 ∧ Φ f_ 1 = nI 1)) from by
              first
                | exact b32_df (fun q => q.1 hb19)
                | exact b32_df (fun q => hb30 q.2)) ?_
            refine r_istore (lo' := [(5, _), (0, _), (1, _), (2, _), (3, _), (4, _)]) C (dk oX10_soBy 21 rfl) (by decide) rfl ?_
            refine r_aload_n C 1 (dk oX10_soBy 22 rfl) rfl ?_
            refine r_getR C (dk oX10_soBy 23 rfl) fl_X10_62 rfl (km hn rfl) ?_
            refine r_iload C 5 (dk oX10_soBy 24 rfl) rfl ?_
            refine r_iald C _ (dk oX10_soBy 25 rfl) rfl (km hn rfl) rfl (by omega) (by decide) ?_
            rw [show I 135 f_ = Φ f_ 0 from hM f_ (by omega) 0 (by decide)]
            refine r_if_eq (tgt := 74) C (dk oX10_soBy 26 rfl) (by decide) (fun hb47 => ?_) (fun hb47 => ?_)
            · refine r_iconst C (dk oX10_soBy 39 rfl) (v := nI 0) (by decide) ?_
              refine r_topI (show nI 0 = b32 (decide (Φ f_ 0 ≠ nI 0 ∧ (Φ f_ 0 ≠ nI 2 ∨ dn.testBit f_ = true))) from by
                first
                  | exact b32_df (fun q => q.1 hb47)
                  | exact b32_df (fun q => q.2.elim (fun z => z hb58) (fun z => by rw [hb67] at z; cases z))) ?_
              refine r_istore (lo' := [(6, _), (5, _), (0, _), (1, _), (2, _), (3, _), (4, _)]) C (dk oX10_soBy 40 rfl) (by decide) rfl ?_
              refine r_iload_n C 5 (dk oX10_soBy 41 rfl) rfl ?_
              refine r_iload C 0 (dk oX10_soBy 42 rfl) rfl ?_
              refine r_if_eq (tgt := 120) C (dk oX10_soBy 43 rfl) (by decide) (fun hb80 => ?_) (fun hb80 => ?_)
              · rw [b32_0] at hb80
                refine r_iload C 1 (dk oX10_soBy 62 rfl) rfl ?_
                refine r_topI (show b32 (decide (Φ f_ 0 ≠ nI 0 ∧ Φ f_ 1 = nI 1)) = b32 (sdB (Φ f_) (sh.testBit f_) (dn.testBit f_)) from by
                  unfold sdB
                  rw [if_neg]
                  first
                    | exact fun q => by rw [hb80] at q; exact absurd q.1 (by decide)
                    | exact fun q => by rw [hb89] at q; exact absurd q.2 (by decide)) ?_
                refine r_isi C Z (dk oX10_soBy 63 rfl) cl_X10_109 st_X10_one (c_X10_one _ J _) rfl rfl (Nat.le_of_ble_eq_true rfl) ⟨Nat.le_of_ble_eq_true rfl, Nat.le_of_ble_eq_true rfl⟩ ⟨Nat.zero_le _, Nat.zero_le _⟩ (fun r122 I122 J122 h122 => ?_)
                obtain ⟨h122, e1_, e2_⟩ := h122
                have e1_ := e1_.symm
                have e2_ := e2_.symm
                subst e1_
                subst e2_
                subst h122
                refine r_iload C 6 (dk oX10_soBy 64 rfl) rfl ?_
                refine r_ishl C (dk oX10_soBy 65 rfl) ?_
                refine r_ior C (dk oX10_soBy 66 rfl) ?_
                rw [or_b32 (by omega)]
                refine r_istore_n (lo' := [(3, _), (6, _), (5, _), (0, _), (1, _), (2, _), (4, _)]) C (dk oX10_soBy 67 rfl) rfl (by decide) rfl ?_
                refine r_iinc (lo' := [(4, _), (3, _), (6, _), (5, _), (0, _), (1, _), (2, _)]) C 6 (dk oX10_soBy 68 rfl) rfl (by first | exact nI_inc _ | rfl) (by decide) rfl ?_
                refine r_goto (tgt := 5) C (dk oX10_soBy 69 rfl) (by decide) ?_
                refine V.sub [4, 5, 6, 1, 0] rfl ?_
                exact ih (f_ + 1) (by omega) (by omega)
              · rw [b32_n] at hb80
                refine r_iload_n C 3 (dk oX10_soBy 44 rfl) rfl ?_
                refine r_iload C 6 (dk oX10_soBy 45 rfl) rfl ?_
                refine r_isi C Z (dk oX10_soBy 46 rfl) cl_X10_231 st_X10_has (c_X10_has I J (sh) (f_) (by omega) (by omega)) rfl rfl (Nat.le_of_ble_eq_true rfl) ⟨Nat.le_of_ble_eq_true rfl, Nat.le_of_ble_eq_true rfl⟩ ⟨Nat.zero_le _, Nat.zero_le _⟩ (fun r86 I86 J86 h86 => ?_)
                obtain ⟨h86, e1_, e2_⟩ := h86
                have e1_ := e1_.symm
                have e2_ := e2_.symm
                subst e1_
                subst e2_
                subst h86
                refine r_if_ne (tgt := 120) C (dk oX10_soBy 47 rfl) (by decide) (fun hb89 => ?_) (fun hb89 => ?_)
                · rw [b32_n] at hb89
                  refine r_iload C 1 (dk oX10_soBy 62 rfl) rfl ?_
                  refine r_topI (show b32 (decide (Φ f_ 0 ≠ nI 0 ∧ Φ f_ 1 = nI 1)) = b32 (sdB (Φ f_) (sh.testBit f_) (dn.testBit f_)) from by
                    unfold sdB
                    rw [if_neg]
                    first
                      | exact fun q => by rw [hb80] at q; exact absurd q.1 (by decide)
                      | exact fun q => by rw [hb89] at q; exact absurd q.2 (by decide)) ?_
                  refine r_isi C Z (dk oX10_soBy 63 rfl) cl_X10_109 st_X10_one (c_X10_one _ J _) rfl rfl (Nat.le_of_ble_eq_true rfl) ⟨Nat.le_of_ble_eq_true rfl, Nat.le_of_ble_eq_true rfl⟩ ⟨Nat.zero_le _, Nat.zero_le _⟩ (fun r122 I122 J122 h122 => ?_)
                  obtain ⟨h122, e1_, e2_⟩ := h122
                  have e1_ := e1_.symm
                  have e2_ := e2_.symm
                  subst e1_
                  subst e2_
                  subst h122
                  refine r_iload C 6 (dk oX10_soBy 64 rfl) rfl ?_
                  refine r_ishl C (dk oX10_soBy 65 rfl) ?_
                  refine r_ior C (dk oX10_soBy 66 rfl) ?_
                  rw [or_b32 (by omega)]
                  refine r_istore_n (lo' := [(3, _), (6, _), (5, _), (0, _), (1, _), (2, _), (4, _)]) C (dk oX10_soBy 67 rfl) rfl (by decide) rfl ?_
                  refine r_iinc (lo' := [(4, _), (3, _), (6, _), (5, _), (0, _), (1, _), (2, _)]) C 6 (dk oX10_soBy 68 rfl) rfl (by first | exact nI_inc _ | rfl) (by decide) rfl ?_
                  refine r_goto (tgt := 5) C (dk oX10_soBy 69 rfl) (by decide) ?_
                  refine V.sub [4, 5, 6, 1, 0] rfl ?_
                  exact ih (f_ + 1) (by omega) (by omega)
                · rw [b32_0] at hb89
                  refine r_aload_n C 2 (dk oX10_soBy 48 rfl) rfl ?_
                  refine r_getR C (dk oX10_soBy 49 rfl) fl_X10_62 rfl (km hn rfl) ?_
                  refine r_iload C 6 (dk oX10_soBy 50 rfl) rfl ?_
                  refine r_iald C _ (dk oX10_soBy 51 rfl) rfl (km hn rfl) rfl (by omega) (by decide) ?_
                  rw [show I 135 f_ = Φ f_ 0 from hM f_ (by omega) 0 (by decide)]
                  refine r_if_eq (tgt := 116) C (dk oX10_soBy 52 rfl) (by decide) (fun hb99 => ?_) (fun hb99 => ?_)
                  · refine r_iconst C (dk oX10_soBy 60 rfl) (v := nI 0) (by decide) ?_
                    refine r_topI (show nI 0 = b32 (sdB (Φ f_) (sh.testBit f_) (dn.testBit f_)) from by
                      unfold sdB
                      rw [if_pos ⟨hb80, hb89⟩]
                      first
                        | exact b32_df (fun q => q.1 hb99)
                        | exact b32_df (fun q => hb109 q.2)) ?_
                    refine r_goto (tgt := 122) C (dk oX10_soBy 61 rfl) (by decide) ?_
                    refine r_isi C Z (dk oX10_soBy 63 rfl) cl_X10_109 st_X10_one (c_X10_one _ J _) rfl rfl (Nat.le_of_ble_eq_true rfl) ⟨Nat.le_of_ble_eq_true rfl, Nat.le_of_ble_eq_true rfl⟩ ⟨Nat.zero_le _, Nat.zero_le _⟩ (fun r122 I122 J122 h122 => ?_)
                    obtain ⟨h122, e1_, e2_⟩ := h122
                    have e1_ := e1_.symm
                    have e2_ := e2_.symm
                    subst e1_
                    subst e2_
                    subst h122
                    refine r_iload C 6 (dk oX10_soBy 64 rfl) rfl ?_
                    refine r_ishl C (dk oX10_soBy 65 rfl) ?_
                    refine r_ior C (dk oX10_soBy 66 rfl) ?_
                    rw [or_b32 (by omega)]
                    refine r_istore_n (lo' := [(3, _), (6, _), (5, _), (0, _), (1, _), (2, _), (4, _)]) C (dk oX10_soBy 67 rfl) rfl (by decide) rfl ?_
                    refine r_iinc (lo' := [(4, _), (3, _), (6, _), (5, _), (0, _), (1, _), (2, _)]) C 6 (dk oX10_soBy 68 rfl) rfl (by first | exact nI_inc _ | rfl) (by decide) rfl ?_
                    refine r_goto (tgt := 5) C (dk oX10_soBy 69 rfl) (by decide) ?_
                    refine V.sub [4, 5, 6, 1, 0] rfl ?_
                    exact ih (f_ + 1) (by omega) (by omega)
                  · refine r_aload_n C 2 (dk oX10_soBy 53 rfl) rfl ?_
                    refine r_getR C (dk oX10_soBy 54 rfl) fl_X10_65 rfl (km hn rfl) ?_
                    refine r_iload C 6 (dk oX10_soBy 55 rfl) rfl ?_
                    refine r_iald C _ (dk oX10_soBy 56 rfl) rfl (km hn rfl) rfl (by omega) (by decide) ?_
                    rw [show I 136 f_ = Φ f_ 1 from hM f_ (by omega) 1 (by decide)]
                    refine r_if_ne (tgt := 116) C (dk oX10_soBy 57 rfl) (by decide) (fun hb109 => ?_) (fun hb109 => ?_)
                    · refine r_iconst C (dk oX10_soBy 60 rfl) (v := nI 0) (by decide) ?_
                      refine r_topI (show nI 0 = b32 (sdB (Φ f_) (sh.testBit f_) (dn.testBit f_)) from by
                        unfold sdB
                        rw [if_pos ⟨hb80, hb89⟩]
                        first
                          | exact b32_df (fun q => q.1 hb99)
                          | exact b32_df (fun q => hb109 q.2)) ?_
                      refine r_goto (tgt := 122) C (dk oX10_soBy 61 rfl) (by decide) ?_
                      refine r_isi C Z (dk oX10_soBy 63 rfl) cl_X10_109 st_X10_one (c_X10_one _ J _) rfl rfl (Nat.le_of_ble_eq_true rfl) ⟨Nat.le_of_ble_eq_true rfl, Nat.le_of_ble_eq_true rfl⟩ ⟨Nat.zero_le _, Nat.zero_le _⟩ (fun r122 I122 J122 h122 => ?_)
                      obtain ⟨h122, e1_, e2_⟩ := h122
                      have e1_ := e1_.symm
                      have e2_ := e2_.symm
                      subst e1_
                      subst e2_
                      subst h122
                      refine r_iload C 6 (dk oX10_soBy 64 rfl) rfl ?_
                      refine r_ishl C (dk oX10_soBy 65 rfl) ?_
                      refine r_ior C (dk oX10_soBy 66 rfl) ?_
                      rw [or_b32 (by omega)]
                      refine r_istore_n (lo' := [(3, _), (6, _), (5, _), (0, _), (1, _), (2, _), (4, _)]) C (dk oX10_soBy 67 rfl) rfl (by decide) rfl ?_
                      refine r_iinc (lo' := [(4, _), (3, _), (6, _), (5, _), (0, _), (1, _), (2, _)]) C 6 (dk oX10_soBy 68 rfl) rfl (by first | exact nI_inc _ | rfl) (by decide) rfl ?_
                      refine r_goto (tgt := 5) C (dk oX10_soBy 69 rfl) (by decide) ?_
                      refine V.sub [4, 5, 6, 1, 0] rfl ?_
                      exact ih (f_ + 1) (by omega) (by omega)
                    · refine r_iconst C (dk oX10_soBy 58 rfl) (v := nI 1) (by decide) ?_
                      refine r_topI (show nI 1 = b32 (sdB (Φ f_) (sh.testBit f_) (dn.testBit f_)) from by
                        unfold sdB
                        rw [if_pos ⟨hb80, hb89⟩]
                        exact b32_dt ⟨hb99, hb109⟩) ?_
                      refine r_goto (tgt := 122) C (dk oX10_soBy 59 rfl) (by decide) ?_
                      refine r_isi C Z (dk oX10_soBy 63 rfl) cl_X10_109 st_X10_one (c_X10_one _ J _) rfl rfl (Nat.le_of_ble_eq_true rfl) ⟨Nat.le_of_ble_eq_true rfl, Nat.le_of_ble_eq_true rfl⟩ ⟨Nat.zero_le _, Nat.zero_le _⟩ (fun r122 I122 J122 h122 => ?_)
                      obtain ⟨h122, e1_, e2_⟩ := h122
                      have e1_ := e1_.symm
                      have e2_ := e2_.symm
                      subst e1_
                      subst e2_
                      subst h122
                      refine r_iload C 6 (dk oX10_soBy 64 rfl) rfl ?_
                      refine r_ishl C (dk oX10_soBy 65 rfl) ?_
                      refine r_ior C (dk oX10_soBy 66 rfl) ?_
                      rw [or_b32 (by omega)]
                      refine r_istore_n (lo' := [(3, _), (6, _), (5, _), (0, _), (1, _), (2, _), (4, _)]) C (dk oX10_soBy 67 rfl) rfl (by decide) rfl ?_
                      refine r_iinc (lo' := [(4, _), (3, _), (6, _), (5, _), (0, _), (1, _), (2, _)]) C 6 (dk oX10_soBy 68 rfl) rfl (by first | exact nI_inc _ | rfl) (by decide) rfl ?_
                      refine r_goto (tgt := 5) C (dk oX10_soBy 69 rfl) (by decide) ?_
                      refine V.sub [4, 5, 6, 1, 0] rfl ?_
                      exact ih (f_ + 1) (by omega) (by omega)
            · refine r_aload_n C 1 (dk oX10_soBy 27 rfl) rfl ?_
              refine r_getR C (dk oX10_soBy 28 rfl) fl_X10_62 rfl (km hn rfl) ?_
              refine r_iload C 5 (dk oX10_soBy 29 rfl) rfl ?_
              refine r_iald C _ (dk oX10_soBy 30 rfl) rfl (km hn rfl) rfl (by omega) (by decide) ?_
              rw [show I 135 f_ = Φ f_ 0 from hM f_ (by omega) 0 (by decide)]
              refine r_iconst C (dk oX10_soBy 31 rfl) (v := nI 2) (by decide) ?_
              refine r_icmp_ne (tgt := 70) C (dk oX10_soBy 32 rfl) (by decide) (fun hb58 => ?_) (fun hb58 => ?_)
              · refine r_iconst C (dk oX10_soBy 37 rfl) (v := nI 1) (by decide) ?_
                refine r_topI (show nI 1 = b32 (decide (Φ f_ 0 ≠ nI 0 ∧ (Φ f_ 0 ≠ nI 2 ∨ dn.testBit f_ = true))) from by
                  first
                    | exact b32_dt ⟨hb47, Or.inl hb58⟩
                    | exact b32_dt ⟨hb47, Or.inr hb67⟩) ?_
                refine r_goto (tgt := 75) C (dk oX10_soBy 38 rfl) (by decide) ?_
                refine r_istore (lo' := [(6, _), (5, _), (0, _), (1, _), (2, _), (3, _), (4, _)]) C (dk oX10_soBy 40 rfl) (by decide) rfl ?_
                refine r_iload_n C 5 (dk oX10_soBy 41 rfl) rfl ?_
                refine r_iload C 0 (dk oX10_soBy 42 rfl) rfl ?_
                refine r_if_eq (tgt := 120) C (dk oX10_soBy 43 rfl) (by decide) (fun hb80 => ?_) (fun hb80 => ?_)
                · rw [b32_0] at hb80
                  refine r_iload C 1 (dk oX10_soBy 62 rfl) rfl ?_
                  refine r_topI (show b32 (decide (Φ f_ 0 ≠ nI 0 ∧ Φ f_ 1 = nI 1)) = b32 (sdB (Φ f_) (sh.testBit f_) (dn.testBit f_)) from by
                    unfold sdB
                    rw [if_neg]
                    first
                      | exact fun q => by rw [hb80] at q; exact absurd q.1 (by decide)
                      | exact fun q => by rw [hb89] at q; exact absurd q.2 (by decide)) ?_
                  refine r_isi C Z (dk oX10_soBy 63 rfl) cl_X10_109 st_X10_one (c_X10_one _ J _) rfl rfl (Nat.le_of_ble_eq_true rfl) ⟨Nat.le_of_ble_eq_true rfl, Nat.le_of_ble_eq_true rfl⟩ ⟨Nat.zero_le _, Nat.zero_le _⟩ (fun r122 I122 J122 h122 => ?_)
                  obtain ⟨h122, e1_, e2_⟩ := h122
                  have e1_ := e1_.symm
                  have e2_ := e2_.symm
                  subst e1_
                  subst e2_
                  subst h122
                  refine r_iload C 6 (dk oX10_soBy 64 rfl) rfl ?_
                  refine r_ishl C (dk oX10_soBy 65 rfl) ?_
                  refine r_ior C (dk oX10_soBy 66 rfl) ?_
                  rw [or_b32 (by omega)]
                  refine r_istore_n (lo' := [(3, _), (6, _), (5, _), (0, _), (1, _), (2, _), (4, _)]) C (dk oX10_soBy 67 rfl) rfl (by decide) rfl ?_
                  refine r_iinc (lo' := [(4, _), (3, _), (6, _), (5, _), (0, _), (1, _), (2, _)]) C 6 (dk oX10_soBy 68 rfl) rfl (by first | exact nI_inc _ | rfl) (by decide) rfl ?_
                  refine r_goto (tgt := 5) C (dk oX10_soBy 69 rfl) (by decide) ?_
                  refine V.sub [4, 5, 6, 1, 0] rfl ?_
                  exact ih (f_ + 1) (by omega) (by omega)
                · rw [b32_n] at hb80
                  refine r_iload_n C 3 (dk oX10_soBy 44 rfl) rfl ?_
                  refine r_iload C 6 (dk oX10_soBy 45 rfl) rfl ?_
                  refine r_isi C Z (dk oX10_soBy 46 rfl) cl_X10_231 st_X10_has (c_X10_has I J (sh) (f_) (by omega) (by omega)) rfl rfl (Nat.le_of_ble_eq_true rfl) ⟨Nat.le_of_ble_eq_true rfl, Nat.le_of_ble_eq_true rfl⟩ ⟨Nat.zero_le _, Nat.zero_le _⟩ (fun r86 I86 J86 h86 => ?_)
                  obtain ⟨h86, e1_, e2_⟩ := h86
                  have e1_ := e1_.symm
                  have e2_ := e2_.symm
                  subst e1_
                  subst e2_
                  subst h86
                  refine r_if_ne (tgt := 120) C (dk oX10_soBy 47 rfl) (by decide) (fun hb89 => ?_) (fun hb89 => ?_)
                  · rw [b32_n] at hb89
                    refine r_iload C 1 (dk oX10_soBy 62 rfl) rfl ?_
                    refine r_topI (show b32 (decide (Φ f_ 0 ≠ nI 0 ∧ Φ f_ 1 = nI 1)) = b32 (sdB (Φ f_) (sh.testBit f_) (dn.testBit f_)) from by
                      unfold sdB
                      rw [if_neg]
                      first
                        | exact fun q => by rw [hb80] at q; exact absurd q.1 (by decide)
                        | exact fun q => by rw [hb89] at q; exact absurd q.2 (by decide)) ?_
                    refine r_isi C Z (dk oX10_soBy 63 rfl) cl_X10_109 st_X10_one (c_X10_one _ J _) rfl rfl (Nat.le_of_ble_eq_true rfl) ⟨Nat.le_of_ble_eq_true rfl, Nat.le_of_ble_eq_true rfl⟩ ⟨Nat.zero_le _, Nat.zero_le _⟩ (fun r122 I122 J122 h122 => ?_)
                    obtain ⟨h122, e1_, e2_⟩ := h122
                    have e1_ := e1_.symm
                    have e2_ := e2_.symm
                    subst e1_
                    subst e2_
                    subst h122
                    refine r_iload C 6 (dk oX10_soBy 64 rfl) rfl ?_
                    refine r_ishl C (dk oX10_soBy 65 rfl) ?_
                    refine r_ior C (dk oX10_soBy 66 rfl) ?_
                    rw [or_b32 (by omega)]
                    refine r_istore_n (lo' := [(3, _), (6, _), (5, _), (0, _), (1, _), (2, _), (4, _)]) C (dk oX10_soBy 67 rfl) rfl (by decide) rfl ?_
                    refine r_iinc (lo' := [(4, _), (3, _), (6, _), (5, _), (0, _), (1, _), (2, _)]) C 6 (dk oX10_soBy 68 rfl) rfl (by first | exact nI_inc _ | rfl) (by decide) rfl ?_
                    refine r_goto (tgt := 5) C (dk oX10_soBy 69 rfl) (by decide) ?_
                    refine V.sub [4, 5, 6, 1, 0] rfl ?_
                    exact ih (f_ + 1) (by omega) (by omega)
                  · rw [b32_0] at hb89
                    refine r_aload_n C 2 (dk oX10_soBy 48 rfl) rfl ?_
                    refine r_getR C (dk oX10_soBy 49 rfl) fl_X10_62 rfl (km hn rfl) ?_
                    refine r_iload C 6 (dk oX10_soBy 50 rfl) rfl ?_
                    refine r_iald C _ (dk oX10_soBy 51 rfl) rfl (km hn rfl) rfl (by omega) (by decide) ?_
                    rw [show I 135 f_ = Φ f_ 0 from hM f_ (by omega) 0 (by decide)]
                    refine r_if_eq (tgt := 116) C (dk oX10_soBy 52 rfl) (by decide) (fun hb99 => ?_) (fun hb99 => ?_)
                    · refine r_iconst C (dk oX10_soBy 60 rfl) (v := nI 0) (by decide) ?_
                      refine r_topI (show nI 0 = b32 (sdB (Φ f_) (sh.testBit f_) (dn.testBit f_)) from by
                        unfold sdB
                        rw [if_pos ⟨hb80, hb89⟩]
                        first
                          | exact b32_df (fun q => q.1 hb99)
                          | exact b32_df (fun q => hb109 q.2)) ?_
                      refine r_goto (tgt := 122) C (dk oX10_soBy 61 rfl) (by decide) ?_
                      refine r_isi C Z (dk oX10_soBy 63 rfl) cl_X10_109 st_X10_one (c_X10_one _ J _) rfl rfl (Nat.le_of_ble_eq_true rfl) ⟨Nat.le_of_ble_eq_true rfl, Nat.le_of_ble_eq_true rfl⟩ ⟨Nat.zero_le _, Nat.zero_le _⟩ (fun r122 I122 J122 h122 => ?_)
                      obtain ⟨h122, e1_, e2_⟩ := h122
                      have e1_ := e1_.symm
                      have e2_ := e2_.symm
                      subst e1_
                      subst e2_
                      subst h122
                      refine r_iload C 6 (dk oX10_soBy 64 rfl) rfl ?_
                      refine r_ishl C (dk oX10_soBy 65 rfl) ?_
                      refine r_ior C (dk oX10_soBy 66 rfl) ?_
                      rw [or_b32 (by omega)]
                      refine r_istore_n (lo' := [(3, _), (6, _), (5, _), (0, _), (1, _), (2, _), (4, _)]) C (dk oX10_soBy 67 rfl) rfl (by decide) rfl ?_
                      refine r_iinc (lo' := [(4, _), (3, _), (6, _), (5, _), (0, _), (1, _), (2, _)]) C 6 (dk oX10_soBy 68 rfl) rfl (by first | exact nI_inc _ | rfl) (by decide) rfl ?_
                      refine r_goto (tgt := 5) C (dk oX10_soBy 69 rfl) (by decide) ?_
                      refine V.sub [4, 5, 6, 1, 0] rfl ?_
                      exact ih (f_ + 1) (by omega) (by omega)
                    · refine r_aload_n C 2 (dk oX10_soBy 53 rfl) rfl ?_
                      refine r_getR C (dk oX10_soBy 54 rfl) fl_X10_65 rfl (km hn rfl) ?_
                      refine r_iload C 6 (dk oX10_soBy 55 rfl) rfl ?_
                      refine r_iald C _ (dk oX10_soBy 56 rfl) rfl (km hn rfl) rfl (by omega) (by decide) ?_
                      rw [show I 136 f_ = Φ f_ 1 from hM f_ (by omega) 1 (by decide)]
                      refine r_if_ne (tgt := 116) C (dk oX10_soBy 57 rfl) (by decide) (fun hb109 => ?_) (fun hb109 => ?_)
                      · refine r_iconst C (dk oX10_soBy 60 rfl) (v := nI 0) (by decide) ?_
                        refine r_topI (show nI 0 = b32 (sdB (Φ f_) (sh.testBit f_) (dn.testBit f_)) from by
                          unfold sdB
                          rw [if_pos ⟨hb80, hb89⟩]
                          first
                            | exact b32_df (fun q => q.1 hb99)
                            | exact b32_df (fun q => hb109 q.2)) ?_
                        refine r_goto (tgt := 122) C (dk oX10_soBy 61 rfl) (by decide) ?_
                        refine r_isi C Z (dk oX10_soBy 63 rfl) cl_X10_109 st_X10_one (c_X10_one _ J _) rfl rfl (Nat.le_of_ble_eq_true rfl) ⟨Nat.le_of_ble_eq_true rfl, Nat.le_of_ble_eq_true rfl⟩ ⟨Nat.zero_le _, Nat.zero_le _⟩ (fun r122 I122 J122 h122 => ?_)
                        obtain ⟨h122, e1_, e2_⟩ := h122
                        have e1_ := e1_.symm
                        have e2_ := e2_.symm
                        subst e1_
                        subst e2_
                        subst h122
                        refine r_iload C 6 (dk oX10_soBy 64 rfl) rfl ?_
                        refine r_ishl C (dk oX10_soBy 65 rfl) ?_
                        refine r_ior C (dk oX10_soBy 66 rfl) ?_
                        rw [or_b32 (by omega)]
                        refine r_istore_n (lo' := [(3, _), (6, _), (5, _), (0, _), (1, _), (2, _), (4, _)]) C (dk oX10_soBy 67 rfl) rfl (by decide) rfl ?_
                        refine r_iinc (lo' := [(4, _), (3, _), (6, _), (5, _), (0, _), (1, _), (2, _)]) C 6 (dk oX10_soBy 68 rfl) rfl (by first | exact nI_inc _ | rfl) (by decide) rfl ?_
                        refine r_goto (tgt := 5) C (dk oX10_soBy 69 rfl) (by decide) ?_
                        refine V.sub [4, 5, 6, 1, 0] rfl ?_
                        exact ih (f_ + 1) (by omega) (by omega)
                      · refine r_iconst C (dk oX10_soBy 58 rfl) (v := nI 1) (by decide) ?_
                        refine r_topI (show nI 1 = b32 (sdB (Φ f_) (sh.testBit f_) (dn.testBit f_)) from by
                          unfold sdB
                          rw [if_pos ⟨hb80, hb89⟩]
                          exact b32_dt ⟨hb99, hb109⟩) ?_
                        refine r_goto (tgt := 122) C (dk oX10_soBy 59 rfl) (by decide) ?_
                        refine r_isi C Z (dk oX10_soBy 63 rfl) cl_X10_109 st_X10_one (c_X10_one _ J _) rfl rfl (Nat.le_of_ble_eq_true rfl) ⟨Nat.le_of_ble_eq_true rfl, Nat.le_of_ble_eq_true rfl⟩ ⟨Nat.zero_le _, Nat.zero_le _⟩ (fun r122 I122 J122 h122 => ?_)
                        obtain ⟨h122, e1_, e2_⟩ := h122
                        have e1_ := e1_.symm
                        have e2_ := e2_.symm
                        subst e1_
                        subst e2_
                        subst h122
                        refine r_iload C 6 (dk oX10_soBy 64 rfl) rfl ?_
                        refine r_ishl C (dk oX10_soBy 65 rfl) ?_
                        refine r_ior C (dk oX10_soBy 66 rfl) ?_
                        rw [or_b32 (by omega)]
                        refine r_istore_n (lo' := [(3, _), (6, _), (5, _), (0, _), (1, _), (2, _), (4, _)]) C (dk oX10_soBy 67 rfl) rfl (by decide) rfl ?_
                        refine r_iinc (lo' := [(4, _), (3, _), (6, _), (5, _), (0, _), (1, _), (2, _)]) C 6 (dk oX10_soBy 68 rfl) rfl (by first | exact nI_inc _ | rfl) (by decide) rfl ?_
                        refine r_goto (tgt := 5) C (dk oX10_soBy 69 rfl) (by decide) ?_
                        refine V.sub [4, 5, 6, 1, 0] rfl ?_
                        exact ih (f_ + 1) (by omega) (by omega)
              · refine r_iload_n C 3 (dk oX10_soBy 33 rfl) rfl ?_
                refine r_iload C 5 (dk oX10_soBy 34 rfl) rfl ?_
                refine r_isi C Z (dk oX10_soBy 35 rfl) cl_X10_231 st_X10_has (c_X10_has I J (dn) (f_) (by omega) (by omega)) rfl rfl (Nat.le_of_ble_eq_true rfl) ⟨Nat.le_of_ble_eq_true rfl, Nat.le_of_ble_eq_true rfl⟩ ⟨Nat.zero_le _, Nat.zero_le _⟩ (fun r64 I64 J64 h64 => ?_)
                obtain ⟨h64, e1_, e2_⟩ := h64
                have e1_ := e1_.symm
                have e2_ := e2_.symm
                subst e1_
                subst e2_
                subst h64
                refine r_if_eq (tgt := 74) C (dk oX10_soBy 36 rfl) (by decide) (fun hb67 => ?_) (fun hb67 => ?_)
                · rw [b32_0] at hb67
                  refine r_iconst C (dk oX10_soBy 39 rfl) (v := nI 0) (by decide) ?_
                  refine r_topI (show nI 0 = b32 (decide (Φ f_ 0 ≠ nI 0 ∧ (Φ f_ 0 ≠ nI 2 ∨ dn.testBit f_ = true))) from by
                    first
                      | exact b32_df (fun q => q.1 hb47)
                      | exact b32_df (fun q => q.2.elim (fun z => z hb58) (fun z => by rw [hb67] at z; cases z))) ?_
                  refine r_istore (lo' := [(6, _), (5, _), (0, _), (1, _), (2, _), (3, _), (4, _)]) C (dk oX10_soBy 40 rfl) (by decide) rfl ?_
                  refine r_iload_n C 5 (dk oX10_soBy 41 rfl) rfl ?_
                  refine r_iload C 0 (dk oX10_soBy 42 rfl) rfl ?_
                  refine r_if_eq (tgt := 120) C (dk oX10_soBy 43 rfl) (by decide) (fun hb80 => ?_) (fun hb80 => ?_)
                  · rw [b32_0] at hb80
                    refine r_iload C 1 (dk oX10_soBy 62 rfl) rfl ?_
                    refine r_topI (show b32 (decide (Φ f_ 0 ≠ nI 0 ∧ Φ f_ 1 = nI 1)) = b32 (sdB (Φ f_) (sh.testBit f_) (dn.testBit f_)) from by
                      unfold sdB
                      rw [if_neg]
                      first
                        | exact fun q => by rw [hb80] at q; exact absurd q.1 (by decide)
                        | exact fun q => by rw [hb89] at q; exact absurd q.2 (by decide)) ?_
                    refine r_isi C Z (dk oX10_soBy 63 rfl) cl_X10_109 st_X10_one (c_X10_one _ J _) rfl rfl (Nat.le_of_ble_eq_true rfl) ⟨Nat.le_of_ble_eq_true rfl, Nat.le_of_ble_eq_true rfl⟩ ⟨Nat.zero_le _, Nat.zero_le _⟩ (fun r122 I122 J122 h122 => ?_)
                    obtain ⟨h122, e1_, e2_⟩ := h122
                    have e1_ := e1_.symm
                    have e2_ := e2_.symm
                    subst e1_
                    subst e2_
                    subst h122
                    refine r_iload C 6 (dk oX10_soBy 64 rfl) rfl ?_
                    refine r_ishl C (dk oX10_soBy 65 rfl) ?_
                    refine r_ior C (dk oX10_soBy 66 rfl) ?_
                    rw [or_b32 (by omega)]
                    refine r_istore_n (lo' := [(3, _), (6, _), (5, _), (0, _), (1, _), (2, _), (4, _)]) C (dk oX10_soBy 67 rfl) rfl (by decide) rfl ?_
                    refine r_iinc (lo' := [(4, _), (3, _), (6, _), (5, _), (0, _), (1, _), (2, _)]) C 6 (dk oX10_soBy 68 rfl) rfl (by first | exact nI_inc _ | rfl) (by decide) rfl ?_
                    refine r_goto (tgt := 5) C (dk oX10_soBy 69 rfl) (by decide) ?_
                    refine V.sub [4, 5, 6, 1, 0] rfl ?_
                    exact ih (f_ + 1) (by omega) (by omega)
                  · rw [b32_n] at hb80
                    refine r_iload_n C 3 (dk oX10_soBy 44 rfl) rfl ?_
                    refine r_iload C 6 (dk oX10_soBy 45 rfl) rfl ?_
                    refine r_isi C Z (dk oX10_soBy 46 rfl) cl_X10_231 st_X10_has (c_X10_has I J (sh) (f_) (by omega) (by omega)) rfl rfl (Nat.le_of_ble_eq_true rfl) ⟨Nat.le_of_ble_eq_true rfl, Nat.le_of_ble_eq_true rfl⟩ ⟨Nat.zero_le _, Nat.zero_le _⟩ (fun r86 I86 J86 h86 => ?_)
                    obtain ⟨h86, e1_, e2_⟩ := h86
                    have e1_ := e1_.symm
                    have e2_ := e2_.symm
                    subst e1_
                    subst e2_
                    subst h86
                    refine r_if_ne (tgt := 120) C (dk oX10_soBy 47 rfl) (by decide) (fun hb89 => ?_) (fun hb89 => ?_)
                    · rw [b32_n] at hb89
                      refine r_iload C 1 (dk oX10_soBy 62 rfl) rfl ?_
                      refine r_topI (show b32 (decide (Φ f_ 0 ≠ nI 0 ∧ Φ f_ 1 = nI 1)) = b32 (sdB (Φ f_) (sh.testBit f_) (dn.testBit f_)) from by
                        unfold sdB
                        rw [if_neg]
                        first
                          | exact fun q => by rw [hb80] at q; exact absurd q.1 (by decide)
                          | exact fun q => by rw [hb89] at q; exact absurd q.2 (by decide)) ?_
                      refine r_isi C Z (dk oX10_soBy 63 rfl) cl_X10_109 st_X10_one (c_X10_one _ J _) rfl rfl (Nat.le_of_ble_eq_true rfl) ⟨Nat.le_of_ble_eq_true rfl, Nat.le_of_ble_eq_true rfl⟩ ⟨Nat.zero_le _, Nat.zero_le _⟩ (fun r122 I122 J122 h122 => ?_)
                      obtain ⟨h122, e1_, e2_⟩ := h122
                      have e1_ := e1_.symm
                      have e2_ := e2_.symm
                      subst e1_
                      subst e2_
                      subst h122
                      refine r_iload C 6 (dk oX10_soBy 64 rfl) rfl ?_
                      refine r_ishl C (dk oX10_soBy 65 rfl) ?_
                      refine r_ior C (dk oX10_soBy 66 rfl) ?_
                      rw [or_b32 (by omega)]
                      refine r_istore_n (lo' := [(3, _), (6, _), (5, _), (0, _), (1, _), (2, _), (4, _)]) C (dk oX10_soBy 67 rfl) rfl (by decide) rfl ?_
                      refine r_iinc (lo' := [(4, _), (3, _), (6, _), (5, _), (0, _), (1, _), (2, _)]) C 6 (dk oX10_soBy 68 rfl) rfl (by first | exact nI_inc _ | rfl) (by decide) rfl ?_
                      refine r_goto (tgt := 5) C (dk oX10_soBy 69 rfl) (by decide) ?_
                      refine V.sub [4, 5, 6, 1, 0] rfl ?_
                      exact ih (f_ + 1) (by omega) (by omega)
                    · rw [b32_0] at hb89
                      refine r_aload_n C 2 (dk oX10_soBy 48 rfl) rfl ?_
                      refine r_getR C (dk oX10_soBy 49 rfl) fl_X10_62 rfl (km hn rfl) ?_
                      refine r_iload C 6 (dk oX10_soBy 50 rfl) rfl ?_
                      refine r_iald C _ (dk oX10_soBy 51 rfl) rfl (km hn rfl) rfl (by omega) (by decide) ?_
                      rw [show I 135 f_ = Φ f_ 0 from hM f_ (by omega) 0 (by decide)]
                      refine r_if_eq (tgt := 116) C (dk oX10_soBy 52 rfl) (by decide) (fun hb99 => ?_) (fun hb99 => ?_)
                      · refine r_iconst C (dk oX10_soBy 60 rfl) (v := nI 0) (by decide) ?_
                        refine r_topI (show nI 0 = b32 (sdB (Φ f_) (sh.testBit f_) (dn.testBit f_)) from by
                          unfold sdB
                          rw [if_pos ⟨hb80, hb89⟩]
                          first
                            | exact b32_df (fun q => q.1 hb99)
                            | exact b32_df (fun q => hb109 q.2)) ?_
                        refine r_goto (tgt := 122) C (dk oX10_soBy 61 rfl) (by decide) ?_
                        refine r_isi C Z (dk oX10_soBy 63 rfl) cl_X10_109 st_X10_one (c_X10_one _ J _) rfl rfl (Nat.le_of_ble_eq_true rfl) ⟨Nat.le_of_ble_eq_true rfl, Nat.le_of_ble_eq_true rfl⟩ ⟨Nat.zero_le _, Nat.zero_le _⟩ (fun r122 I122 J122 h122 => ?_)
                        obtain ⟨h122, e1_, e2_⟩ := h122
                        have e1_ := e1_.symm
                        have e2_ := e2_.symm
                        subst e1_
                        subst e2_
                        subst h122
                        refine r_iload C 6 (dk oX10_soBy 64 rfl) rfl ?_
                        refine r_ishl C (dk oX10_soBy 65 rfl) ?_
                        refine r_ior C (dk oX10_soBy 66 rfl) ?_
                        rw [or_b32 (by omega)]
                        refine r_istore_n (lo' := [(3, _), (6, _), (5, _), (0, _), (1, _), (2, _), (4, _)]) C (dk oX10_soBy 67 rfl) rfl (by decide) rfl ?_
                        refine r_iinc (lo' := [(4, _), (3, _), (6, _), (5, _), (0, _), (1, _), (2, _)]) C 6 (dk oX10_soBy 68 rfl) rfl (by first | exact nI_inc _ | rfl) (by decide) rfl ?_
                        refine r_goto (tgt := 5) C (dk oX10_soBy 69 rfl) (by decide) ?_
                        refine V.sub [4, 5, 6, 1, 0] rfl ?_
                        exact ih (f_ + 1) (by omega) (by omega)
                      · refine r_aload_n C 2 (dk oX10_soBy 53 rfl) rfl ?_
                        refine r_getR C (dk oX10_soBy 54 rfl) fl_X10_65 rfl (km hn rfl) ?_
                        refine r_iload C 6 (dk oX10_soBy 55 rfl) rfl ?_
                        refine r_iald C _ (dk oX10_soBy 56 rfl) rfl (km hn rfl) rfl (by omega) (by decide) ?_
                        rw [show I 136 f_ = Φ f_ 1 from hM f_ (by omega) 1 (by decide)]
                        refine r_if_ne (tgt := 116) C (dk oX10_soBy 57 rfl) (by decide) (fun hb109 => ?_) (fun hb109 => ?_)
                        · refine r_iconst C (dk oX10_soBy 60 rfl) (v := nI 0) (by decide) ?_
                          refine r_topI (show nI 0 = b32 (sdB (Φ f_) (sh.testBit f_) (dn.testBit f_)) from by
                            unfold sdB
                            rw [if_pos ⟨hb80, hb89⟩]
                            first
                              | exact b32_df (fun q => q.1 hb99)
                              | exact b32_df (fun q => hb109 q.2)) ?_
                          refine r_goto (tgt := 122) C (dk oX10_soBy 61 rfl) (by decide) ?_
                          refine r_isi C Z (dk oX10_soBy 63 rfl) cl_X10_109 st_X10_one (c_X10_one _ J _) rfl rfl (Nat.le_of_ble_eq_true rfl) ⟨Nat.le_of_ble_eq_true rfl, Nat.le_of_ble_eq_true rfl⟩ ⟨Nat.zero_le _, Nat.zero_le _⟩ (fun r122 I122 J122 h122 => ?_)
                          obtain ⟨h122, e1_, e2_⟩ := h122
                          have e1_ := e1_.symm
                          have e2_ := e2_.symm
                          subst e1_
                          subst e2_
                          subst h122
                          refine r_iload C 6 (dk oX10_soBy 64 rfl) rfl ?_
                          refine r_ishl C (dk oX10_soBy 65 rfl) ?_
                          refine r_ior C (dk oX10_soBy 66 rfl) ?_
                          rw [or_b32 (by omega)]
                          refine r_istore_n (lo' := [(3, _), (6, _), (5, _), (0, _), (1, _), (2, _), (4, _)]) C (dk oX10_soBy 67 rfl) rfl (by decide) rfl ?_
                          refine r_iinc (lo' := [(4, _), (3, _), (6, _), (5, _), (0, _), (1, _), (2, _)]) C 6 (dk oX10_soBy 68 rfl) rfl (by first | exact nI_inc _ | rfl) (by decide) rfl ?_
                          refine r_goto (tgt := 5) C (dk oX10_soBy 69 rfl) (by decide) ?_
                          refine V.sub [4, 5, 6, 1, 0] rfl ?_
                          exact ih (f_ + 1) (by omega) (by omega)
                        · refine r_iconst C (dk oX10_soBy 58 rfl) (v := nI 1) (by decide) ?_
                          refine r_topI (show nI 1 = b32 (sdB (Φ f_) (sh.testBit f_) (dn.testBit f_)) from by
                            unfold sdB
                            rw [if_pos ⟨hb80, hb89⟩]
                            exact b32_dt ⟨hb99, hb109⟩) ?_
                          refine r_goto (tgt := 122) C (dk oX10_soBy 59 rfl) (by decide) ?_
                          refine r_isi C Z (dk oX10_soBy 63 rfl) cl_X10_109 st_X10_one (c_X10_one _ J _) rfl rfl (Nat.le_of_ble_eq_true rfl) ⟨Nat.le_of_ble_eq_true rfl, Nat.le_of_ble_eq_true rfl⟩ ⟨Nat.zero_le _, Nat.zero_le _⟩ (fun r122 I122 J122 h122 => ?_)
                          obtain ⟨h122, e1_, e2_⟩ := h122
                          have e1_ := e1_.symm
                          have e2_ := e2_.symm
                          subst e1_
                          subst e2_
                          subst h122
                          refine r_iload C 6 (dk oX10_soBy 64 rfl) rfl ?_
                          refine r_ishl C (dk oX10_soBy 65 rfl) ?_
                          refine r_ior C (dk oX10_soBy 66 rfl) ?_
                          rw [or_b32 (by omega)]
                          refine r_istore_n (lo' := [(3, _), (6, _), (5, _), (0, _), (1, _), (2, _), (4, _)]) C (dk oX10_soBy 67 rfl) rfl (by decide) rfl ?_
                          refine r_iinc (lo' := [(4, _), (3, _), (6, _), (5, _), (0, _), (1, _), (2, _)]) C 6 (dk oX10_soBy 68 rfl) rfl (by first | exact nI_inc _ | rfl) (by decide) rfl ?_
                          refine r_goto (tgt := 5) C (dk oX10_soBy 69 rfl) (by decide) ?_
                          refine V.sub [4, 5, 6, 1, 0] rfl ?_
                          exact ih (f_ + 1) (by omega) (by omega)
                · rw [b32_n] at hb67
                  refine r_iconst C (dk oX10_soBy 37 rfl) (v := nI 1) (by decide) ?_
                  refine r_topI (show nI 1 = b32 (decide (Φ f_ 0 ≠ nI 0 ∧ (Φ f_ 0 ≠ nI 2 ∨ dn.testBit f_ = true))) from by
                    first
                      | exact b32_dt ⟨hb47, Or.inl hb58⟩
                      | exact b32_dt ⟨hb47, Or.inr hb67⟩) ?_
                  refine r_goto (tgt := 75) C (dk oX10_soBy 38 rfl) (by decide) ?_
                  refine r_istore (lo' := [(6, _), (5, _), (0, _), (1, _), (2, _), (3, _), (4, _)]) C (dk oX10_soBy 40 rfl) (by decide) rfl ?_
                  refine r_iload_n C 5 (dk oX10_soBy 41 rfl) rfl ?_
                  refine r_iload C 0 (dk oX10_soBy 42 rfl) rfl ?_
                  refine r_if_eq (tgt := 120) C (dk oX10_soBy 43 rfl) (by decide) (fun hb80 => ?_) (fun hb80 => ?_)
                  · rw [b32_0] at hb80
                    refine r_iload C 1 (dk oX10_soBy 62 rfl) rfl ?_
                    refine r_topI (show b32 (decide (Φ f_ 0 ≠ nI 0 ∧ Φ f_ 1 = nI 1)) = b32 (sdB (Φ f_) (sh.testBit f_) (dn.testBit f_)) from by
                      unfold sdB
                      rw [if_neg]
                      first
                        | exact fun q => by rw [hb80] at q; exact absurd q.1 (by decide)
                        | exact fun q => by rw [hb89] at q; exact absurd q.2 (by decide)) ?_
                    refine r_isi C Z (dk oX10_soBy 63 rfl) cl_X10_109 st_X10_one (c_X10_one _ J _) rfl rfl (Nat.le_of_ble_eq_true rfl) ⟨Nat.le_of_ble_eq_true rfl, Nat.le_of_ble_eq_true rfl⟩ ⟨Nat.zero_le _, Nat.zero_le _⟩ (fun r122 I122 J122 h122 => ?_)
                    obtain ⟨h122, e1_, e2_⟩ := h122
                    have e1_ := e1_.symm
                    have e2_ := e2_.symm
                    subst e1_
                    subst e2_
                    subst h122
                    refine r_iload C 6 (dk oX10_soBy 64 rfl) rfl ?_
                    refine r_ishl C (dk oX10_soBy 65 rfl) ?_
                    refine r_ior C (dk oX10_soBy 66 rfl) ?_
                    rw [or_b32 (by omega)]
                    refine r_istore_n (lo' := [(3, _), (6, _), (5, _), (0, _), (1, _), (2, _), (4, _)]) C (dk oX10_soBy 67 rfl) rfl (by decide) rfl ?_
                    refine r_iinc (lo' := [(4, _), (3, _), (6, _), (5, _), (0, _), (1, _), (2, _)]) C 6 (dk oX10_soBy 68 rfl) rfl (by first | exact nI_inc _ | rfl) (by decide) rfl ?_
                    refine r_goto (tgt := 5) C (dk oX10_soBy 69 rfl) (by decide) ?_
                    refine V.sub [4, 5, 6, 1, 0] rfl ?_
                    exact ih (f_ + 1) (by omega) (by omega)
                  · rw [b32_n] at hb80
                    refine r_iload_n C 3 (dk oX10_soBy 44 rfl) rfl ?_
                    refine r_iload C 6 (dk oX10_soBy 45 rfl) rfl ?_
                    refine r_isi C Z (dk oX10_soBy 46 rfl) cl_X10_231 st_X10_has (c_X10_has I J (sh) (f_) (by omega) (by omega)) rfl rfl (Nat.le_of_ble_eq_true rfl) ⟨Nat.le_of_ble_eq_true rfl, Nat.le_of_ble_eq_true rfl⟩ ⟨Nat.zero_le _, Nat.zero_le _⟩ (fun r86 I86 J86 h86 => ?_)
                    obtain ⟨h86, e1_, e2_⟩ := h86
                    have e1_ := e1_.symm
                    have e2_ := e2_.symm
                    subst e1_
                    subst e2_
                    subst h86
                    refine r_if_ne (tgt := 120) C (dk oX10_soBy 47 rfl) (by decide) (fun hb89 => ?_) (fun hb89 => ?_)
                    · rw [b32_n] at hb89
                      refine r_iload C 1 (dk oX10_soBy 62 rfl) rfl ?_
                      refine r_topI (show b32 (decide (Φ f_ 0 ≠ nI 0 ∧ Φ f_ 1 = nI 1)) = b32 (sdB (Φ f_) (sh.testBit f_) (dn.testBit f_)) from by
                        unfold sdB
                        rw [if_neg]
                        first
                          | exact fun q => by rw [hb80] at q; exact absurd q.1 (by decide)
                          | exact fun q => by rw [hb89] at q; exact absurd q.2 (by decide)) ?_
                      refine r_isi C Z (dk oX10_soBy 63 rfl) cl_X10_109 st_X10_one (c_X10_one _ J _) rfl rfl (Nat.le_of_ble_eq_true rfl) ⟨Nat.le_of_ble_eq_true rfl, Nat.le_of_ble_eq_true rfl⟩ ⟨Nat.zero_le _, Nat.zero_le _⟩ (fun r122 I122 J122 h122 => ?_)
                      obtain ⟨h122, e1_, e2_⟩ := h122
                      have e1_ := e1_.symm
                      have e2_ := e2_.symm
                      subst e1_
                      subst e2_
                      subst h122
                      refine r_iload C 6 (dk oX10_soBy 64 rfl) rfl ?_
                      refine r_ishl C (dk oX10_soBy 65 rfl) ?_
                      refine r_ior C (dk oX10_soBy 66 rfl) ?_
                      rw [or_b32 (by omega)]
                      refine r_istore_n (lo' := [(3, _), (6, _), (5, _), (0, _), (1, _), (2, _), (4, _)]) C (dk oX10_soBy 67 rfl) rfl (by decide) rfl ?_
                      refine r_iinc (lo' := [(4, _), (3, _), (6, _), (5, _), (0, _), (1, _), (2, _)]) C 6 (dk oX10_soBy 68 rfl) rfl (by first | exact nI_inc _ | rfl) (by decide) rfl ?_
                      refine r_goto (tgt := 5) C (dk oX10_soBy 69 rfl) (by decide) ?_
                      refine V.sub [4, 5, 6, 1, 0] rfl ?_
                      exact ih (f_ + 1) (by omega) (by omega)
                    · rw [b32_0] at hb89
                      refine r_aload_n C 2 (dk oX10_soBy 48 rfl) rfl ?_
                      refine r_getR C (dk oX10_soBy 49 rfl) fl_X10_62 rfl (km hn rfl) ?_
                      refine r_iload C 6 (dk oX10_soBy 50 rfl) rfl ?_
                      refine r_iald C _ (dk oX10_soBy 51 rfl) rfl (km hn rfl) rfl (by omega) (by decide) ?_
                      rw [show I 135 f_ = Φ f_ 0 from hM f_ (by omega) 0 (by decide)]
                      refine r_if_eq (tgt := 116) C (dk oX10_soBy 52 rfl) (by decide) (fun hb99 => ?_) (fun hb99 => ?_)
                      · refine r_iconst C (dk oX10_soBy 60 rfl) (v := nI 0) (by decide) ?_
                        refine r_topI (show nI 0 = b32 (sdB (Φ f_) (sh.testBit f_) (dn.testBit f_)) from by
                          unfold sdB
                          rw [if_pos ⟨hb80, hb89⟩]
                          first
                            | exact b32_df (fun q => q.1 hb99)
                            | exact b32_df (fun q => hb109 q.2)) ?_
                        refine r_goto (tgt := 122) C (dk oX10_soBy 61 rfl) (by decide) ?_
                        refine r_isi C Z (dk oX10_soBy 63 rfl) cl_X10_109 st_X10_one (c_X10_one _ J _) rfl rfl (Nat.le_of_ble_eq_true rfl) ⟨Nat.le_of_ble_eq_true rfl, Nat.le_of_ble_eq_true rfl⟩ ⟨Nat.zero_le _, Nat.zero_le _⟩ (fun r122 I122 J122 h122 => ?_)
                        obtain ⟨h122, e1_, e2_⟩ := h122
                        have e1_ := e1_.symm
                        have e2_ := e2_.symm
                        subst e1_
                        subst e2_
                        subst h122
                        refine r_iload C 6 (dk oX10_soBy 64 rfl) rfl ?_
                        refine r_ishl C (dk oX10_soBy 65 rfl) ?_
                        refine r_ior C (dk oX10_soBy 66 rfl) ?_
                        rw [or_b32 (by omega)]
                        refine r_istore_n (lo' := [(3, _), (6, _), (5, _), (0, _), (1, _), (2, _), (4, _)]) C (dk oX10_soBy 67 rfl) rfl (by decide) rfl ?_
                        refine r_iinc (lo' := [(4, _), (3, _), (6, _), (5, _), (0, _), (1, _), (2, _)]) C 6 (dk oX10_soBy 68 rfl) rfl (by first | exact nI_inc _ | rfl) (by decide) rfl ?_
                        refine r_goto (tgt := 5) C (dk oX10_soBy 69 rfl) (by decide) ?_
                        refine V.sub [4, 5, 6, 1, 0] rfl ?_
                        exact ih (f_ + 1) (by omega) (by omega)
                      · refine r_aload_n C 2 (dk oX10_soBy 53 rfl) rfl ?_
                        refine r_getR C (dk oX10_soBy 54 rfl) fl_X10_65 rfl (km hn rfl) ?_
                        refine r_iload C 6 (dk oX10_soBy 55 rfl) rfl ?_
                        refine r_iald C _ (dk oX10_soBy 56 rfl) rfl (km hn rfl) rfl (by omega) (by decide) ?_
                        rw [show I 136 f_ = Φ f_ 1 from hM f_ (by omega) 1 (by decide)]
                        refine r_if_ne (tgt := 116) C (dk oX10_soBy 57 rfl) (by decide) (fun hb109 => ?_) (fun hb109 => ?_)
                        · refine r_iconst C (dk oX10_soBy 60 rfl) (v := nI 0) (by decide) ?_
                          refine r_topI (show nI 0 = b32 (sdB (Φ f_) (sh.testBit f_) (dn.testBit f_)) from by
                            unfold sdB
                            rw [if_pos ⟨hb80, hb89⟩]
                            first
                              | exact b32_df (fun q => q.1 hb99)
                              | exact b32_df (fun q => hb109 q.2)) ?_
                          refine r_goto (tgt := 122) C (dk oX10_soBy 61 rfl) (by decide) ?_
                          refine r_isi C Z (dk oX10_soBy 63 rfl) cl_X10_109 st_X10_one (c_X10_one _ J _) rfl rfl (Nat.le_of_ble_eq_true rfl) ⟨Nat.le_of_ble_eq_true rfl, Nat.le_of_ble_eq_true rfl⟩ ⟨Nat.zero_le _, Nat.zero_le _⟩ (fun r122 I122 J122 h122 => ?_)
                          obtain ⟨h122, e1_, e2_⟩ := h122
                          have e1_ := e1_.symm
                          have e2_ := e2_.symm
                          subst e1_
                          subst e2_
                          subst h122
                          refine r_iload C 6 (dk oX10_soBy 64 rfl) rfl ?_
                          refine r_ishl C (dk oX10_soBy 65 rfl) ?_
                          refine r_ior C (dk oX10_soBy 66 rfl) ?_
                          rw [or_b32 (by omega)]
                          refine r_istore_n (lo' := [(3, _), (6, _), (5, _), (0, _), (1, _), (2, _), (4, _)]) C (dk oX10_soBy 67 rfl) rfl (by decide) rfl ?_
                          refine r_iinc (lo' := [(4, _), (3, _), (6, _), (5, _), (0, _), (1, _), (2, _)]) C 6 (dk oX10_soBy 68 rfl) rfl (by first | exact nI_inc _ | rfl) (by decide) rfl ?_
                          refine r_goto (tgt := 5) C (dk oX10_soBy 69 rfl) (by decide) ?_
                          refine V.sub [4, 5, 6, 1, 0] rfl ?_
                          exact ih (f_ + 1) (by omega) (by omega)
                        · refine r_iconst C (dk oX10_soBy 58 rfl) (v := nI 1) (by decide) ?_
                          refine r_topI (show nI 1 = b32 (sdB (Φ f_) (sh.testBit f_) (dn.testBit f_)) from by
                            unfold sdB
                            rw [if_pos ⟨hb80, hb89⟩]
                            exact b32_dt ⟨hb99, hb109⟩) ?_
                          refine r_goto (tgt := 122) C (dk oX10_soBy 59 rfl) (by decide) ?_
                          refine r_isi C Z (dk oX10_soBy 63 rfl) cl_X10_109 st_X10_one (c_X10_one _ J _) rfl rfl (Nat.le_of_ble_eq_true rfl) ⟨Nat.le_of_ble_eq_true rfl, Nat.le_of_ble_eq_true rfl⟩ ⟨Nat.zero_le _, Nat.zero_le _⟩ (fun r122 I122 J122 h122 => ?_)
                          obtain ⟨h122, e1_, e2_⟩ := h122
                          have e1_ := e1_.symm
                          have e2_ := e2_.symm
                          subst e1_
                          subst e2_
                          subst h122
                          refine r_iload C 6 (dk oX10_soBy 64 rfl) rfl ?_
                          refine r_ishl C (dk oX10_soBy 65 rfl) ?_
                          refine r_ior C (dk oX10_soBy 66 rfl) ?_
                          rw [or_b32 (by omega)]
                          refine r_istore_n (lo' := [(3, _), (6, _), (5, _), (0, _), (1, _), (2, _), (4, _)]) C (dk oX10_soBy 67 rfl) rfl (by decide) rfl ?_
                          refine r_iinc (lo' := [(4, _), (3, _), (6, _), (5, _), (0, _), (1, _), (2, _)]) C 6 (dk oX10_soBy 68 rfl) rfl (by first | exact nI_inc _ | rfl) (by decide) rfl ?_
                          refine r_goto (tgt := 5) C (dk oX10_soBy 69 rfl) (by decide) ?_
                          refine V.sub [4, 5, 6, 1, 0] rfl ?_
                          exact ih (f_ + 1) (by omega) (by omega)
          · refine r_iconst C (dk oX10_soBy 18 rfl) (v := nI 1) (by decide) ?_
            refine r_topI (show nI 1 = b32 (decide (Φ f_ 0 ≠ nI 0 ∧ Φ f_ 1 = nI 1)) from b32_dt ⟨hb19, hb30⟩) ?_
            refine r_goto (tgt := 38) C (dk oX10_soBy 19 rfl) (by decide) ?_
            refine r_istore (lo' := [(5, _), (0, _), (1, _), (2, _), (3, _), (4, _)]) C (dk oX10_soBy 21 rfl) (by decide) rfl ?_
            refine r_aload_n C 1 (dk oX10_soBy 22 rfl) rfl ?_
            refine r_getR C (dk oX10_soBy 23 rfl) fl_X10_62 rfl (km hn rfl) ?_
            refine r_iload C 5 (dk oX10_soBy 24 rfl) rfl ?_
            refine r_iald C _ (dk oX10_soBy 25 rfl) rfl (km hn rfl) rfl (by omega) (by decide) ?_
            rw [show I 135 f_ = Φ f_ 0 from hM f_ (by omega) 0 (by decide)]
            refine r_if_eq (tgt := 74) C (dk oX10_soBy 26 rfl) (by decide) (fun hb47 => ?_) (fun hb47 => ?_)
            · refine r_iconst C (dk oX10_soBy 39 rfl) (v := nI 0) (by decide) ?_
              refine r_topI (show nI 0 = b32 (decide (Φ f_ 0 ≠ nI 0 ∧ (Φ f_ 0 ≠ nI 2 ∨ dn.testBit f_ = true))) from by
                first
                  | exact b32_df (fun q => q.1 hb47)
                  | exact b32_df (fun q => q.2.elim (fun z => z hb58) (fun z => by rw [hb67] at z; cases z))) ?_
              refine r_istore (lo' := [(6, _), (5, _), (0, _), (1, _), (2, _), (3, _), (4, _)]) C (dk oX10_soBy 40 rfl) (by decide) rfl ?_
              refine r_iload_n C 5 (dk oX10_soBy 41 rfl) rfl ?_
              refine r_iload C 0 (dk oX10_soBy 42 rfl) rfl ?_
              refine r_if_eq (tgt := 120) C (dk oX10_soBy 43 rfl) (by decide) (fun hb80 => ?_) (fun hb80 => ?_)
              · rw [b32_0] at hb80
                refine r_iload C 1 (dk oX10_soBy 62 rfl) rfl ?_
                refine r_topI (show b32 (decide (Φ f_ 0 ≠ nI 0 ∧ Φ f_ 1 = nI 1)) = b32 (sdB (Φ f_) (sh.testBit f_) (dn.testBit f_)) from by
                  unfold sdB
                  rw [if_neg]
                  first
                    | exact fun q => by rw [hb80] at q; exact absurd q.1 (by decide)
                    | exact fun q => by rw [hb89] at q; exact absurd q.2 (by decide)) ?_
                refine r_isi C Z (dk oX10_soBy 63 rfl) cl_X10_109 st_X10_one (c_X10_one _ J _) rfl rfl (Nat.le_of_ble_eq_true rfl) ⟨Nat.le_of_ble_eq_true rfl, Nat.le_of_ble_eq_true rfl⟩ ⟨Nat.zero_le _, Nat.zero_le _⟩ (fun r122 I122 J122 h122 => ?_)
                obtain ⟨h122, e1_, e2_⟩ := h122
                have e1_ := e1_.symm
                have e2_ := e2_.symm
                subst e1_
                subst e2_
                subst h122
                refine r_iload C 6 (dk oX10_soBy 64 rfl) rfl ?_
                refine r_ishl C (dk oX10_soBy 65 rfl) ?_
                refine r_ior C (dk oX10_soBy 66 rfl) ?_
                rw [or_b32 (by omega)]
                refine r_istore_n (lo' := [(3, _), (6, _), (5, _), (0, _), (1, _), (2, _), (4, _)]) C (dk oX10_soBy 67 rfl) rfl (by decide) rfl ?_
                refine r_iinc (lo' := [(4, _), (3, _), (6, _), (5, _), (0, _), (1, _), (2, _)]) C 6 (dk oX10_soBy 68 rfl) rfl (by first | exact nI_inc _ | rfl) (by decide) rfl ?_
                refine r_goto (tgt := 5) C (dk oX10_soBy 69 rfl) (by decide) ?_
                refine V.sub [4, 5, 6, 1, 0] rfl ?_
                exact ih (f_ + 1) (by omega) (by omega)
              · rw [b32_n] at hb80
                refine r_iload_n C 3 (dk oX10_soBy 44 rfl) rfl ?_
                refine r_iload C 6 (dk oX10_soBy 45 rfl) rfl ?_
                refine r_isi C Z (dk oX10_soBy 46 rfl) cl_X10_231 st_X10_has (c_X10_has I J (sh) (f_) (by omega) (by omega)) rfl rfl (Nat.le_of_ble_eq_true rfl) ⟨Nat.le_of_ble_eq_true rfl, Nat.le_of_ble_eq_true rfl⟩ ⟨Nat.zero_le _, Nat.zero_le _⟩ (fun r86 I86 J86 h86 => ?_)
                obtain ⟨h86, e1_, e2_⟩ := h86
                have e1_ := e1_.symm
                have e2_ := e2_.symm
                subst e1_
                subst e2_
                subst h86
                refine r_if_ne (tgt := 120) C (dk oX10_soBy 47 rfl) (by decide) (fun hb89 => ?_) (fun hb89 => ?_)
                · rw [b32_n] at hb89
                  refine r_iload C 1 (dk oX10_soBy 62 rfl) rfl ?_
                  refine r_topI (show b32 (decide (Φ f_ 0 ≠ nI 0 ∧ Φ f_ 1 = nI 1)) = b32 (sdB (Φ f_) (sh.testBit f_) (dn.testBit f_)) from by
                    unfold sdB
                    rw [if_neg]
                    first
                      | exact fun q => by rw [hb80] at q; exact absurd q.1 (by decide)
                      | exact fun q => by rw [hb89] at q; exact absurd q.2 (by decide)) ?_
                  refine r_isi C Z (dk oX10_soBy 63 rfl) cl_X10_109 st_X10_one (c_X10_one _ J _) rfl rfl (Nat.le_of_ble_eq_true rfl) ⟨Nat.le_of_ble_eq_true rfl, Nat.le_of_ble_eq_true rfl⟩ ⟨Nat.zero_le _, Nat.zero_le _⟩ (fun r122 I122 J122 h122 => ?_)
                  obtain ⟨h122, e1_, e2_⟩ := h122
                  have e1_ := e1_.symm
                  have e2_ := e2_.symm
                  subst e1_
                  subst e2_
                  subst h122
                  refine r_iload C 6 (dk oX10_soBy 64 rfl) rfl ?_
                  refine r_ishl C (dk oX10_soBy 65 rfl) ?_
                  refine r_ior C (dk oX10_soBy 66 rfl) ?_
                  rw [or_b32 (by omega)]
                  refine r_istore_n (lo' := [(3, _), (6, _), (5, _), (0, _), (1, _), (2, _), (4, _)]) C (dk oX10_soBy 67 rfl) rfl (by decide) rfl ?_
                  refine r_iinc (lo' := [(4, _), (3, _), (6, _), (5, _), (0, _), (1, _), (2, _)]) C 6 (dk oX10_soBy 68 rfl) rfl (by first | exact nI_inc _ | rfl) (by decide) rfl ?_
                  refine r_goto (tgt := 5) C (dk oX10_soBy 69 rfl) (by decide) ?_
                  refine V.sub [4, 5, 6, 1, 0] rfl ?_
                  exact ih (f_ + 1) (by omega) (by omega)
                · rw [b32_0] at hb89
                  refine r_aload_n C 2 (dk oX10_soBy 48 rfl) rfl ?_
                  refine r_getR C (dk oX10_soBy 49 rfl) fl_X10_62 rfl (km hn rfl) ?_
                  refine r_iload C 6 (dk oX10_soBy 50 rfl) rfl ?_
                  refine r_iald C _ (dk oX10_soBy 51 rfl) rfl (km hn rfl) rfl (by omega) (by decide) ?_
                  rw [show I 135 f_ = Φ f_ 0 from hM f_ (by omega) 0 (by decide)]
                  refine r_if_eq (tgt := 116) C (dk oX10_soBy 52 rfl) (by decide) (fun hb99 => ?_) (fun hb99 => ?_)
                  · refine r_iconst C (dk oX10_soBy 60 rfl) (v := nI 0) (by decide) ?_
                    refine r_topI (show nI 0 = b32 (sdB (Φ f_) (sh.testBit f_) (dn.testBit f_)) from by
                      unfold sdB
                      rw [if_pos ⟨hb80, hb89⟩]
                      first
                        | exact b32_df (fun q => q.1 hb99)
                        | exact b32_df (fun q => hb109 q.2)) ?_
                    refine r_goto (tgt := 122) C (dk oX10_soBy 61 rfl) (by decide) ?_
                    refine r_isi C Z (dk oX10_soBy 63 rfl) cl_X10_109 st_X10_one (c_X10_one _ J _) rfl rfl (Nat.le_of_ble_eq_true rfl) ⟨Nat.le_of_ble_eq_true rfl, Nat.le_of_ble_eq_true rfl⟩ ⟨Nat.zero_le _, Nat.zero_le _⟩ (fun r122 I122 J122 h122 => ?_)
                    obtain ⟨h122, e1_, e2_⟩ := h122
                    have e1_ := e1_.symm
                    have e2_ := e2_.symm
                    subst e1_
                    subst e2_
                    subst h122
                    refine r_iload C 6 (dk oX10_soBy 64 rfl) rfl ?_
                    refine r_ishl C (dk oX10_soBy 65 rfl) ?_
                    refine r_ior C (dk oX10_soBy 66 rfl) ?_
                    rw [or_b32 (by omega)]
                    refine r_istore_n (lo' := [(3, _), (6, _), (5, _), (0, _), (1, _), (2, _), (4, _)]) C (dk oX10_soBy 67 rfl) rfl (by decide) rfl ?_
                    refine r_iinc (lo' := [(4, _), (3, _), (6, _), (5, _), (0, _), (1, _), (2, _)]) C 6 (dk oX10_soBy 68 rfl) rfl (by first | exact nI_inc _ | rfl) (by decide) rfl ?_
                    refine r_goto (tgt := 5) C (dk oX10_soBy 69 rfl) (by decide) ?_
                    refine V.sub [4, 5, 6, 1, 0] rfl ?_
                    exact ih (f_ + 1) (by omega) (by omega)
                  · refine r_aload_n C 2 (dk oX10_soBy 53 rfl) rfl ?_
                    refine r_getR C (dk oX10_soBy 54 rfl) fl_X10_65 rfl (km hn rfl) ?_
                    refine r_iload C 6 (dk oX10_soBy 55 rfl) rfl ?_
                    refine r_iald C _ (dk oX10_soBy 56 rfl) rfl (km hn rfl) rfl (by omega) (by decide) ?_
                    rw [show I 136 f_ = Φ f_ 1 from hM f_ (by omega) 1 (by decide)]
                    refine r_if_ne (tgt := 116) C (dk oX10_soBy 57 rfl) (by decide) (fun hb109 => ?_) (fun hb109 => ?_)
                    · refine r_iconst C (dk oX10_soBy 60 rfl) (v := nI 0) (by decide) ?_
                      refine r_topI (show nI 0 = b32 (sdB (Φ f_) (sh.testBit f_) (dn.testBit f_)) from by
                        unfold sdB
                        rw [if_pos ⟨hb80, hb89⟩]
                        first
                          | exact b32_df (fun q => q.1 hb99)
                          | exact b32_df (fun q => hb109 q.2)) ?_
                      refine r_goto (tgt := 122) C (dk oX10_soBy 61 rfl) (by decide) ?_
                      refine r_isi C Z (dk oX10_soBy 63 rfl) cl_X10_109 st_X10_one (c_X10_one _ J _) rfl rfl (Nat.le_of_ble_eq_true rfl) ⟨Nat.le_of_ble_eq_true rfl, Nat.le_of_ble_eq_true rfl⟩ ⟨Nat.zero_le _, Nat.zero_le _⟩ (fun r122 I122 J122 h122 => ?_)
                      obtain ⟨h122, e1_, e2_⟩ := h122
                      have e1_ := e1_.symm
                      have e2_ := e2_.symm
                      subst e1_
                      subst e2_
                      subst h122
                      refine r_iload C 6 (dk oX10_soBy 64 rfl) rfl ?_
                      refine r_ishl C (dk oX10_soBy 65 rfl) ?_
                      refine r_ior C (dk oX10_soBy 66 rfl) ?_
                      rw [or_b32 (by omega)]
                      refine r_istore_n (lo' := [(3, _), (6, _), (5, _), (0, _), (1, _), (2, _), (4, _)]) C (dk oX10_soBy 67 rfl) rfl (by decide) rfl ?_
                      refine r_iinc (lo' := [(4, _), (3, _), (6, _), (5, _), (0, _), (1, _), (2, _)]) C 6 (dk oX10_soBy 68 rfl) rfl (by first | exact nI_inc _ | rfl) (by decide) rfl ?_
                      refine r_goto (tgt := 5) C (dk oX10_soBy 69 rfl) (by decide) ?_
                      refine V.sub [4, 5, 6, 1, 0] rfl ?_
                      exact ih (f_ + 1) (by omega) (by omega)
                    · refine r_iconst C (dk oX10_soBy 58 rfl) (v := nI 1) (by decide) ?_
                      refine r_topI (show nI 1 = b32 (sdB (Φ f_) (sh.testBit f_) (dn.testBit f_)) from by
                        unfold sdB
                        rw [if_pos ⟨hb80, hb89⟩]
                        exact b32_dt ⟨hb99, hb109⟩) ?_
                      refine r_goto (tgt := 122) C (dk oX10_soBy 59 rfl) (by decide) ?_
                      refine r_isi C Z (dk oX10_soBy 63 rfl) cl_X10_109 st_X10_one (c_X10_one _ J _) rfl rfl (Nat.le_of_ble_eq_true rfl) ⟨Nat.le_of_ble_eq_true rfl, Nat.le_of_ble_eq_true rfl⟩ ⟨Nat.zero_le _, Nat.zero_le _⟩ (fun r122 I122 J122 h122 => ?_)
                      obtain ⟨h122, e1_, e2_⟩ := h122
                      have e1_ := e1_.symm
                      have e2_ := e2_.symm
                      subst e1_
                      subst e2_
                      subst h122
                      refine r_iload C 6 (dk oX10_soBy 64 rfl) rfl ?_
                      refine r_ishl C (dk oX10_soBy 65 rfl) ?_
                      refine r_ior C (dk oX10_soBy 66 rfl) ?_
                      rw [or_b32 (by omega)]
                      refine r_istore_n (lo' := [(3, _), (6, _), (5, _), (0, _), (1, _), (2, _), (4, _)]) C (dk oX10_soBy 67 rfl) rfl (by decide) rfl ?_
                      refine r_iinc (lo' := [(4, _), (3, _), (6, _), (5, _), (0, _), (1, _), (2, _)]) C 6 (dk oX10_soBy 68 rfl) rfl (by first | exact nI_inc _ | rfl) (by decide) rfl ?_
                      refine r_goto (tgt := 5) C (dk oX10_soBy 69 rfl) (by decide) ?_
                      refine V.sub [4, 5, 6, 1, 0] rfl ?_
                      exact ih (f_ + 1) (by omega) (by omega)
            · refine r_aload_n C 1 (dk oX10_soBy 27 rfl) rfl ?_
              refine r_getR C (dk oX10_soBy 28 rfl) fl_X10_62 rfl (km hn rfl) ?_
              refine r_iload C 5 (dk oX10_soBy 29 rfl) rfl ?_
              refine r_iald C _ (dk oX10_soBy 30 rfl) rfl (km hn rfl) rfl (by omega) (by decide) ?_
              rw [show I 135 f_ = Φ f_ 0 from hM f_ (by omega) 0 (by decide)]
              refine r_iconst C (dk oX10_soBy 31 rfl) (v := nI 2) (by decide) ?_
              refine r_icmp_ne (tgt := 70) C (dk oX10_soBy 32 rfl) (by decide) (fun hb58 => ?_) (fun hb58 => ?_)
              · refine r_iconst C (dk oX10_soBy 37 rfl) (v := nI 1) (by decide) ?_
                refine r_topI (show nI 1 = b32 (decide (Φ f_ 0 ≠ nI 0 ∧ (Φ f_ 0 ≠ nI 2 ∨ dn.testBit f_ = true))) from by
                  first
                    | exact b32_dt ⟨hb47, Or.inl hb58⟩
                    | exact b32_dt ⟨hb47, Or.inr hb67⟩) ?_
                refine r_goto (tgt := 75) C (dk oX10_soBy 38 rfl) (by decide) ?_
                refine r_istore (lo' := [(6, _), (5, _), (0, _), (1, _), (2, _), (3, _), (4, _)]) C (dk oX10_soBy 40 rfl) (by decide) rfl ?_
                refine r_iload_n C 5 (dk oX10_soBy 41 rfl) rfl ?_
                refine r_iload C 0 (dk oX10_soBy 42 rfl) rfl ?_
                refine r_if_eq (tgt := 120) C (dk oX10_soBy 43 rfl) (by decide) (fun hb80 => ?_) (fun hb80 => ?_)
                · rw [b32_0] at hb80
                  refine r_iload C 1 (dk oX10_soBy 62 rfl) rfl ?_
                  refine r_topI (show b32 (decide (Φ f_ 0 ≠ nI 0 ∧ Φ f_ 1 = nI 1)) = b32 (sdB (Φ f_) (sh.testBit f_) (dn.testBit f_)) from by
                    unfold sdB
                    rw [if_neg]
                    first
                      | exact fun q => by rw [hb80] at q; exact absurd q.1 (by decide)
                      | exact fun q => by rw [hb89] at q; exact absurd q.2 (by decide)) ?_
                  refine r_isi C Z (dk oX10_soBy 63 rfl) cl_X10_109 st_X10_one (c_X10_one _ J _) rfl rfl (Nat.le_of_ble_eq_true rfl) ⟨Nat.le_of_ble_eq_true rfl, Nat.le_of_ble_eq_true rfl⟩ ⟨Nat.zero_le _, Nat.zero_le _⟩ (fun r122 I122 J122 h122 => ?_)
                  obtain ⟨h122, e1_, e2_⟩ := h122
                  have e1_ := e1_.symm
                  have e2_ := e2_.symm
                  subst e1_
                  subst e2_
                  subst h122
                  refine r_iload C 6 (dk oX10_soBy 64 rfl) rfl ?_
                  refine r_ishl C (dk oX10_soBy 65 rfl) ?_
                  refine r_ior C (dk oX10_soBy 66 rfl) ?_
                  rw [or_b32 (by omega)]
                  refine r_istore_n (lo' := [(3, _), (6, _), (5, _), (0, _), (1, _), (2, _), (4, _)]) C (dk oX10_soBy 67 rfl) rfl (by decide) rfl ?_
                  refine r_iinc (lo' := [(4, _), (3, _), (6, _), (5, _), (0, _), (1, _), (2, _)]) C 6 (dk oX10_soBy 68 rfl) rfl (by first | exact nI_inc _ | rfl) (by decide) rfl ?_
                  refine r_goto (tgt := 5) C (dk oX10_soBy 69 rfl) (by decide) ?_
                  refine V.sub [4, 5, 6, 1, 0] rfl ?_
                  exact ih (f_ + 1) (by omega) (by omega)
                · rw [b32_n] at hb80
                  refine r_iload_n C 3 (dk oX10_soBy 44 rfl) rfl ?_
                  refine r_iload C 6 (dk oX10_soBy 45 rfl) rfl ?_
                  refine r_isi C Z (dk oX10_soBy 46 rfl) cl_X10_231 st_X10_has (c_X10_has I J (sh) (f_) (by omega) (by omega)) rfl rfl (Nat.le_of_ble_eq_true rfl) ⟨Nat.le_of_ble_eq_true rfl, Nat.le_of_ble_eq_true rfl⟩ ⟨Nat.zero_le _, Nat.zero_le _⟩ (fun r86 I86 J86 h86 => ?_)
                  obtain ⟨h86, e1_, e2_⟩ := h86
                  have e1_ := e1_.symm
                  have e2_ := e2_.symm
                  subst e1_
                  subst e2_
                  subst h86
                  refine r_if_ne (tgt := 120) C (dk oX10_soBy 47 rfl) (by decide) (fun hb89 => ?_) (fun hb89 => ?_)
                  · rw [b32_n] at hb89
                    refine r_iload C 1 (dk oX10_soBy 62 rfl) rfl ?_
                    refine r_topI (show b32 (decide (Φ f_ 0 ≠ nI 0 ∧ Φ f_ 1 = nI 1)) = b32 (sdB (Φ f_) (sh.testBit f_) (dn.testBit f_)) from by
                      unfold sdB
                      rw [if_neg]
                      first
                        | exact fun q => by rw [hb80] at q; exact absurd q.1 (by decide)
                        | exact fun q => by rw [hb89] at q; exact absurd q.2 (by decide)) ?_
                    refine r_isi C Z (dk oX10_soBy 63 rfl) cl_X10_109 st_X10_one (c_X10_one _ J _) rfl rfl (Nat.le_of_ble_eq_true rfl) ⟨Nat.le_of_ble_eq_true rfl, Nat.le_of_ble_eq_true rfl⟩ ⟨Nat.zero_le _, Nat.zero_le _⟩ (fun r122 I122 J122 h122 => ?_)
                    obtain ⟨h122, e1_, e2_⟩ := h122
                    have e1_ := e1_.symm
                    have e2_ := e2_.symm
                    subst e1_
                    subst e2_
                    subst h122
                    refine r_iload C 6 (dk oX10_soBy 64 rfl) rfl ?_
                    refine r_ishl C (dk oX10_soBy 65 rfl) ?_
                    refine r_ior C (dk oX10_soBy 66 rfl) ?_
                    rw [or_b32 (by omega)]
                    refine r_istore_n (lo' := [(3, _), (6, _), (5, _), (0, _), (1, _), (2, _), (4, _)]) C (dk oX10_soBy 67 rfl) rfl (by decide) rfl ?_
                    refine r_iinc (lo' := [(4, _), (3, _), (6, _), (5, _), (0, _), (1, _), (2, _)]) C 6 (dk oX10_soBy 68 rfl) rfl (by first | exact nI_inc _ | rfl) (by decide) rfl ?_
                    refine r_goto (tgt := 5) C (dk oX10_soBy 69 rfl) (by decide) ?_
                    refine V.sub [4, 5, 6, 1, 0] rfl ?_
                    exact ih (f_ + 1) (by omega) (by omega)
                  · rw [b32_0] at hb89
                    refine r_aload_n C 2 (dk oX10_soBy 48 rfl) rfl ?_
                    refine r_getR C (dk oX10_soBy 49 rfl) fl_X10_62 rfl (km hn rfl) ?_
                    refine r_iload C 6 (dk oX10_soBy 50 rfl) rfl ?_
                    refine r_iald C _ (dk oX10_soBy 51 rfl) rfl (km hn rfl) rfl (by omega) (by decide) ?_
                    rw [show I 135 f_ = Φ f_ 0 from hM f_ (by omega) 0 (by decide)]
                    refine r_if_eq (tgt := 116) C (dk oX10_soBy 52 rfl) (by decide) (fun hb99 => ?_) (fun hb99 => ?_)
                    · refine r_iconst C (dk oX10_soBy 60 rfl) (v := nI 0) (by decide) ?_
                      refine r_topI (show nI 0 = b32 (sdB (Φ f_) (sh.testBit f_) (dn.testBit f_)) from by
                        unfold sdB
                        rw [if_pos ⟨hb80, hb89⟩]
                        first
                          | exact b32_df (fun q => q.1 hb99)
                          | exact b32_df (fun q => hb109 q.2)) ?_
                      refine r_goto (tgt := 122) C (dk oX10_soBy 61 rfl) (by decide) ?_
                      refine r_isi C Z (dk oX10_soBy 63 rfl) cl_X10_109 st_X10_one (c_X10_one _ J _) rfl rfl (Nat.le_of_ble_eq_true rfl) ⟨Nat.le_of_ble_eq_true rfl, Nat.le_of_ble_eq_true rfl⟩ ⟨Nat.zero_le _, Nat.zero_le _⟩ (fun r122 I122 J122 h122 => ?_)
                      obtain ⟨h122, e1_, e2_⟩ := h122
                      have e1_ := e1_.symm
                      have e2_ := e2_.symm
                      subst e1_
                      subst e2_
                      subst h122
                      refine r_iload C 6 (dk oX10_soBy 64 rfl) rfl ?_
                      refine r_ishl C (dk oX10_soBy 65 rfl) ?_
                      refine r_ior C (dk oX10_soBy 66 rfl) ?_
                      rw [or_b32 (by omega)]
                      refine r_istore_n (lo' := [(3, _), (6, _), (5, _), (0, _), (1, _), (2, _), (4, _)]) C (dk oX10_soBy 67 rfl) rfl (by decide) rfl ?_
                      refine r_iinc (lo' := [(4, _), (3, _), (6, _), (5, _), (0, _), (1, _), (2, _)]) C 6 (dk oX10_soBy 68 rfl) rfl (by first | exact nI_inc _ | rfl) (by decide) rfl ?_
                      refine r_goto (tgt := 5) C (dk oX10_soBy 69 rfl) (by decide) ?_
                      refine V.sub [4, 5, 6, 1, 0] rfl ?_
                      exact ih (f_ + 1) (by omega) (by omega)
                    · refine r_aload_n C 2 (dk oX10_soBy 53 rfl) rfl ?_
                      refine r_getR C (dk oX10_soBy 54 rfl) fl_X10_65 rfl (km hn rfl) ?_
                      refine r_iload C 6 (dk oX10_soBy 55 rfl) rfl ?_
                      refine r_iald C _ (dk oX10_soBy 56 rfl) rfl (km hn rfl) rfl (by omega) (by decide) ?_
                      rw [show I 136 f_ = Φ f_ 1 from hM f_ (by omega) 1 (by decide)]
                      refine r_if_ne (tgt := 116) C (dk oX10_soBy 57 rfl) (by decide) (fun hb109 => ?_) (fun hb109 => ?_)
                      · refine r_iconst C (dk oX10_soBy 60 rfl) (v := nI 0) (by decide) ?_
                        refine r_topI (show nI 0 = b32 (sdB (Φ f_) (sh.testBit f_) (dn.testBit f_)) from by
                          unfold sdB
                          rw [if_pos ⟨hb80, hb89⟩]
                          first
                            | exact b32_df (fun q => q.1 hb99)
                            | exact b32_df (fun q => hb109 q.2)) ?_
                        refine r_goto (tgt := 122) C (dk oX10_soBy 61 rfl) (by decide) ?_
                        refine r_isi C Z (dk oX10_soBy 63 rfl) cl_X10_109 st_X10_one (c_X10_one _ J _) rfl rfl (Nat.le_of_ble_eq_true rfl) ⟨Nat.le_of_ble_eq_true rfl, Nat.le_of_ble_eq_true rfl⟩ ⟨Nat.zero_le _, Nat.zero_le _⟩ (fun r122 I122 J122 h122 => ?_)
                        obtain ⟨h122, e1_, e2_⟩ := h122
                        have e1_ := e1_.symm
                        have e2_ := e2_.symm
                        subst e1_
                        subst e2_
                        subst h122
                        refine r_iload C 6 (dk oX10_soBy 64 rfl) rfl ?_
                        refine r_ishl C (dk oX10_soBy 65 rfl) ?_
                        refine r_ior C (dk oX10_soBy 66 rfl) ?_
                        rw [or_b32 (by omega)]
                        refine r_istore_n (lo' := [(3, _), (6, _), (5, _), (0, _), (1, _), (2, _), (4, _)]) C (dk oX10_soBy 67 rfl) rfl (by decide) rfl ?_
                        refine r_iinc (lo' := [(4, _), (3, _), (6, _), (5, _), (0, _), (1, _), (2, _)]) C 6 (dk oX10_soBy 68 rfl) rfl (by first | exact nI_inc _ | rfl) (by decide) rfl ?_
                        refine r_goto (tgt := 5) C (dk oX10_soBy 69 rfl) (by decide) ?_
                        refine V.sub [4, 5, 6, 1, 0] rfl ?_
                        exact ih (f_ + 1) (by omega) (by omega)
                      · refine r_iconst C (dk oX10_soBy 58 rfl) (v := nI 1) (by decide) ?_
                        refine r_topI (show nI 1 = b32 (sdB (Φ f_) (sh.testBit f_) (dn.testBit f_)) from by
                          unfold sdB
                          rw [if_pos ⟨hb80, hb89⟩]
                          exact b32_dt ⟨hb99, hb109⟩) ?_
                        refine r_goto (tgt := 122) C (dk oX10_soBy 59 rfl) (by decide) ?_
                        refine r_isi C Z (dk oX10_soBy 63 rfl) cl_X10_109 st_X10_one (c_X10_one _ J _) rfl rfl (Nat.le_of_ble_eq_true rfl) ⟨Nat.le_of_ble_eq_true rfl, Nat.le_of_ble_eq_true rfl⟩ ⟨Nat.zero_le _, Nat.zero_le _⟩ (fun r122 I122 J122 h122 => ?_)
                        obtain ⟨h122, e1_, e2_⟩ := h122
                        have e1_ := e1_.symm
                        have e2_ := e2_.symm
                        subst e1_
                        subst e2_
                        subst h122
                        refine r_iload C 6 (dk oX10_soBy 64 rfl) rfl ?_
                        refine r_ishl C (dk oX10_soBy 65 rfl) ?_
                        refine r_ior C (dk oX10_soBy 66 rfl) ?_
                        rw [or_b32 (by omega)]
                        refine r_istore_n (lo' := [(3, _), (6, _), (5, _), (0, _), (1, _), (2, _), (4, _)]) C (dk oX10_soBy 67 rfl) rfl (by decide) rfl ?_
                        refine r_iinc (lo' := [(4, _), (3, _), (6, _), (5, _), (0, _), (1, _), (2, _)]) C 6 (dk oX10_soBy 68 rfl) rfl (by first | exact nI_inc _ | rfl) (by decide) rfl ?_
                        refine r_goto (tgt := 5) C (dk oX10_soBy 69 rfl) (by decide) ?_
                        refine V.sub [4, 5, 6, 1, 0] rfl ?_
                        exact ih (f_ + 1) (by omega) (by omega)
              · refine r_iload_n C 3 (dk oX10_soBy 33 rfl) rfl ?_
                refine r_iload C 5 (dk oX10_soBy 34 rfl) rfl ?_
                refine r_isi C Z (dk oX10_soBy 35 rfl) cl_X10_231 st_X10_has (c_X10_has I J (dn) (f_) (by omega) (by omega)) rfl rfl (Nat.le_of_ble_eq_true rfl) ⟨Nat.le_of_ble_eq_true rfl, Nat.le_of_ble_eq_true rfl⟩ ⟨Nat.zero_le _, Nat.zero_le _⟩ (fun r64 I64 J64 h64 => ?_)
                obtain ⟨h64, e1_, e2_⟩ := h64
                have e1_ := e1_.symm
                have e2_ := e2_.symm
                subst e1_
                subst e2_
                subst h64
                refine r_if_eq (tgt := 74) C (dk oX10_soBy 36 rfl) (by decide) (fun hb67 => ?_) (fun hb67 => ?_)
                · rw [b32_0] at hb67
                  refine r_iconst C (dk oX10_soBy 39 rfl) (v := nI 0) (by decide) ?_
                  refine r_topI (show nI 0 = b32 (decide (Φ f_ 0 ≠ nI 0 ∧ (Φ f_ 0 ≠ nI 2 ∨ dn.testBit f_ = true))) from by
                    first
                      | exact b32_df (fun q => q.1 hb47)
                      | exact b32_df (fun q => q.2.elim (fun z => z hb58) (fun z => by rw [hb67] at z; cases z))) ?_
                  refine r_istore (lo' := [(6, _), (5, _), (0, _), (1, _), (2, _), (3, _), (4, _)]) C (dk oX10_soBy 40 rfl) (by decide) rfl ?_
                  refine r_iload_n C 5 (dk oX10_soBy 41 rfl) rfl ?_
                  refine r_iload C 0 (dk oX10_soBy 42 rfl) rfl ?_
                  refine r_if_eq (tgt := 120) C (dk oX10_soBy 43 rfl) (by decide) (fun hb80 => ?_) (fun hb80 => ?_)
                  · rw [b32_0] at hb80
                    refine r_iload C 1 (dk oX10_soBy 62 rfl) rfl ?_
                    refine r_topI (show b32 (decide (Φ f_ 0 ≠ nI 0 ∧ Φ f_ 1 = nI 1)) = b32 (sdB (Φ f_) (sh.testBit f_) (dn.testBit f_)) from by
                      unfold sdB
                      rw [if_neg]
                      first
                        | exact fun q => by rw [hb80] at q; exact absurd q.1 (by decide)
                        | exact fun q => by rw [hb89] at q; exact absurd q.2 (by decide)) ?_
                    refine r_isi C Z (dk oX10_soBy 63 rfl) cl_X10_109 st_X10_one (c_X10_one _ J _) rfl rfl (Nat.le_of_ble_eq_true rfl) ⟨Nat.le_of_ble_eq_true rfl, Nat.le_of_ble_eq_true rfl⟩ ⟨Nat.zero_le _, Nat.zero_le _⟩ (fun r122 I122 J122 h122 => ?_)
                    obtain ⟨h122, e1_, e2_⟩ := h122
                    have e1_ := e1_.symm
                    have e2_ := e2_.symm
                    subst e1_
                    subst e2_
                    subst h122
                    refine r_iload C 6 (dk oX10_soBy 64 rfl) rfl ?_
                    refine r_ishl C (dk oX10_soBy 65 rfl) ?_
                    refine r_ior C (dk oX10_soBy 66 rfl) ?_
                    rw [or_b32 (by omega)]
                    refine r_istore_n (lo' := [(3, _), (6, _), (5, _), (0, _), (1, _), (2, _), (4, _)]) C (dk oX10_soBy 67 rfl) rfl (by decide) rfl ?_
                    refine r_iinc (lo' := [(4, _), (3, _), (6, _), (5, _), (0, _), (1, _), (2, _)]) C 6 (dk oX10_soBy 68 rfl) rfl (by first | exact nI_inc _ | rfl) (by decide) rfl ?_
                    refine r_goto (tgt := 5) C (dk oX10_soBy 69 rfl) (by decide) ?_
                    refine V.sub [4, 5, 6, 1, 0] rfl ?_
                    exact ih (f_ + 1) (by omega) (by omega)
                  · rw [b32_n] at hb80
                    refine r_iload_n C 3 (dk oX10_soBy 44 rfl) rfl ?_
                    refine r_iload C 6 (dk oX10_soBy 45 rfl) rfl ?_
                    refine r_isi C Z (dk oX10_soBy 46 rfl) cl_X10_231 st_X10_has (c_X10_has I J (sh) (f_) (by omega) (by omega)) rfl rfl (Nat.le_of_ble_eq_true rfl) ⟨Nat.le_of_ble_eq_true rfl, Nat.le_of_ble_eq_true rfl⟩ ⟨Nat.zero_le _, Nat.zero_le _⟩ (fun r86 I86 J86 h86 => ?_)
                    obtain ⟨h86, e1_, e2_⟩ := h86
                    have e1_ := e1_.symm
                    have e2_ := e2_.symm
                    subst e1_
                    subst e2_
                    subst h86
                    refine r_if_ne (tgt := 120) C (dk oX10_soBy 47 rfl) (by decide) (fun hb89 => ?_) (fun hb89 => ?_)
                    · rw [b32_n] at hb89
                      refine r_iload C 1 (dk oX10_soBy 62 rfl) rfl ?_
                      refine r_topI (show b32 (decide (Φ f_ 0 ≠ nI 0 ∧ Φ f_ 1 = nI 1)) = b32 (sdB (Φ f_) (sh.testBit f_) (dn.testBit f_)) from by
                        unfold sdB
                        rw [if_neg]
                        first
                          | exact fun q => by rw [hb80] at q; exact absurd q.1 (by decide)
                          | exact fun q => by rw [hb89] at q; exact absurd q.2 (by decide)) ?_
                      refine r_isi C Z (dk oX10_soBy 63 rfl) cl_X10_109 st_X10_one (c_X10_one _ J _) rfl rfl (Nat.le_of_ble_eq_true rfl) ⟨Nat.le_of_ble_eq_true rfl, Nat.le_of_ble_eq_true rfl⟩ ⟨Nat.zero_le _, Nat.zero_le _⟩ (fun r122 I122 J122 h122 => ?_)
                      obtain ⟨h122, e1_, e2_⟩ := h122
                      have e1_ := e1_.symm
                      have e2_ := e2_.symm
                      subst e1_
                      subst e2_
                      subst h122
                      refine r_iload C 6 (dk oX10_soBy 64 rfl) rfl ?_
                      refine r_ishl C (dk oX10_soBy 65 rfl) ?_
                      refine r_ior C (dk oX10_soBy 66 rfl) ?_
                      rw [or_b32 (by omega)]
                      refine r_istore_n (lo' := [(3, _), (6, _), (5, _), (0, _), (1, _), (2, _), (4, _)]) C (dk oX10_soBy 67 rfl) rfl (by decide) rfl ?_
                      refine r_iinc (lo' := [(4, _), (3, _), (6, _), (5, _), (0, _), (1, _), (2, _)]) C 6 (dk oX10_soBy 68 rfl) rfl (by first | exact nI_inc _ | rfl) (by decide) rfl ?_
                      refine r_goto (tgt := 5) C (dk oX10_soBy 69 rfl) (by decide) ?_
                      refine V.sub [4, 5, 6, 1, 0] rfl ?_
                      exact ih (f_ + 1) (by omega) (by omega)
                    · rw [b32_0] at hb89
                      refine r_aload_n C 2 (dk oX10_soBy 48 rfl) rfl ?_
                      refine r_getR C (dk oX10_soBy 49 rfl) fl_X10_62 rfl (km hn rfl) ?_
                      refine r_iload C 6 (dk oX10_soBy 50 rfl) rfl ?_
                      refine r_iald C _ (dk oX10_soBy 51 rfl) rfl (km hn rfl) rfl (by omega) (by decide) ?_
                      rw [show I 135 f_ = Φ f_ 0 from hM f_ (by omega) 0 (by decide)]
                      refine r_if_eq (tgt := 116) C (dk oX10_soBy 52 rfl) (by decide) (fun hb99 => ?_) (fun hb99 => ?_)
                      · refine r_iconst C (dk oX10_soBy 60 rfl) (v := nI 0) (by decide) ?_
                        refine r_topI (show nI 0 = b32 (sdB (Φ f_) (sh.testBit f_) (dn.testBit f_)) from by
                          unfold sdB
                          rw [if_pos ⟨hb80, hb89⟩]
                          first
                            | exact b32_df (fun q => q.1 hb99)
                            | exact b32_df (fun q => hb109 q.2)) ?_
                        refine r_goto (tgt := 122) C (dk oX10_soBy 61 rfl) (by decide) ?_
                        refine r_isi C Z (dk oX10_soBy 63 rfl) cl_X10_109 st_X10_one (c_X10_one _ J _) rfl rfl (Nat.le_of_ble_eq_true rfl) ⟨Nat.le_of_ble_eq_true rfl, Nat.le_of_ble_eq_true rfl⟩ ⟨Nat.zero_le _, Nat.zero_le _⟩ (fun r122 I122 J122 h122 => ?_)
                        obtain ⟨h122, e1_, e2_⟩ := h122
                        have e1_ := e1_.symm
                        have e2_ := e2_.symm
                        subst e1_
                        subst e2_
                        subst h122
                        refine r_iload C 6 (dk oX10_soBy 64 rfl) rfl ?_
                        refine r_ishl C (dk oX10_soBy 65 rfl) ?_
                        refine r_ior C (dk oX10_soBy 66 rfl) ?_
                        rw [or_b32 (by omega)]
                        refine r_istore_n (lo' := [(3, _), (6, _), (5, _), (0, _), (1, _), (2, _), (4, _)]) C (dk oX10_soBy 67 rfl) rfl (by decide) rfl ?_
                        refine r_iinc (lo' := [(4, _), (3, _), (6, _), (5, _), (0, _), (1, _), (2, _)]) C 6 (dk oX10_soBy 68 rfl) rfl (by first | exact nI_inc _ | rfl) (by decide) rfl ?_
                        refine r_goto (tgt := 5) C (dk oX10_soBy 69 rfl) (by decide) ?_
                        refine V.sub [4, 5, 6, 1, 0] rfl ?_
                        exact ih (f_ + 1) (by omega) (by omega)
                      · refine r_aload_n C 2 (dk oX10_soBy 53 rfl) rfl ?_
                        refine r_getR C (dk oX10_soBy 54 rfl) fl_X10_65 rfl (km hn rfl) ?_
                        refine r_iload C 6 (dk oX10_soBy 55 rfl) rfl ?_
                        refine r_iald C _ (dk oX10_soBy 56 rfl) rfl (km hn rfl) rfl (by omega) (by decide) ?_
                        rw [show I 136 f_ = Φ f_ 1 from hM f_ (by omega) 1 (by decide)]
                        refine r_if_ne (tgt := 116) C (dk oX10_soBy 57 rfl) (by decide) (fun hb109 => ?_) (fun hb109 => ?_)
                        · refine r_iconst C (dk oX10_soBy 60 rfl) (v := nI 0) (by decide) ?_
                          refine r_topI (show nI 0 = b32 (sdB (Φ f_) (sh.testBit f_) (dn.testBit f_)) from by
                            unfold sdB
                            rw [if_pos ⟨hb80, hb89⟩]
                            first
                              | exact b32_df (fun q => q.1 hb99)
                              | exact b32_df (fun q => hb109 q.2)) ?_
                          refine r_goto (tgt := 122) C (dk oX10_soBy 61 rfl) (by decide) ?_
                          refine r_isi C Z (dk oX10_soBy 63 rfl) cl_X10_109 st_X10_one (c_X10_one _ J _) rfl rfl (Nat.le_of_ble_eq_true rfl) ⟨Nat.le_of_ble_eq_true rfl, Nat.le_of_ble_eq_true rfl⟩ ⟨Nat.zero_le _, Nat.zero_le _⟩ (fun r122 I122 J122 h122 => ?_)
                          obtain ⟨h122, e1_, e2_⟩ := h122
                          have e1_ := e1_.symm
                          have e2_ := e2_.symm
                          subst e1_
                          subst e2_
                          subst h122
                          refine r_iload C 6 (dk oX10_soBy 64 rfl) rfl ?_
                          refine r_ishl C (dk oX10_soBy 65 rfl) ?_
                          refine r_ior C (dk oX10_soBy 66 rfl) ?_
                          rw [or_b32 (by omega)]
                          refine r_istore_n (lo' := [(3, _), (6, _), (5, _), (0, _), (1, _), (2, _), (4, _)]) C (dk oX10_soBy 67 rfl) rfl (by decide) rfl ?_
                          refine r_iinc (lo' := [(4, _), (3, _), (6, _), (5, _), (0, _), (1, _), (2, _)]) C 6 (dk oX10_soBy 68 rfl) rfl (by first | exact nI_inc _ | rfl) (by decide) rfl ?_
                          refine r_goto (tgt := 5) C (dk oX10_soBy 69 rfl) (by decide) ?_
                          refine V.sub [4, 5, 6, 1, 0] rfl ?_
                          exact ih (f_ + 1) (by omega) (by omega)
                        · refine r_iconst C (dk oX10_soBy 58 rfl) (v := nI 1) (by decide) ?_
                          refine r_topI (show nI 1 = b32 (sdB (Φ f_) (sh.testBit f_) (dn.testBit f_)) from by
                            unfold sdB
                            rw [if_pos ⟨hb80, hb89⟩]
                            exact b32_dt ⟨hb99, hb109⟩) ?_
                          refine r_goto (tgt := 122) C (dk oX10_soBy 59 rfl) (by decide) ?_
                          refine r_isi C Z (dk oX10_soBy 63 rfl) cl_X10_109 st_X10_one (c_X10_one _ J _) rfl rfl (Nat.le_of_ble_eq_true rfl) ⟨Nat.le_of_ble_eq_true rfl, Nat.le_of_ble_eq_true rfl⟩ ⟨Nat.zero_le _, Nat.zero_le _⟩ (fun r122 I122 J122 h122 => ?_)
                          obtain ⟨h122, e1_, e2_⟩ := h122
                          have e1_ := e1_.symm
                          have e2_ := e2_.symm
                          subst e1_
                          subst e2_
                          subst h122
                          refine r_iload C 6 (dk oX10_soBy 64 rfl) rfl ?_
                          refine r_ishl C (dk oX10_soBy 65 rfl) ?_
                          refine r_ior C (dk oX10_soBy 66 rfl) ?_
                          rw [or_b32 (by omega)]
                          refine r_istore_n (lo' := [(3, _), (6, _), (5, _), (0, _), (1, _), (2, _), (4, _)]) C (dk oX10_soBy 67 rfl) rfl (by decide) rfl ?_
                          refine r_iinc (lo' := [(4, _), (3, _), (6, _), (5, _), (0, _), (1, _), (2, _)]) C 6 (dk oX10_soBy 68 rfl) rfl (by first | exact nI_inc _ | rfl) (by decide) rfl ?_
                          refine r_goto (tgt := 5) C (dk oX10_soBy 69 rfl) (by decide) ?_
                          refine V.sub [4, 5, 6, 1, 0] rfl ?_
                          exact ih (f_ + 1) (by omega) (by omega)
                · rw [b32_n] at hb67
                  refine r_iconst C (dk oX10_soBy 37 rfl) (v := nI 1) (by decide) ?_
                  refine r_topI (show nI 1 = b32 (decide (Φ f_ 0 ≠ nI 0 ∧ (Φ f_ 0 ≠ nI 2 ∨ dn.testBit f_ = true))) from by
                    first
                      | exact b32_dt ⟨hb47, Or.inl hb58⟩
                      | exact b32_dt ⟨hb47, Or.inr hb67⟩) ?_
                  refine r_goto (tgt := 75) C (dk oX10_soBy 38 rfl) (by decide) ?_
                  refine r_istore (lo' := [(6, _), (5, _), (0, _), (1, _), (2, _), (3, _), (4, _)]) C (dk oX10_soBy 40 rfl) (by decide) rfl ?_
                  refine r_iload_n C 5 (dk oX10_soBy 41 rfl) rfl ?_
                  refine r_iload C 0 (dk oX10_soBy 42 rfl) rfl ?_
                  refine r_if_eq (tgt := 120) C (dk oX10_soBy 43 rfl) (by decide) (fun hb80 => ?_) (fun hb80 => ?_)
                  · rw [b32_0] at hb80
                    refine r_iload C 1 (dk oX10_soBy 62 rfl) rfl ?_
                    refine r_topI (show b32 (decide (Φ f_ 0 ≠ nI 0 ∧ Φ f_ 1 = nI 1)) = b32 (sdB (Φ f_) (sh.testBit f_) (dn.testBit f_)) from by
                      unfold sdB
                      rw [if_neg]
                      first
                        | exact fun q => by rw [hb80] at q; exact absurd q.1 (by decide)
                        | exact fun q => by rw [hb89] at q; exact absurd q.2 (by decide)) ?_
                    refine r_isi C Z (dk oX10_soBy 63 rfl) cl_X10_109 st_X10_one (c_X10_one _ J _) rfl rfl (Nat.le_of_ble_eq_true rfl) ⟨Nat.le_of_ble_eq_true rfl, Nat.le_of_ble_eq_true rfl⟩ ⟨Nat.zero_le _, Nat.zero_le _⟩ (fun r122 I122 J122 h122 => ?_)
                    obtain ⟨h122, e1_, e2_⟩ := h122
                    have e1_ := e1_.symm
                    have e2_ := e2_.symm
                    subst e1_
                    subst e2_
                    subst h122
                    refine r_iload C 6 (dk oX10_soBy 64 rfl) rfl ?_
                    refine r_ishl C (dk oX10_soBy 65 rfl) ?_
                    refine r_ior C (dk oX10_soBy 66 rfl) ?_
                    rw [or_b32 (by omega)]
                    refine r_istore_n (lo' := [(3, _), (6, _), (5, _), (0, _), (1, _), (2, _), (4, _)]) C (dk oX10_soBy 67 rfl) rfl (by decide) rfl ?_
                    refine r_iinc (lo' := [(4, _), (3, _), (6, _), (5, _), (0, _), (1, _), (2, _)]) C 6 (dk oX10_soBy 68 rfl) rfl (by first | exact nI_inc _ | rfl) (by decide) rfl ?_
                    refine r_goto (tgt := 5) C (dk oX10_soBy 69 rfl) (by decide) ?_
                    refine V.sub [4, 5, 6, 1, 0] rfl ?_
                    exact ih (f_ + 1) (by omega) (by omega)
                  · rw [b32_n] at hb80
                    refine r_iload_n C 3 (dk oX10_soBy 44 rfl) rfl ?_
                    refine r_iload C 6 (dk oX10_soBy 45 rfl) rfl ?_
                    refine r_isi C Z (dk oX10_soBy 46 rfl) cl_X10_231 st_X10_has (c_X10_has I J (sh) (f_) (by omega) (by omega)) rfl rfl (Nat.le_of_ble_eq_true rfl) ⟨Nat.le_of_ble_eq_true rfl, Nat.le_of_ble_eq_true rfl⟩ ⟨Nat.zero_le _, Nat.zero_le _⟩ (fun r86 I86 J86 h86 => ?_)
                    obtain ⟨h86, e1_, e2_⟩ := h86
                    have e1_ := e1_.symm
                    have e2_ := e2_.symm
                    subst e1_
                    subst e2_
                    subst h86
                    refine r_if_ne (tgt := 120) C (dk oX10_soBy 47 rfl) (by decide) (fun hb89 => ?_) (fun hb89 => ?_)
                    · rw [b32_n] at hb89
                      refine r_iload C 1 (dk oX10_soBy 62 rfl) rfl ?_
                      refine r_topI (show b32 (decide (Φ f_ 0 ≠ nI 0 ∧ Φ f_ 1 = nI 1)) = b32 (sdB (Φ f_) (sh.testBit f_) (dn.testBit f_)) from by
                        unfold sdB
                        rw [if_neg]
                        first
                          | exact fun q => by rw [hb80] at q; exact absurd q.1 (by decide)
                          | exact fun q => by rw [hb89] at q; exact absurd q.2 (by decide)) ?_
                      refine r_isi C Z (dk oX10_soBy 63 rfl) cl_X10_109 st_X10_one (c_X10_one _ J _) rfl rfl (Nat.le_of_ble_eq_true rfl) ⟨Nat.le_of_ble_eq_true rfl, Nat.le_of_ble_eq_true rfl⟩ ⟨Nat.zero_le _, Nat.zero_le _⟩ (fun r122 I122 J122 h122 => ?_)
                      obtain ⟨h122, e1_, e2_⟩ := h122
                      have e1_ := e1_.symm
                      have e2_ := e2_.symm
                      subst e1_
                      subst e2_
                      subst h122
                      refine r_iload C 6 (dk oX10_soBy 64 rfl) rfl ?_
                      refine r_ishl C (dk oX10_soBy 65 rfl) ?_
                      refine r_ior C (dk oX10_soBy 66 rfl) ?_
                      rw [or_b32 (by omega)]
                      refine r_istore_n (lo' := [(3, _), (6, _), (5, _), (0, _), (1, _), (2, _), (4, _)]) C (dk oX10_soBy 67 rfl) rfl (by decide) rfl ?_
                      refine r_iinc (lo' := [(4, _), (3, _), (6, _), (5, _), (0, _), (1, _), (2, _)]) C 6 (dk oX10_soBy 68 rfl) rfl (by first | exact nI_inc _ | rfl) (by decide) rfl ?_
                      refine r_goto (tgt := 5) C (dk oX10_soBy 69 rfl) (by decide) ?_
                      refine V.sub [4, 5, 6, 1, 0] rfl ?_
                      exact ih (f_ + 1) (by omega) (by omega)
                    · rw [b32_0] at hb89
                      refine r_aload_n C 2 (dk oX10_soBy 48 rfl) rfl ?_
                      refine r_getR C (dk oX10_soBy 49 rfl) fl_X10_62 rfl (km hn rfl) ?_
                      refine r_iload C 6 (dk oX10_soBy 50 rfl) rfl ?_
                      refine r_iald C _ (dk oX10_soBy 51 rfl) rfl (km hn rfl) rfl (by omega) (by decide) ?_
                      rw [show I 135 f_ = Φ f_ 0 from hM f_ (by omega) 0 (by decide)]
                      refine r_if_eq (tgt := 116) C (dk oX10_soBy 52 rfl) (by decide) (fun hb99 => ?_) (fun hb99 => ?_)
                      · refine r_iconst C (dk oX10_soBy 60 rfl) (v := nI 0) (by decide) ?_
                        refine r_topI (show nI 0 = b32 (sdB (Φ f_) (sh.testBit f_) (dn.testBit f_)) from by
                          unfold sdB
                          rw [if_pos ⟨hb80, hb89⟩]
                          first
                            | exact b32_df (fun q => q.1 hb99)
                            | exact b32_df (fun q => hb109 q.2)) ?_
                        refine r_goto (tgt := 122) C (dk oX10_soBy 61 rfl) (by decide) ?_
                        refine r_isi C Z (dk oX10_soBy 63 rfl) cl_X10_109 st_X10_one (c_X10_one _ J _) rfl rfl (Nat.le_of_ble_eq_true rfl) ⟨Nat.le_of_ble_eq_true rfl, Nat.le_of_ble_eq_true rfl⟩ ⟨Nat.zero_le _, Nat.zero_le _⟩ (fun r122 I122 J122 h122 => ?_)
                        obtain ⟨h122, e1_, e2_⟩ := h122
                        have e1_ := e1_.symm
                        have e2_ := e2_.symm
                        subst e1_
                        subst e2_
                        subst h122
                        refine r_iload C 6 (dk oX10_soBy 64 rfl) rfl ?_
                        refine r_ishl C (dk oX10_soBy 65 rfl) ?_
                        refine r_ior C (dk oX10_soBy 66 rfl) ?_
                        rw [or_b32 (by omega)]
                        refine r_istore_n (lo' := [(3, _), (6, _), (5, _), (0, _), (1, _), (2, _), (4, _)]) C (dk oX10_soBy 67 rfl) rfl (by decide) rfl ?_
                        refine r_iinc (lo' := [(4, _), (3, _), (6, _), (5, _), (0, _), (1, _), (2, _)]) C 6 (dk oX10_soBy 68 rfl) rfl (by first | exact nI_inc _ | rfl) (by decide) rfl ?_
                        refine r_goto (tgt := 5) C (dk oX10_soBy 69 rfl) (by decide) ?_
                        refine V.sub [4, 5, 6, 1, 0] rfl ?_
                        exact ih (f_ + 1) (by omega) (by omega)
                      · refine r_aload_n C 2 (dk oX10_soBy 53 rfl) rfl ?_
                        refine r_getR C (dk oX10_soBy 54 rfl) fl_X10_65 rfl (km hn rfl) ?_
                        refine r_iload C 6 (dk oX10_soBy 55 rfl) rfl ?_
                        refine r_iald C _ (dk oX10_soBy 56 rfl) rfl (km hn rfl) rfl (by omega) (by decide) ?_
                        rw [show I 136 f_ = Φ f_ 1 from hM f_ (by omega) 1 (by decide)]
                        refine r_if_ne (tgt := 116) C (dk oX10_soBy 57 rfl) (by decide) (fun hb109 => ?_) (fun hb109 => ?_)
                        · refine r_iconst C (dk oX10_soBy 60 rfl) (v := nI 0) (by decide) ?_
                          refine r_topI (show nI 0 = b32 (sdB (Φ f_) (sh.testBit f_) (dn.testBit f_)) from by
                            unfold sdB
                            rw [if_pos ⟨hb80, hb89⟩]
                            first
                              | exact b32_df (fun q => q.1 hb99)
                              | exact b32_df (fun q => hb109 q.2)) ?_
                          refine r_goto (tgt := 122) C (dk oX10_soBy 61 rfl) (by decide) ?_
                          refine r_isi C Z (dk oX10_soBy 63 rfl) cl_X10_109 st_X10_one (c_X10_one _ J _) rfl rfl (Nat.le_of_ble_eq_true rfl) ⟨Nat.le_of_ble_eq_true rfl, Nat.le_of_ble_eq_true rfl⟩ ⟨Nat.zero_le _, Nat.zero_le _⟩ (fun r122 I122 J122 h122 => ?_)
                          obtain ⟨h122, e1_, e2_⟩ := h122
                          have e1_ := e1_.symm
                          have e2_ := e2_.symm
                          subst e1_
                          subst e2_
                          subst h122
                          refine r_iload C 6 (dk oX10_soBy 64 rfl) rfl ?_
                          refine r_ishl C (dk oX10_soBy 65 rfl) ?_
                          refine r_ior C (dk oX10_soBy 66 rfl) ?_
                          rw [or_b32 (by omega)]
                          refine r_istore_n (lo' := [(3, _), (6, _), (5, _), (0, _), (1, _), (2, _), (4, _)]) C (dk oX10_soBy 67 rfl) rfl (by decide) rfl ?_
                          refine r_iinc (lo' := [(4, _), (3, _), (6, _), (5, _), (0, _), (1, _), (2, _)]) C 6 (dk oX10_soBy 68 rfl) rfl (by first | exact nI_inc _ | rfl) (by decide) rfl ?_
                          refine r_goto (tgt := 5) C (dk oX10_soBy 69 rfl) (by decide) ?_
                          refine V.sub [4, 5, 6, 1, 0] rfl ?_
                          exact ih (f_ + 1) (by omega) (by omega)
                        · refine r_iconst C (dk oX10_soBy 58 rfl) (v := nI 1) (by decide) ?_
                          refine r_topI (show nI 1 = b32 (sdB (Φ f_) (sh.testBit f_) (dn.testBit f_)) from by
                            unfold sdB
                            rw [if_pos ⟨hb80, hb89⟩]
                            exact b32_dt ⟨hb99, hb109⟩) ?_
                          refine r_goto (tgt := 122) C (dk oX10_soBy 59 rfl) (by decide) ?_
                          refine r_isi C Z (dk oX10_soBy 63 rfl) cl_X10_109 st_X10_one (c_X10_one _ J _) rfl rfl (Nat.le_of_ble_eq_true rfl) ⟨Nat.le_of_ble_eq_true rfl, Nat.le_of_ble_eq_true rfl⟩ ⟨Nat.zero_le _, Nat.zero_le _⟩ (fun r122 I122 J122 h122 => ?_)
                          obtain ⟨h122, e1_, e2_⟩ := h122
                          have e1_ := e1_.symm
                          have e2_ := e2_.symm
                          subst e1_
                          subst e2_
                          subst h122
                          refine r_iload C 6 (dk oX10_soBy 64 rfl) rfl ?_
                          refine r_ishl C (dk oX10_soBy 65 rfl) ?_
                          refine r_ior C (dk oX10_soBy 66 rfl) ?_
                          rw [or_b32 (by omega)]
                          refine r_istore_n (lo' := [(3, _), (6, _), (5, _), (0, _), (1, _), (2, _), (4, _)]) C (dk oX10_soBy 67 rfl) rfl (by decide) rfl ?_
                          refine r_iinc (lo' := [(4, _), (3, _), (6, _), (5, _), (0, _), (1, _), (2, _)]) C 6 (dk oX10_soBy 68 rfl) rfl (by first | exact nI_inc _ | rfl) (by decide) rfl ?_
                          refine r_goto (tgt := 5) C (dk oX10_soBy 69 rfl) (by decide) ?_
                          refine V.sub [4, 5, 6, 1, 0] rfl ?_
                          exact ih (f_ + 1) (by omega) (by omega)
  refine V.sub [2, 3, 4, 1, 0] rfl ?_
  exact L5 13 0 (by omega) (Nat.zero_le _)

set_option maxHeartbeats 1000000 in
set_option maxRecDepth 100000 in
theorem c_X10_lay (hn : 148 ≤ n) (I : MI) (J : MJ) (s_ : Nat) (hs : I 117 39 = nI s_) (x : Bool) : Cv l n ad cA D z 1 yX10_lay cX10_lay 2 I J [.ref (ad 117), .int (b32 x)] (fun I' J' => I' = up2 I 117 39 (nI (2 * s_ + x.toNat)) ∧ J' = J) := by
  refine Cv.of (by decide) (Nat.le_of_ble_eq_true rfl) ?_
  intro p e s m args below meth c A C hin Z Q hret
  refine r_aload_n C 0 (dk oX10_lay 0 rfl) rfl ?_
  refine r_iconst C (dk oX10_lay 1 rfl) (v := nI 2) (by decide) ?_
  refine r_aload_n C 0 (dk oX10_lay 2 rfl) rfl ?_
  refine r_getI C (dk oX10_lay 3 rfl) fl_X10_265 rfl (km hn rfl) ?_
  rw [hs]
  refine r_imul C (dk oX10_lay 4 rfl) ?_
  rw [pk_mul]
  refine r_iload_n C 1 (dk oX10_lay 5 rfl) rfl ?_
  refine r_isi C Z (dk oX10_lay 6 rfl) cl_X10_109 st_X10_one (c_X10_one _ J _) rfl rfl (Nat.le_of_ble_eq_true rfl) ⟨Nat.le_of_ble_eq_true rfl, Nat.le_of_ble_eq_true rfl⟩ ⟨Nat.zero_le _, Nat.zero_le _⟩ (fun r8 I8 J8 h8 => ?_)
  obtain ⟨h8, e1_, e2_⟩ := h8
  have e1_ := e1_.symm
  have e2_ := e2_.symm
  subst e1_
  subst e2_
  subst h8
  refine r_iadd C (dk oX10_lay 7 rfl) ?_
  rw [show b32 x = nI x.toNat from rfl, nI_add]
  refine r_putI C (dk oX10_lay 8 rfl) fl_X10_265 ft_10_39 rfl (km hn rfl) ?_
  refine hret (dk oX10_lay 9 rfl) ?_
  exact ⟨rfl, rfl⟩

set_option maxHeartbeats 1000000 in
set_option maxRecDepth 100000 in
theorem c_X10_pop (hn : 148 ≤ n) (I : MI) (J : MJ) (s_ : Nat) (hs : I 117 39 = nI s_) (hs2 : s_ < 2 ^ 31) : Ci l n ad cA D z 0 yX10_pop cX10_pop 2 .boolean I J [.ref (ad 117)] (fun r I' J' => r = b32 (decide (s_ % 2 = 1)) ∧ I' = up2 I 117 39 (nI (s_ / 2)) ∧ J' = J) := by
  refine Ci.of (by decide) (Nat.le_of_ble_eq_true rfl) ?_
  intro p e s m args below meth c A C hin Z Q hret
  refine r_aload_n C 0 (dk oX10_pop 0 rfl) rfl ?_
  refine r_getI C (dk oX10_pop 1 rfl) fl_X10_265 rfl (km hn rfl) ?_
  rw [hs]
  refine r_iconst C (dk oX10_pop 2 rfl) (v := nI 1) (by decide) ?_
  refine r_iand C (dk oX10_pop 3 rfl) ?_
  rw [one_bit]
  refine r_iconst C (dk oX10_pop 4 rfl) (v := nI 1) (by decide) ?_
  refine r_icmp_ne (tgt := 14) C (dk oX10_pop 5 rfl) (by decide) (fun hb7 => ?_) (fun hb7 => ?_)
  · simp (disch := omega) only [nI_leI, nI_ltI, nI_eq, nI_eq0] at hb7
    refine r_iconst C (dk oX10_pop 8 rfl) (v := nI 0) (by decide) ?_
    refine r_topI (show nI 0 = b32 (decide (s_ % 2 = 1)) from b32_df hb7) ?_
    refine r_istore_n (lo' := [(1, _), (0, _)]) C (dk oX10_pop 9 rfl) rfl (by decide) rfl ?_
    refine r_aload_n C 1 (dk oX10_pop 10 rfl) rfl ?_
    refine r_dup C (dk oX10_pop 11 rfl) rfl ?_
    refine r_getI C (dk oX10_pop 12 rfl) fl_X10_265 rfl (km hn rfl) ?_
    rw [hs]
    refine r_iconst C (dk oX10_pop 13 rfl) (v := nI 2) (by decide) ?_
    refine r_idiv C (dk oX10_pop 14 rfl) (by decide) ?_
    rw [pk_div (by omega) (by decide) (by decide)]
    refine r_putI C (dk oX10_pop 15 rfl) fl_X10_265 ft_10_39 rfl (km hn rfl) ?_
    refine r_iload_n C 0 (dk oX10_pop 16 rfl) rfl ?_
    refine hret (dk oX10_pop 17 rfl) b32_nar ?_
    exact ⟨rfl, rfl, rfl⟩
  · simp (disch := omega) only [nI_leI, nI_ltI, nI_eq, nI_eq0] at hb7
    refine r_iconst C (dk oX10_pop 6 rfl) (v := nI 1) (by decide) ?_
    refine r_topI (show nI 1 = b32 (decide (s_ % 2 = 1)) from b32_dt hb7) ?_
    refine r_goto (tgt := 15) C (dk oX10_pop 7 rfl) (by decide) ?_
    refine r_istore_n (lo' := [(1, _), (0, _)]) C (dk oX10_pop 9 rfl) rfl (by decide) rfl ?_
    refine r_aload_n C 1 (dk oX10_pop 10 rfl) rfl ?_
    refine r_dup C (dk oX10_pop 11 rfl) rfl ?_
    refine r_getI C (dk oX10_pop 12 rfl) fl_X10_265 rfl (km hn rfl) ?_
    rw [hs]
    refine r_iconst C (dk oX10_pop 13 rfl) (v := nI 2) (by decide) ?_
    refine r_idiv C (dk oX10_pop 14 rfl) (by decide) ?_
    rw [pk_div (by omega) (by decide) (by decide)]
    refine r_putI C (dk oX10_pop 15 rfl) fl_X10_265 ft_10_39 rfl (km hn rfl) ?_
    refine r_iload_n C 0 (dk oX10_pop 16 rfl) rfl ?_
    refine hret (dk oX10_pop 17 rfl) b32_nar ?_
    exact ⟨rfl, rfl, rfl⟩

set_option maxHeartbeats 1000000 in
set_option maxRecDepth 100000 in
theorem c_X10_asks (hn : 148 ≤ n) (I : MI) (J : MJ) (c_ so : Nat) (C_ : List Nat) (hc : c_ < 6) (hso : so < 4096) (hC : MCd I c_ C_) : Ci l n ad cA D z 2 yX10_asks cX10_asks 7 .boolean I J [.ref (ad 117), .int (nI c_), .int (nI so)] (fun r I' J' => r = b32 (evC C_ so) ∧ skF I I' ∧ J' = J) := by
  refine Ci.of (by decide) (Nat.le_of_ble_eq_true rfl) ?_
  intro p e s m args below meth c A C hin Z Q hret
  obtain ⟨hC1, hC2, hC3, hC4, hC5⟩ := hC
  refine r_aload_n C 0 (dk oX10_asks 0 rfl) rfl ?_
  refine r_iconst C (dk oX10_asks 1 rfl) (v := nI 0) (by decide) ?_
  refine r_putI C (dk oX10_asks 2 rfl) fl_X10_265 ft_10_39 rfl (km hn rfl) ?_
  refine r_iconst C (dk oX10_asks 3 rfl) (v := nI 0) (by decide) ?_
  refine r_istore_n (lo' := [(3, _), (0, _), (1, _), (2, _)]) C (dk oX10_asks 4 rfl) rfl (by decide) rfl ?_
  have L7 : ∀ (d_ : Nat) (i_ d : Nat) (F : Nat → Bool) (I1 : MI), C_.length - i_ < d_ → i_ ≤ C_.length → d ≤ 20 → dOK 20 (C_.drop i_) d 1 → evC C_ so = (evF (fun f => so.testBit f) (C_.drop i_) d F).2 0 → I1 117 39 = nI (stN d F) → skF I I1 → V p l e (rmL 2) s m args below meth c Q D A 7 0 0 n ad (mE cA ad I1 J) 7 [(0, .ref (ad 117)), (1, .int (nI c_)), (2, .int (nI so)), (3, .int (nI i_))] [] := by
    intro d_
    induction d_ with
    | zero => intros; exact absurd (by assumption) (Nat.not_lt_zero _)
    | succ d_ ih => 
      intro i_ d F I1 hd_ hi hd hdo hev hst hsk
      refine r_iload_n C 3 (dk oX10_asks 5 rfl) rfl ?_
      refine r_aload_n C 0 (dk oX10_asks 6 rfl) rfl ?_
      refine r_getR C (dk oX10_asks 7 rfl) fl_X10_19 rfl (km hn rfl) ?_
      refine r_iload_n C 1 (dk oX10_asks 8 rfl) rfl ?_
      refine r_iald C _ (dk oX10_asks 9 rfl) rfl (km hn rfl) rfl (by omega) (by decide) ?_
      rw [hsk.1 121 (by decide), hC1]
      refine r_icmp_ge (tgt := 138) C (dk oX10_asks 10 rfl) (by decide) (fun hb14 => ?_) (fun hb14 => ?_)
      · simp (disch := omega) only [nI_leI, nI_ltI, nI_eq, nI_eq0] at hb14
        refine r_aload_n C 0 (dk oX10_asks 69 rfl) rfl ?_
        refine r_ivi C Z (dk oX10_asks 70 rfl) cl_X10_272 ci_X10_pop rfl (km hn rfl) (c_X10_pop hn I1 J (stN d F) hst (by have := stN_lt d F; have : 2 ^ d ≤ 2 ^ 20 := Nat.pow_le_pow_right (by decide) (by omega); omega)) rfl rfl (Nat.le_of_ble_eq_true rfl) ⟨Nat.le_of_ble_eq_true rfl, Nat.le_of_ble_eq_true rfl⟩ ⟨Nat.zero_le _, Nat.zero_le _⟩ (fun r139 I139 J139 h139 => ?_)
        obtain ⟨h139, e1_, e2_⟩ := h139
        have e1_ := e1_.symm
        have e2_ := e2_.symm
        subst e1_
        subst e2_
        subst h139
        refine hret (dk oX10_asks 71 rfl) b32_nar ?_
        have e0 : C_.drop i_ = [] := List.drop_eq_nil_iff.mpr (by omega)
        rw [e0] at hdo hev
        have hdo : d = 1 := hdo
        subst hdo
        refine ⟨?_, hsk.up _, rfl⟩
        rw [(stN_pop (d := 1) (f := F) (by decide)).1, hev]
        rfl
      · simp (disch := omega) only [nI_leI, nI_ltI, nI_eq, nI_eq0] at hb14
        have hb14 : i_ < C_.length := by omega
        refine r_aload_n C 0 (dk oX10_asks 11 rfl) rfl ?_
        refine r_getR C (dk oX10_asks 12 rfl) fl_X10_16 rfl (km hn rfl) ?_
        refine r_bipush C (dk oX10_asks 13 rfl) (v := nI 120) (by decide) ?_
        refine r_iload_n C 1 (dk oX10_asks 14 rfl) rfl ?_
        refine r_imul C (dk oX10_asks 15 rfl) ?_
        rw [pk_mul]
        refine r_iload_n C 3 (dk oX10_asks 16 rfl) rfl ?_
        refine r_iadd C (dk oX10_asks 17 rfl) ?_
        rw [nI_add]
        refine r_iald C _ (dk oX10_asks 18 rfl) rfl (km hn rfl) rfl (by omega) (by decide) ?_
        have hx15 : (C_.getD i_ 0) < 15 := hC5 _ (getD_mem hb14)
        have hdr := drop_c hb14
        have hdq := hdo
        rw [hdr] at hdq
        have hdq : (if (C_.getD i_ 0) < 12 then d + 1 ≤ 20 ∧ dOK 20 (C_.drop (i_ + 1)) (d + 1) 1 else if (C_.getD i_ 0) = 12 then 1 ≤ d ∧ dOK 20 (C_.drop (i_ + 1)) d 1 else 2 ≤ d ∧ dOK 20 (C_.drop (i_ + 1)) (d - 1) 1) := hdq
        have henc := enc_le hx15
        rw [hsk.1 120 (by decide), hC2 i_ hb14]
        refine r_istore (lo' := [(4, _), (0, _), (1, _), (2, _), (3, _)]) C (dk oX10_asks 19 rfl) (by decide) rfl ?_
        refine r_iload C 0 (dk oX10_asks 20 rfl) rfl ?_
        refine r_bipush C (dk oX10_asks 21 rfl) (v := nI 12) (by decide) ?_
        refine r_icmp_ge (tgt := 50) C (dk oX10_asks 22 rfl) (by decide) (fun hb34 => ?_) (fun hb34 => ?_)
        · simp (disch := omega) only [nI_leI, nI_ltI, nI_eq, nI_eq0] at hb34
          have hb34x : ¬ (C_.getD i_ 0) < 12 := fun q => by have := (enc_lt hx15).mpr q; omega
          rw [if_neg hb34x] at hdq
          refine r_iload C 0 (dk oX10_asks 29 rfl) rfl ?_
          refine r_bipush C (dk oX10_asks 30 rfl) (v := nI 100) (by decide) ?_
          refine r_icmp_ne (tgt := 76) C (dk oX10_asks 31 rfl) (by decide) (fun hb54 => ?_) (fun hb54 => ?_)
          · simp (disch := omega) only [nI_leI, nI_ltI, nI_eq, nI_eq0] at hb54
            have hb54x : ¬ (C_.getD i_ 0) = 12 := fun q => hb54 ((enc_12 hx15).mpr q)
            rw [if_neg hb54x] at hdq
            refine r_aload_n C 1 (dk oX10_asks 41 rfl) rfl ?_
            refine r_ivi C Z (dk oX10_asks 42 rfl) cl_X10_272 ci_X10_pop rfl (km hn rfl) (c_X10_pop hn I1 J (stN (d) F) (hst) (by have := stN_lt (d) F; have : 2 ^ (d) ≤ 2 ^ 20 := Nat.pow_le_pow_right (by decide) (by omega); omega)) rfl rfl (Nat.le_of_ble_eq_true rfl) ⟨Nat.le_of_ble_eq_true rfl, Nat.le_of_ble_eq_true rfl⟩ ⟨Nat.zero_le _, Nat.zero_le _⟩ (fun r77 I77 J77 h77 => ?_)
            obtain ⟨h77, e1_, e2_⟩ := h77
            have e1_ := e1_.symm
            have e2_ := e2_.symm
            subst e1_
            subst e2_
            subst h77
            rw [(stN_pop (d := d) (f := F) (by omega)).1, (stN_pop (d := d) (f := F) (by omega)).2]
            refine r_istore (lo' := [(5, _), (4, _), (0, _), (1, _), (2, _), (3, _)]) C (dk oX10_asks 43 rfl) (by decide) rfl ?_
            refine r_aload_n C 2 (dk oX10_asks 44 rfl) rfl ?_
            refine r_ivi C Z (dk oX10_asks 45 rfl) cl_X10_272 ci_X10_pop rfl (km hn rfl) (c_X10_pop hn (up2 I1 117 39 (nI (stN (d - 1) F))) J (stN (d - 1) F) (up2_at) (by have := stN_lt (d - 1) F; have : 2 ^ (d - 1) ≤ 2 ^ 20 := Nat.pow_le_pow_right (by decide) (by omega); omega)) rfl rfl (Nat.le_of_ble_eq_true rfl) ⟨Nat.le_of_ble_eq_true rfl, Nat.le_of_ble_eq_true rfl⟩ ⟨Nat.zero_le _, Nat.zero_le _⟩ (fun r83 I83 J83 h83 => ?_)
            obtain ⟨h83, e1_, e2_⟩ := h83
            have e1_ := e1_.symm
            have e2_ := e2_.symm
            subst e1_
            subst e2_
            subst h83
            rw [(stN_pop (d := d - 1) (f := F) (by omega)).1, (stN_pop (d := d - 1) (f := F) (by omega)).2]
            refine r_istore (lo' := [(6, _), (5, _), (4, _), (0, _), (1, _), (2, _), (3, _)]) C (dk oX10_asks 46 rfl) (by decide) rfl ?_
            refine r_aload_n C 3 (dk oX10_asks 47 rfl) rfl ?_
            refine r_iload C 2 (dk oX10_asks 48 rfl) rfl ?_
            refine r_bipush C (dk oX10_asks 49 rfl) (v := nI 101) (by decide) ?_
            refine r_icmp_ne (tgt := 114) C (dk oX10_asks 50 rfl) (by decide) (fun hb93 => ?_) (fun hb93 => ?_)
            · simp (disch := omega) only [nI_leI, nI_ltI, nI_eq, nI_eq0] at hb93
              have hb93x : ¬ (C_.getD i_ 0) = 13 := fun q => hb93 ((enc_13 hx15).mpr q)
              refine r_iload C 0 (dk oX10_asks 59 rfl) rfl ?_
              refine r_if_ne (tgt := 124) C (dk oX10_asks 60 rfl) (by decide) (fun hb116 => ?_) (fun hb116 => ?_)
              · rw [b32_n] at hb116
                refine r_iconst C (dk oX10_asks 63 rfl) (v := nI 1) (by decide) ?_
                refine r_topI (show nI 1 = b32 (F (d - 2) || F (d - 1)) from by
                  rw [show d - 2 = d - 1 - 1 by omega]
                  first
                    | (rw [hb116]; rfl)
                    | (rw [hb121, Bool.or_true]; rfl)) ?_
                refine r_goto (tgt := 129) C (dk oX10_asks 64 rfl) (by decide) ?_
                refine r_ivv C Z (dk oX10_asks 66 rfl) cl_X10_268 ci_X10_lay rfl (km hn rfl) (c_X10_lay hn _ J (stN (d - 1 - 1) F) up2_at _) rfl rfl (Nat.le_of_ble_eq_true rfl) ⟨Nat.le_of_ble_eq_true rfl, Nat.le_of_ble_eq_true rfl⟩ ⟨Nat.zero_le _, Nat.zero_le _⟩ (fun I129 J129 h129 => ?_)
                obtain ⟨e1_, e2_⟩ := h129
                have e1_ := e1_.symm
                have e2_ := e2_.symm
                subst e1_
                subst e2_
                rw [stN_lay, show d - 1 - 1 + 1 = d - 1 by omega]
                refine r_iinc (lo' := [(3, _), (6, _), (5, _), (4, _), (0, _), (1, _), (2, _)]) C 6 (dk oX10_asks 67 rfl) rfl (by first | exact nI_inc _ | rfl) (by decide) rfl ?_
                refine r_goto (tgt := 7) C (dk oX10_asks 68 rfl) (by decide) ?_
                refine V.sub [4, 5, 6, 0] rfl ?_
                first
                  | (refine ih (i_ + 1) (d + 1) (fun j => if j = d then so.testBit (C_.getD i_ 0) else F j) _ (by omega) (by omega) hdq.1 hdq.2 ?_ up2_at (hsk.up _)
                     rw [hev, hdr]
                     conv => lhs; unfold evF
                     rw [if_pos hb34x])
                  | (refine ih (i_ + 1) d (fun j => if j = d - 1 then !(F j) else F j) _ (by omega) (by omega) hd hdq.2 ?_ ?_ ((hsk.up _).up _)
                     · rw [hev, hdr]
                       conv => lhs; unfold evF
                       rw [if_neg hb34x, if_pos hb54x]
                     · rw [up2_at]
                       congr 1
                       refine stN_cong d _ _ (fun j hj => ?_)
                       by_cases e : j = d - 1
                       · rw [if_pos e, if_pos e, e]
                       · rw [if_neg e, if_neg e])
                  | (refine ih (i_ + 1) (d - 1) (fun j => if j = d - 2 then (if (C_.getD i_ 0) = 13 then F (d - 2) && F (d - 1) else F (d - 2) || F (d - 1)) else F j) _ (by omega) (by omega) (by omega) hdq.2 ?_ ?_ (((hsk.up _).up _).up _)
                     · rw [hev, hdr]
                       conv => lhs; unfold evF
                       rw [if_neg hb34x, if_neg hb54x]
                     · rw [up2_at]
                       congr 1
                       refine stN_cong (d - 1) _ _ (fun j hj => ?_)
                       show (if j = d - 1 - 1 then _ else F j) = if j = d - 2 then _ else F j
                       by_cases e : j = d - 2
                       · rw [if_pos (by omega), if_pos e]
                         first
                           | rw [if_pos hb93x]
                           | rw [if_neg hb93x]
                       · rw [if_neg (by omega), if_neg e])
              · rw [b32_0] at hb116
                refine r_iload C 1 (dk oX10_asks 61 rfl) rfl ?_
                refine r_if_eq (tgt := 128) C (dk oX10_asks 62 rfl) (by decide) (fun hb121 => ?_) (fun hb121 => ?_)
                · rw [b32_0] at hb121
                  refine r_iconst C (dk oX10_asks 65 rfl) (v := nI 0) (by decide) ?_
                  refine r_topI (show nI 0 = b32 (F (d - 2) || F (d - 1)) from by rw [show d - 2 = d - 1 - 1 by omega, hb116, hb121]; rfl) ?_
                  refine r_ivv C Z (dk oX10_asks 66 rfl) cl_X10_268 ci_X10_lay rfl (km hn rfl) (c_X10_lay hn _ J (stN (d - 1 - 1) F) up2_at _) rfl rfl (Nat.le_of_ble_eq_true rfl) ⟨Nat.le_of_ble_eq_true rfl, Nat.le_of_ble_eq_true rfl⟩ ⟨Nat.zero_le _, Nat.zero_le _⟩ (fun I129 J129 h129 => ?_)
                  obtain ⟨e1_, e2_⟩ := h129
                  have e1_ := e1_.symm
                  have e2_ := e2_.symm
                  subst e1_
                  subst e2_
                  rw [stN_lay, show d - 1 - 1 + 1 = d - 1 by omega]
                  refine r_iinc (lo' := [(3, _), (6, _), (5, _), (4, _), (0, _), (1, _), (2, _)]) C 6 (dk oX10_asks 67 rfl) rfl (by first | exact nI_inc _ | rfl) (by decide) rfl ?_
                  refine r_goto (tgt := 7) C (dk oX10_asks 68 rfl) (by decide) ?_
                  refine V.sub [4, 5, 6, 0] rfl ?_
                  first
                    | (refine ih (i_ + 1) (d + 1) (fun j => if j = d then so.testBit (C_.getD i_ 0) else F j) _ (by omega) (by omega) hdq.1 hdq.2 ?_ up2_at (hsk.up _)
                       rw [hev, hdr]
                       conv => lhs; unfold evF
                       rw [if_pos hb34x])
                    | (refine ih (i_ + 1) d (fun j => if j = d - 1 then !(F j) else F j) _ (by omega) (by omega) hd hdq.2 ?_ ?_ ((hsk.up _).up _)
                       · rw [hev, hdr]
                         conv => lhs; unfold evF
                         rw [if_neg hb34x, if_pos hb54x]
                       · rw [up2_at]
                         congr 1
                         refine stN_cong d _ _ (fun j hj => ?_)
                         by_cases e : j = d - 1
                         · rw [if_pos e, if_pos e, e]
                         · rw [if_neg e, if_neg e])
                    | (refine ih (i_ + 1) (d - 1) (fun j => if j = d - 2 then (if (C_.getD i_ 0) = 13 then F (d - 2) && F (d - 1) else F (d - 2) || F (d - 1)) else F j) _ (by omega) (by omega) (by omega) hdq.2 ?_ ?_ (((hsk.up _).up _).up _)
                       · rw [hev, hdr]
                         conv => lhs; unfold evF
                         rw [if_neg hb34x, if_neg hb54x]
                       · rw [up2_at]
                         congr 1
                         refine stN_cong (d - 1) _ _ (fun j hj => ?_)
                         show (if j = d - 1 - 1 then _ else F j) = if j = d - 2 then _ else F j
                         by_cases e : j = d - 2
                         · rw [if_pos (by omega), if_pos e]
                           first
                             | rw [if_pos hb93x]
                             | rw [if_neg hb93x]
                         · rw [if_neg (by omega), if_neg e])
                · rw [b32_n] at hb121
                  refine r_iconst C (dk oX10_asks 63 rfl) (v := nI 1) (by decide) ?_
                  refine r_topI (show nI 1 = b32 (F (d - 2) || F (d - 1)) from by
                    rw [show d - 2 = d - 1 - 1 by omega]
                    first
                      | (rw [hb116]; rfl)
                      | (rw [hb121, Bool.or_true]; rfl)) ?_
                  refine r_goto (tgt := 129) C (dk oX10_asks 64 rfl) (by decide) ?_
                  refine r_ivv C Z (dk oX10_asks 66 rfl) cl_X10_268 ci_X10_lay rfl (km hn rfl) (c_X10_lay hn _ J (stN (d - 1 - 1) F) up2_at _) rfl rfl (Nat.le_of_ble_eq_true rfl) ⟨Nat.le_of_ble_eq_true rfl, Nat.le_of_ble_eq_true rfl⟩ ⟨Nat.zero_le _, Nat.zero_le _⟩ (fun I129 J129 h129 => ?_)
                  obtain ⟨e1_, e2_⟩ := h129
                  have e1_ := e1_.symm
                  have e2_ := e2_.symm
                  subst e1_
                  subst e2_
                  rw [stN_lay, show d - 1 - 1 + 1 = d - 1 by omega]
                  refine r_iinc (lo' := [(3, _), (6, _), (5, _), (4, _), (0, _), (1, _), (2, _)]) C 6 (dk oX10_asks 67 rfl) rfl (by first | exact nI_inc _ | rfl) (by decide) rfl ?_
                  refine r_goto (tgt := 7) C (dk oX10_asks 68 rfl) (by decide) ?_
                  refine V.sub [4, 5, 6, 0] rfl ?_
                  first
                    | (refine ih (i_ + 1) (d + 1) (fun j => if j = d then so.testBit (C_.getD i_ 0) else F j) _ (by omega) (by omega) hdq.1 hdq.2 ?_ up2_at (hsk.up _)
                       rw [hev, hdr]
                       conv => lhs; unfold evF
                       rw [if_pos hb34x])
                    | (refine ih (i_ + 1) d (fun j => if j = d - 1 then !(F j) else F j) _ (by omega) (by omega) hd hdq.2 ?_ ?_ ((hsk.up _).up _)
                       · rw [hev, hdr]
                         conv => lhs; unfold evF
                         rw [if_neg hb34x, if_pos hb54x]
                       · rw [up2_at]
                         congr 1
                         refine stN_cong d _ _ (fun j hj => ?_)
                         by_cases e : j = d - 1
                         · rw [if_pos e, if_pos e, e]
                         · rw [if_neg e, if_neg e])
                    | (refine ih (i_ + 1) (d - 1) (fun j => if j = d - 2 then (if (C_.getD i_ 0) = 13 then F (d - 2) && F (d - 1) else F (d - 2) || F (d - 1)) else F j) _ (by omega) (by omega) (by omega) hdq.2 ?_ ?_ (((hsk.up _).up _).up _)
                       · rw [hev, hdr]
                         conv => lhs; unfold evF
                         rw [if_neg hb34x, if_neg hb54x]
                       · rw [up2_at]
                         congr 1
                         refine stN_cong (d - 1) _ _ (fun j hj => ?_)
                         show (if j = d - 1 - 1 then _ else F j) = if j = d - 2 then _ else F j
                         by_cases e : j = d - 2
                         · rw [if_pos (by omega), if_pos e]
                           first
                             | rw [if_pos hb93x]
                             | rw [if_neg hb93x]
                         · rw [if_neg (by omega), if_neg e])
            · simp (disch := omega) only [nI_leI, nI_ltI, nI_eq, nI_eq0] at hb93
              have hb93x : (C_.getD i_ 0) = 13 := (enc_13 hx15).mp hb93
              refine r_iload C 0 (dk oX10_asks 51 rfl) rfl ?_
              refine r_if_eq (tgt := 110) C (dk oX10_asks 52 rfl) (by decide) (fun hb98 => ?_) (fun hb98 => ?_)
              · rw [b32_0] at hb98
                refine r_iconst C (dk oX10_asks 57 rfl) (v := nI 0) (by decide) ?_
                refine r_topI (show nI 0 = b32 (F (d - 2) && F (d - 1)) from by
                  rw [show d - 2 = d - 1 - 1 by omega]
                  first
                    | (rw [hb98]; rfl)
                    | (rw [hb103, Bool.and_false]; rfl)) ?_
                refine r_goto (tgt := 129) C (dk oX10_asks 58 rfl) (by decide) ?_
                refine r_ivv C Z (dk oX10_asks 66 rfl) cl_X10_268 ci_X10_lay rfl (km hn rfl) (c_X10_lay hn _ J (stN (d - 1 - 1) F) up2_at _) rfl rfl (Nat.le_of_ble_eq_true rfl) ⟨Nat.le_of_ble_eq_true rfl, Nat.le_of_ble_eq_true rfl⟩ ⟨Nat.zero_le _, Nat.zero_le _⟩ (fun I129 J129 h129 => ?_)
                obtain ⟨e1_, e2_⟩ := h129
                have e1_ := e1_.symm
                have e2_ := e2_.symm
                subst e1_
                subst e2_
                rw [stN_lay, show d - 1 - 1 + 1 = d - 1 by omega]
                refine r_iinc (lo' := [(3, _), (6, _), (5, _), (4, _), (0, _), (1, _), (2, _)]) C 6 (dk oX10_asks 67 rfl) rfl (by first | exact nI_inc _ | rfl) (by decide) rfl ?_
                refine r_goto (tgt := 7) C (dk oX10_asks 68 rfl) (by decide) ?_
                refine V.sub [4, 5, 6, 0] rfl ?_
                first
                  | (refine ih (i_ + 1) (d + 1) (fun j => if j = d then so.testBit (C_.getD i_ 0) else F j) _ (by omega) (by omega) hdq.1 hdq.2 ?_ up2_at (hsk.up _)
                     rw [hev, hdr]
                     conv => lhs; unfold evF
                     rw [if_pos hb34x])
                  | (refine ih (i_ + 1) d (fun j => if j = d - 1 then !(F j) else F j) _ (by omega) (by omega) hd hdq.2 ?_ ?_ ((hsk.up _).up _)
                     · rw [hev, hdr]
                       conv => lhs; unfold evF
                       rw [if_neg hb34x, if_pos hb54x]
                     · rw [up2_at]
                       congr 1
                       refine stN_cong d _ _ (fun j hj => ?_)
                       by_cases e : j = d - 1
                       · rw [if_pos e, if_pos e, e]
                       · rw [if_neg e, if_neg e])
                  | (refine ih (i_ + 1) (d - 1) (fun j => if j = d - 2 then (if (C_.getD i_ 0) = 13 then F (d - 2) && F (d - 1) else F (d - 2) || F (d - 1)) else F j) _ (by omega) (by omega) (by omega) hdq.2 ?_ ?_ (((hsk.up _).up _).up _)
                     · rw [hev, hdr]
                       conv => lhs; unfold evF
                       rw [if_neg hb34x, if_neg hb54x]
                     · rw [up2_at]
                       congr 1
                       refine stN_cong (d - 1) _ _ (fun j hj => ?_)
                       show (if j = d - 1 - 1 then _ else F j) = if j = d - 2 then _ else F j
                       by_cases e : j = d - 2
                       · rw [if_pos (by omega), if_pos e]
                         first
                           | rw [if_pos hb93x]
                           | rw [if_neg hb93x]
                       · rw [if_neg (by omega), if_neg e])
              · rw [b32_n] at hb98
                refine r_iload C 1 (dk oX10_asks 53 rfl) rfl ?_
                refine r_if_eq (tgt := 110) C (dk oX10_asks 54 rfl) (by decide) (fun hb103 => ?_) (fun hb103 => ?_)
                · rw [b32_0] at hb103
                  refine r_iconst C (dk oX10_asks 57 rfl) (v := nI 0) (by decide) ?_
                  refine r_topI (show nI 0 = b32 (F (d - 2) && F (d - 1)) from by
                    rw [show d - 2 = d - 1 - 1 by omega]
                    first
                      | (rw [hb98]; rfl)
                      | (rw [hb103, Bool.and_false]; rfl)) ?_
                  refine r_goto (tgt := 129) C (dk oX10_asks 58 rfl) (by decide) ?_
                  refine r_ivv C Z (dk oX10_asks 66 rfl) cl_X10_268 ci_X10_lay rfl (km hn rfl) (c_X10_lay hn _ J (stN (d - 1 - 1) F) up2_at _) rfl rfl (Nat.le_of_ble_eq_true rfl) ⟨Nat.le_of_ble_eq_true rfl, Nat.le_of_ble_eq_true rfl⟩ ⟨Nat.zero_le _, Nat.zero_le _⟩ (fun I129 J129 h129 => ?_)
                  obtain ⟨e1_, e2_⟩ := h129
                  have e1_ := e1_.symm
                  have e2_ := e2_.symm
                  subst e1_
                  subst e2_
                  rw [stN_lay, show d - 1 - 1 + 1 = d - 1 by omega]
                  refine r_iinc (lo' := [(3, _), (6, _), (5, _), (4, _), (0, _), (1, _), (2, _)]) C 6 (dk oX10_asks 67 rfl) rfl (by first | exact nI_inc _ | rfl) (by decide) rfl ?_
                  refine r_goto (tgt := 7) C (dk oX10_asks 68 rfl) (by decide) ?_
                  refine V.sub [4, 5, 6, 0] rfl ?_
                  first
                    | (refine ih (i_ + 1) (d + 1) (fun j => if j = d then so.testBit (C_.getD i_ 0) else F j) _ (by omega) (by omega) hdq.1 hdq.2 ?_ up2_at (hsk.up _)
                       rw [hev, hdr]
                       conv => lhs; unfold evF
                       rw [if_pos hb34x])
                    | (refine ih (i_ + 1) d (fun j => if j = d - 1 then !(F j) else F j) _ (by omega) (by omega) hd hdq.2 ?_ ?_ ((hsk.up _).up _)
                       · rw [hev, hdr]
                         conv => lhs; unfold evF
                         rw [if_neg hb34x, if_pos hb54x]
                       · rw [up2_at]
                         congr 1
                         refine stN_cong d _ _ (fun j hj => ?_)
                         by_cases e : j = d - 1
                         · rw [if_pos e, if_pos e, e]
                         · rw [if_neg e, if_neg e])
                    | (refine ih (i_ + 1) (d - 1) (fun j => if j = d - 2 then (if (C_.getD i_ 0) = 13 then F (d - 2) && F (d - 1) else F (d - 2) || F (d - 1)) else F j) _ (by omega) (by omega) (by omega) hdq.2 ?_ ?_ (((hsk.up _).up _).up _)
                       · rw [hev, hdr]
                         conv => lhs; unfold evF
                         rw [if_neg hb34x, if_neg hb54x]
                       · rw [up2_at]
                         congr 1
                         refine stN_cong (d - 1) _ _ (fun j hj => ?_)
                         show (if j = d - 1 - 1 then _ else F j) = if j = d - 2 then _ else F j
                         by_cases e : j = d - 2
                         · rw [if_pos (by omega), if_pos e]
                           first
                             | rw [if_pos hb93x]
                             | rw [if_neg hb93x]
                         · rw [if_neg (by omega), if_neg e])
                · rw [b32_n] at hb103
                  refine r_iconst C (dk oX10_asks 55 rfl) (v := nI 1) (by decide) ?_
                  refine r_topI (show nI 1 = b32 (F (d - 2) && F (d - 1)) from by rw [show d - 2 = d - 1 - 1 by omega, hb98, hb103]; rfl) ?_
                  refine r_goto (tgt := 129) C (dk oX10_asks 56 rfl) (by decide) ?_
                  refine r_ivv C Z (dk oX10_asks 66 rfl) cl_X10_268 ci_X10_lay rfl (km hn rfl) (c_X10_lay hn _ J (stN (d - 1 - 1) F) up2_at _) rfl rfl (Nat.le_of_ble_eq_true rfl) ⟨Nat.le_of_ble_eq_true rfl, Nat.le_of_ble_eq_true rfl⟩ ⟨Nat.zero_le _, Nat.zero_le _⟩ (fun I129 J129 h129 => ?_)
                  obtain ⟨e1_, e2_⟩ := h129
                  have e1_ := e1_.symm
                  have e2_ := e2_.symm
                  subst e1_
                  subst e2_
                  rw [stN_lay, show d - 1 - 1 + 1 = d - 1 by omega]
                  refine r_iinc (lo' := [(3, _), (6, _), (5, _), (4, _), (0, _), (1, _), (2, _)]) C 6 (dk oX10_asks 67 rfl) rfl (by first | exact nI_inc _ | rfl) (by decide) rfl ?_
                  refine r_goto (tgt := 7) C (dk oX10_asks 68 rfl) (by decide) ?_
                  refine V.sub [4, 5, 6, 0] rfl ?_
                  first
                    | (refine ih (i_ + 1) (d + 1) (fun j => if j = d then so.testBit (C_.getD i_ 0) else F j) _ (by omega) (by omega) hdq.1 hdq.2 ?_ up2_at (hsk.up _)
                       rw [hev, hdr]
                       conv => lhs; unfold evF
                       rw [if_pos hb34x])
                    | (refine ih (i_ + 1) d (fun j => if j = d - 1 then !(F j) else F j) _ (by omega) (by omega) hd hdq.2 ?_ ?_ ((hsk.up _).up _)
                       · rw [hev, hdr]
                         conv => lhs; unfold evF
                         rw [if_neg hb34x, if_pos hb54x]
                       · rw [up2_at]
                         congr 1
                         refine stN_cong d _ _ (fun j hj => ?_)
                         by_cases e : j = d - 1
                         · rw [if_pos e, if_pos e, e]
                         · rw [if_neg e, if_neg e])
                    | (refine ih (i_ + 1) (d - 1) (fun j => if j = d - 2 then (if (C_.getD i_ 0) = 13 then F (d - 2) && F (d - 1) else F (d - 2) || F (d - 1)) else F j) _ (by omega) (by omega) (by omega) hdq.2 ?_ ?_ (((hsk.up _).up _).up _)
                       · rw [hev, hdr]
                         conv => lhs; unfold evF
                         rw [if_neg hb34x, if_neg hb54x]
                       · rw [up2_at]
                         congr 1
                         refine stN_cong (d - 1) _ _ (fun j hj => ?_)
                         show (if j = d - 1 - 1 then _ else F j) = if j = d - 2 then _ else F j
                         by_cases e : j = d - 2
                         · rw [if_pos (by omega), if_pos e]
                           first
                             | rw [if_pos hb93x]
                             | rw [if_neg hb93x]
                         · rw [if_neg (by omega), if_neg e])
          · simp (disch := omega) only [nI_leI, nI_ltI, nI_eq, nI_eq0] at hb54
            have hb54x : (C_.getD i_ 0) = 12 := (enc_12 hx15).mp hb54
            rw [if_pos hb54x] at hdq
            refine r_aload_n C 1 (dk oX10_asks 32 rfl) rfl ?_
            refine r_aload_n C 1 (dk oX10_asks 33 rfl) rfl ?_
            refine r_ivi C Z (dk oX10_asks 34 rfl) cl_X10_272 ci_X10_pop rfl (km hn rfl) (c_X10_pop hn I1 J (stN (d) F) (hst) (by have := stN_lt (d) F; have : 2 ^ (d) ≤ 2 ^ 20 := Nat.pow_le_pow_right (by decide) (by omega); omega)) rfl rfl (Nat.le_of_ble_eq_true rfl) ⟨Nat.le_of_ble_eq_true rfl, Nat.le_of_ble_eq_true rfl⟩ ⟨Nat.zero_le _, Nat.zero_le _⟩ (fun r59 I59 J59 h59 => ?_)
            obtain ⟨h59, e1_, e2_⟩ := h59
            have e1_ := e1_.symm
            have e2_ := e2_.symm
            subst e1_
            subst e2_
            subst h59
            rw [(stN_pop (d := d) (f := F) hdq.1).1, (stN_pop (d := d) (f := F) hdq.1).2]
            refine r_if_ne (tgt := 69) C (dk oX10_asks 35 rfl) (by decide) (fun hb62 => ?_) (fun hb62 => ?_)
            · rw [b32_n] at hb62
              refine r_iconst C (dk oX10_asks 38 rfl) (v := nI 0) (by decide) ?_
              refine r_topI (show nI 0 = b32 (!(F (d - 1))) from by rw [hb62]; rfl) ?_
              refine r_ivv C Z (dk oX10_asks 39 rfl) cl_X10_268 ci_X10_lay rfl (km hn rfl) (c_X10_lay hn (up2 I1 117 39 (nI (stN (d - 1) F))) J (stN (d - 1) F) up2_at (!(F (d - 1)))) rfl rfl (Nat.le_of_ble_eq_true rfl) ⟨Nat.le_of_ble_eq_true rfl, Nat.le_of_ble_eq_true rfl⟩ ⟨Nat.zero_le _, Nat.zero_le _⟩ (fun I70 J70 h70 => ?_)
              obtain ⟨e1_, e2_⟩ := h70
              have e1_ := e1_.symm
              have e2_ := e2_.symm
              subst e1_
              subst e2_
              rw [stN_lay, show d - 1 + 1 = d by omega]
              refine r_goto (tgt := 132) C (dk oX10_asks 40 rfl) (by decide) ?_
              refine r_iinc (lo' := [(3, _), (4, _), (0, _), (1, _), (2, _)]) C 4 (dk oX10_asks 67 rfl) rfl (by first | exact nI_inc _ | rfl) (by decide) rfl ?_
              refine r_goto (tgt := 7) C (dk oX10_asks 68 rfl) (by decide) ?_
              refine V.sub [2, 3, 4, 0] rfl ?_
              first
                | (refine ih (i_ + 1) (d + 1) (fun j => if j = d then so.testBit (C_.getD i_ 0) else F j) _ (by omega) (by omega) hdq.1 hdq.2 ?_ up2_at (hsk.up _)
                   rw [hev, hdr]
                   conv => lhs; unfold evF
                   rw [if_pos hb34x])
                | (refine ih (i_ + 1) d (fun j => if j = d - 1 then !(F j) else F j) _ (by omega) (by omega) hd hdq.2 ?_ ?_ ((hsk.up _).up _)
                   · rw [hev, hdr]
                     conv => lhs; unfold evF
                     rw [if_neg hb34x, if_pos hb54x]
                   · rw [up2_at]
                     congr 1
                     refine stN_cong d _ _ (fun j hj => ?_)
                     by_cases e : j = d - 1
                     · rw [if_pos e, if_pos e, e]
                     · rw [if_neg e, if_neg e])
                | (refine ih (i_ + 1) (d - 1) (fun j => if j = d - 2 then (if (C_.getD i_ 0) = 13 then F (d - 2) && F (d - 1) else F (d - 2) || F (d - 1)) else F j) _ (by omega) (by omega) (by omega) hdq.2 ?_ ?_ (((hsk.up _).up _).up _)
                   · rw [hev, hdr]
                     conv => lhs; unfold evF
                     rw [if_neg hb34x, if_neg hb54x]
                   · rw [up2_at]
                     congr 1
                     refine stN_cong (d - 1) _ _ (fun j hj => ?_)
                     show (if j = d - 1 - 1 then _ else F j) = if j = d - 2 then _ else F j
                     by_cases e : j = d - 2
                     · rw [if_pos (by omega), if_pos e]
                       first
                         | rw [if_pos hb93x]
                         | rw [if_neg hb93x]
                     · rw [if_neg (by omega), if_neg e])
            · rw [b32_0] at hb62
              refine r_iconst C (dk oX10_asks 36 rfl) (v := nI 1) (by decide) ?_
              refine r_topI (show nI 1 = b32 (!(F (d - 1))) from by rw [hb62]; rfl) ?_
              refine r_goto (tgt := 70) C (dk oX10_asks 37 rfl) (by decide) ?_
              refine r_ivv C Z (dk oX10_asks 39 rfl) cl_X10_268 ci_X10_lay rfl (km hn rfl) (c_X10_lay hn (up2 I1 117 39 (nI (stN (d - 1) F))) J (stN (d - 1) F) up2_at (!(F (d - 1)))) rfl rfl (Nat.le_of_ble_eq_true rfl) ⟨Nat.le_of_ble_eq_true rfl, Nat.le_of_ble_eq_true rfl⟩ ⟨Nat.zero_le _, Nat.zero_le _⟩ (fun I70 J70 h70 => ?_)
              obtain ⟨e1_, e2_⟩ := h70
              have e1_ := e1_.symm
              have e2_ := e2_.symm
              subst e1_
              subst e2_
              rw [stN_lay, show d - 1 + 1 = d by omega]
              refine r_goto (tgt := 132) C (dk oX10_asks 40 rfl) (by decide) ?_
              refine r_iinc (lo' := [(3, _), (4, _), (0, _), (1, _), (2, _)]) C 4 (dk oX10_asks 67 rfl) rfl (by first | exact nI_inc _ | rfl) (by decide) rfl ?_
              refine r_goto (tgt := 7) C (dk oX10_asks 68 rfl) (by decide) ?_
              refine V.sub [2, 3, 4, 0] rfl ?_
              first
                | (refine ih (i_ + 1) (d + 1) (fun j => if j = d then so.testBit (C_.getD i_ 0) else F j) _ (by omega) (by omega) hdq.1 hdq.2 ?_ up2_at (hsk.up _)
                   rw [hev, hdr]
                   conv => lhs; unfold evF
                   rw [if_pos hb34x])
                | (refine ih (i_ + 1) d (fun j => if j = d - 1 then !(F j) else F j) _ (by omega) (by omega) hd hdq.2 ?_ ?_ ((hsk.up _).up _)
                   · rw [hev, hdr]
                     conv => lhs; unfold evF
                     rw [if_neg hb34x, if_pos hb54x]
                   · rw [up2_at]
                     congr 1
                     refine stN_cong d _ _ (fun j hj => ?_)
                     by_cases e : j = d - 1
                     · rw [if_pos e, if_pos e, e]
                     · rw [if_neg e, if_neg e])
                | (refine ih (i_ + 1) (d - 1) (fun j => if j = d - 2 then (if (C_.getD i_ 0) = 13 then F (d - 2) && F (d - 1) else F (d - 2) || F (d - 1)) else F j) _ (by omega) (by omega) (by omega) hdq.2 ?_ ?_ (((hsk.up _).up _).up _)
                   · rw [hev, hdr]
                     conv => lhs; unfold evF
                     rw [if_neg hb34x, if_neg hb54x]
                   · rw [up2_at]
                     congr 1
                     refine stN_cong (d - 1) _ _ (fun j hj => ?_)
                     show (if j = d - 1 - 1 then _ else F j) = if j = d - 2 then _ else F j
                     by_cases e : j = d - 2
                     · rw [if_pos (by omega), if_pos e]
                       first
                         | rw [if_pos hb93x]
                         | rw [if_neg hb93x]
                     · rw [if_neg (by omega), if_neg e])
        · simp (disch := omega) only [nI_leI, nI_ltI, nI_eq, nI_eq0] at hb34
          have hb34x : (C_.getD i_ 0) < 12 := (enc_lt hx15).mp (by omega)
          rw [if_pos hb34x] at hdq
          rw [enc_id hb34x]
          refine r_aload_n C 1 (dk oX10_asks 23 rfl) rfl ?_
          refine r_iload_n C 3 (dk oX10_asks 24 rfl) rfl ?_
          refine r_iload C 0 (dk oX10_asks 25 rfl) rfl ?_
          refine r_isi C Z (dk oX10_asks 26 rfl) cl_X10_231 st_X10_has (c_X10_has I1 J (so) ((C_.getD i_ 0)) (by omega) (by omega)) rfl rfl (Nat.le_of_ble_eq_true rfl) ⟨Nat.le_of_ble_eq_true rfl, Nat.le_of_ble_eq_true rfl⟩ ⟨Nat.zero_le _, Nat.zero_le _⟩ (fun r41 I41 J41 h41 => ?_)
          obtain ⟨h41, e1_, e2_⟩ := h41
          have e1_ := e1_.symm
          have e2_ := e2_.symm
          subst e1_
          subst e2_
          subst h41
          refine r_ivv C Z (dk oX10_asks 27 rfl) cl_X10_268 ci_X10_lay rfl (km hn rfl) (c_X10_lay hn I1 J (stN d F) hst (so.testBit (C_.getD i_ 0))) rfl rfl (Nat.le_of_ble_eq_true rfl) ⟨Nat.le_of_ble_eq_true rfl, Nat.le_of_ble_eq_true rfl⟩ ⟨Nat.zero_le _, Nat.zero_le _⟩ (fun I44 J44 h44 => ?_)
          obtain ⟨e1_, e2_⟩ := h44
          have e1_ := e1_.symm
          have e2_ := e2_.symm
          subst e1_
          subst e2_
          rw [stN_lay]
          refine r_goto (tgt := 132) C (dk oX10_asks 28 rfl) (by decide) ?_
          refine r_iinc (lo' := [(3, _), (4, _), (0, _), (1, _), (2, _)]) C 4 (dk oX10_asks 67 rfl) rfl (by first | exact nI_inc _ | rfl) (by decide) rfl ?_
          refine r_goto (tgt := 7) C (dk oX10_asks 68 rfl) (by decide) ?_
          refine V.sub [2, 3, 4, 0] rfl ?_
          first
            | (refine ih (i_ + 1) (d + 1) (fun j => if j = d then so.testBit (C_.getD i_ 0) else F j) _ (by omega) (by omega) hdq.1 hdq.2 ?_ up2_at (hsk.up _)
               rw [hev, hdr]
               conv => lhs; unfold evF
               rw [if_pos hb34x])
            | (refine ih (i_ + 1) d (fun j => if j = d - 1 then !(F j) else F j) _ (by omega) (by omega) hd hdq.2 ?_ ?_ ((hsk.up _).up _)
               · rw [hev, hdr]
                 conv => lhs; unfold evF
                 rw [if_neg hb34x, if_pos hb54x]
               · rw [up2_at]
                 congr 1
                 refine stN_cong d _ _ (fun j hj => ?_)
                 by_cases e : j = d - 1
                 · rw [if_pos e, if_pos e, e]
                 · rw [if_neg e, if_neg e])
            | (refine ih (i_ + 1) (d - 1) (fun j => if j = d - 2 then (if (C_.getD i_ 0) = 13 then F (d - 2) && F (d - 1) else F (d - 2) || F (d - 1)) else F j) _ (by omega) (by omega) (by omega) hdq.2 ?_ ?_ (((hsk.up _).up _).up _)
               · rw [hev, hdr]
                 conv => lhs; unfold evF
                 rw [if_neg hb34x, if_neg hb54x]
               · rw [up2_at]
                 congr 1
                 refine stN_cong (d - 1) _ _ (fun j hj => ?_)
                 show (if j = d - 1 - 1 then _ else F j) = if j = d - 2 then _ else F j
                 by_cases e : j = d - 2
                 · rw [if_pos (by omega), if_pos e]
                   first
                     | rw [if_pos hb93x]
                     | rw [if_neg hb93x]
                 · rw [if_neg (by omega), if_neg e])
  refine V.sub [1, 2, 3, 0] rfl ?_
  exact L7 (C_.length + 1) 0 0 (fun _ => false) _ (by omega) (Nat.zero_le _) (by omega) hC4 rfl up2_at ((skF.rf I).up _)

set_option maxHeartbeats 1000000 in
set_option maxRecDepth 100000 in
theorem c_X10_findCases (hn : 148 ≤ n) (I : MI) (J : MJ) (c_ : Nat) (C_ : List Nat) (hc : c_ < 6) (hC : MCd I c_ C_) : Cv l n ad cA D z 3 yX10_findCases cX10_findCases 3 I J [.ref (ad 117), .int (nI c_)] (fun I' J' => (∀ s, s < 4096 → I' 144 s = b32 (evC C_ s)) ∧ (∀ k, k ≠ 117 → k ≠ 144 → I' k = I k) ∧ (∀ i, i ≠ 39 → I' 117 i = I 117 i) ∧ J' = J) := by
  refine Cv.of (by decide) (Nat.le_of_ble_eq_true rfl) ?_
  intro p e s m args below meth c A C hin Z Q hret
  refine r_iconst C (dk oX10_findCases 0 rfl) (v := nI 0) (by decide) ?_
  refine r_istore_n (lo' := [(2, _), (0, _), (1, _)]) C (dk oX10_findCases 1 rfl) rfl (by decide) rfl ?_
  have L2 : ∀ (d_ : Nat) (s_ : Nat) (I1 : MI), 4096 - s_ < d_ → s_ ≤ 4096 → (∀ s, s < s_ → I1 144 s = b32 (evC C_ s)) → (∀ k, k ≠ 117 → k ≠ 144 → I1 k = I k) → (∀ i, i ≠ 39 → I1 117 i = I 117 i) → V p l e (rmL 3) s m args below meth c Q D A 3 0 0 n ad (mE cA ad I1 J) 2 [(0, .ref (ad 117)), (1, .int (nI c_)), (2, .int (nI s_))] [] := by
    intro d_
    induction d_ with
    | zero => intros; exact absurd (by assumption) (Nat.not_lt_zero _)
    | succ d_ ih => 
      intro s_ I1 hd_ hs hH hO1 hO2
      refine r_iload_n C 2 (dk oX10_findCases 2 rfl) rfl ?_
      refine r_sipush C (dk oX10_findCases 3 rfl) (v := nI 4096) (by decide) ?_
      refine r_icmp_ge (tgt := 27) C (dk oX10_findCases 4 rfl) (by decide) (fun hb6 => ?_) (fun hb6 => ?_)
      · simp (disch := omega) only [nI_leI, nI_ltI, nI_eq, nI_eq0] at hb6
        refine hret (dk oX10_findCases 15 rfl) ?_
        exact ⟨fun s hs2 => hH s (by omega), hO1, hO2, rfl⟩
      · simp (disch := omega) only [nI_leI, nI_ltI, nI_eq, nI_eq0] at hb6
        refine r_aload_n C 0 (dk oX10_findCases 5 rfl) rfl ?_
        refine r_getR C (dk oX10_findCases 6 rfl) fl_X10_93 rfl (km hn rfl) ?_
        refine r_iload_n C 2 (dk oX10_findCases 7 rfl) rfl ?_
        refine r_aload_n C 0 (dk oX10_findCases 8 rfl) rfl ?_
        refine r_iload_n C 1 (dk oX10_findCases 9 rfl) rfl ?_
        refine r_iload_n C 2 (dk oX10_findCases 10 rfl) rfl ?_
        refine r_ivi C Z (dk oX10_findCases 11 rfl) cl_X10_275 ci_X10_asks rfl (km hn rfl) (c_X10_asks hn I1 J c_ s_ C_ hc (by omega) (hC.of (hO1 120 (by decide) (by decide)) (hO1 121 (by decide) (by decide)))) rfl rfl (Nat.le_of_ble_eq_true rfl) ⟨Nat.le_of_ble_eq_true rfl, Nat.le_of_ble_eq_true rfl⟩ ⟨Nat.zero_le _, Nat.zero_le _⟩ (fun r17 I17 J17 h17 => ?_)
        obtain ⟨e1_, hsk, e2_⟩ := h17
        have e1_ := e1_.symm
        have e2_ := e2_.symm
        subst e1_
        subst e2_
        refine r_zast C _ (dk oX10_findCases 12 rfl) rfl (km hn rfl) rfl (by omega) (by decide) (b32_or _) ?_
        refine r_iinc (lo' := [(2, _), (0, _), (1, _)]) C 2 (dk oX10_findCases 13 rfl) rfl (by first | exact nI_inc _ | rfl) (by decide) rfl ?_
        refine r_goto (tgt := 2) C (dk oX10_findCases 14 rfl) (by decide) ?_
        refine V.sub [1, 2, 0] rfl ?_
        refine ih (s_ + 1) _ (by omega) (by omega) (fun s hs2 => ?_) (fun k a b => by rw [up2_ne b, hsk.1 k a]; exact hO1 k a b) (fun i hi => by rw [up2_ne (by decide), hsk.2 i hi]; exact hO2 i hi)
        by_cases e : s = s_
        · rw [e, up2_at]
        · rw [up2_off e, hsk.1 144 (by decide)]; exact hH s (by omega)
  refine V.sub [1, 2, 0] rfl ?_
  exact L2 4097 0 I (by omega) (Nat.zero_le _) (fun s hs => absurd hs (Nat.not_lt_zero _)) (fun _ _ _ => rfl) (fun _ _ => rfl)

end MOD3
