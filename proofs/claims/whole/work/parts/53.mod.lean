section MOD22
variable {l : Launch} {n : Nat} {ad : Nat → Nat} {cA : Nat → ClassId} {D : va_G} {z : Zw}
def icI (t : Nat → Nat) (L p : Nat) (Φ : Nat → FS) (σ : PS) (s0 ks kd : Nat) (g : Bool) (m : Nat) (I1 : MI) : Prop := (g = true ∧ ∃ a1 ac1, m = L + 2 - sk t L a1 ∧ mPS I1 t L p a1 ks ac1 ∧ rchP (stpP t L p Φ) σ (1, sk t L a1, ks, kd, ac1) ∧ s0 < sk t L a1) ∨ mPB t L p Φ σ I1 ∨ (g = false ∧ ∃ a1 ac1, mPS I1 t L p a1 ks ac1 ∧ rchP (stpP t L p Φ) σ (2, sk t L a1, ks, kd, ac1) ∧ isS t L (sk t L a1) 44 = false ∧ s0 < sk t L a1)
theorem mPS.at {I I' : MI} {t : Nat → Nat} {L p a1 ks a2 : Nat} {ac : Nat → Nat} (h : mPS I t L p a1 ks ac) (h1 : ∀ k, k ≠ 117 → I' k = I k) (h2 : ∀ i, i ≠ 26 → i ≠ 27 → i ≠ 28 → I' 117 i = I 117 i) (h26 : I' 117 26 = nI a2) (hL : a2 ≤ L) : mPS I' t L p a2 ks ac := by
  obtain ⟨b1, b2, b3, b4, b5, b6, b7, b8, b9, b10⟩ := h
  exact ⟨b1.of (h2 25 (by decide) (by decide) (by decide)) (h1 141 (by decide)), h26, hL, (h2 29 (by decide) (by decide) (by decide)).trans b4, (h2 30 (by decide) (by decide) (by decide)).trans b5, (h2 36 (by decide) (by decide) (by decide)).trans b6, b7, (h2 37 (by decide) (by decide) (by decide)).trans b8, fun f hf => by rw [h1 125 (by decide)]; exact b9 f hf, b10⟩
set_option maxHeartbeats 1000000 in
set_option maxRecDepth 100000 in
theorem c_X10_takeClause (hn : 148 ≤ n) (I : MI) (J : MJ) (t : Nat → Nat) (L p_ a_ ks k0 : Nat) (ac : Nat → Nat) (hp : p_ < 10) (Φ : Nat → FS) (hM : FcM I 134 Φ) (hok : fsA Φ) (hPS : mPS I t L p_ a_ ks ac) (hsl : sk t L a_ < L) : Cv l n ad cA D z 4 yX10_takeClause cX10_takeClause 4 I J [.ref (ad 117), .int (nI p_)] (fun I' J' => J' = J ∧ mPX p_ I I' ∧ (mPB t L p_ Φ (0, sk t L a_, ks, k0, ac) I' ∨ ∃ a2 ks2 k2 ac2, mPS I' t L p_ a2 ks2 ac2 ∧ rchP (stpP t L p_ Φ) (0, sk t L a_, ks, k0, ac) (0, sk t L a2, ks2, k2, ac2) ∧ sk t L a_ < sk t L a2)) := by
  refine Cv.of (by decide) (Nat.le_of_ble_eq_true rfl) ?_
  intro p e s m args below meth c A C hin Z Q hret
  have hPS0 := hPS
  obtain ⟨hT, h26, haL, h29, h30, h36, hks, h37, hac, hac6⟩ := hPS
  have hsL : sk t L a_ ≤ L := sk_le haL
  have hL := hT.1
  have hkd := @kdOf_lt t L (sk t L a_)
  refine r_aload_n C 0 (dk oX10_takeClause 0 rfl) rfl ?_
  refine r_ivv C Z (dk oX10_takeClause 1 rfl) cl_X10_162 ci_X10_takeWord rfl (km hn rfl) (c_X10_takeWord hn I J t L hT a_ h26 haL) rfl rfl (Nat.le_of_ble_eq_true rfl) ⟨Nat.le_of_ble_eq_true rfl, Nat.le_of_ble_eq_true rfl⟩ ⟨Nat.zero_le _, Nat.zero_le _⟩ (fun I1 J1 h1 => ?_)
  obtain ⟨h26a, h27, h28, hf1, e2_⟩ := h1
  have e2_ := e2_.symm
  subst e2_
  refine r_aload_n C 0 (dk oX10_takeClause 2 rfl) rfl ?_
  refine r_ivi C Z (dk oX10_takeClause 3 rfl) cl_X10_235 ci_X10_kindHere rfl (km hn rfl) (c_X10_kindHere hn I1 J t L (hT.tk hf1) (sk t L a_) h27 hsL h28) rfl rfl (Nat.le_of_ble_eq_true rfl) ⟨Nat.le_of_ble_eq_true rfl, Nat.le_of_ble_eq_true rfl⟩ ⟨Nat.zero_le _, Nat.zero_le _⟩ (fun r5 I5 J5 h5 => ?_)
  obtain ⟨h5, e1_, e2_⟩ := h5
  have e1_ := e1_.symm
  have e2_ := e2_.symm
  subst e1_
  subst e2_
  subst h5
  refine r_istore_n (lo' := [(2, _), (0, _), (1, _)]) C (dk oX10_takeClause 4 rfl) rfl (by decide) rfl ?_
  refine r_aload_n C 1 (dk oX10_takeClause 5 rfl) rfl ?_
  refine r_iload_n C 0 (dk oX10_takeClause 6 rfl) rfl ?_
  refine r_if_le (tgt := 18) C (dk oX10_takeClause 7 rfl) (by decide) (fun hb11 => ?_) (fun hb11 => ?_)
  · rw [show (0 : Int32) = nI 0 from rfl] at hb11
    simp (disch := omega) only [nI_leI, nI_ltI, nI_eq, nI_eq0] at hb11
    refine r_iconst C (dk oX10_takeClause 10 rfl) (v := nI 0) (by decide) ?_
    refine r_topI (show nI 0 = b32 (decide (¬ (kdOf t L (sk t L a_)) = 0)) from b32_df (by omega)) ?_
    refine r_iconst C (dk oX10_takeClause 11 rfl) (v := nI 1) (by decide) ?_
    refine r_aload_n C 1 (dk oX10_takeClause 12 rfl) rfl ?_
    refine r_getI C (dk oX10_takeClause 13 rfl) fl_X10_152 rfl (km hn rfl) ?_
    rw [h27]
    refine r_ivi C Z (dk oX10_takeClause 14 rfl) cl_X10_173 ci_X10_want rfl (km hn rfl) (c_X10_want hn I1 J (decide (¬ (kdOf t L (sk t L a_)) = 0)) (nI 1) (nI (sk t L a_)) (nI 0) ((hf1.2 29 (by decide) (by decide) (by decide)).trans h29)) rfl rfl (Nat.le_of_ble_eq_true rfl) ⟨Nat.le_of_ble_eq_true rfl, Nat.le_of_ble_eq_true rfl⟩ ⟨Nat.zero_le _, Nat.zero_le _⟩ (fun r24 I24 J24 h24 => ?_)
    obtain ⟨e1_, hW24, e2_⟩ := h24
    have e1_ := e1_.symm
    have e2_ := e2_.symm
    subst e1_
    subst e2_
    refine r_if_eq (tgt := 170) C (dk oX10_takeClause 15 rfl) (by decide) (fun hb27 => ?_) (fun hb27 => ?_)
    · rw [b32_0, decide_eq_false_iff_not] at hb27
      have hb27 := want_0 hb27
      have hI24 := want_t hW24 hb27
      subst hI24
      refine hret (dk oX10_takeClause 90 rfl) ?_
      first
        | exact ⟨rfl, ((hf1.P).up 29 _ (by decide)).up 30 _ (by decide), Or.inl ⟨1, _, ks, k0, ac, by decide, by decide, by rw [up2_off (by decide), up2_at], up2_at, rchP.one (pS_k0 hsl (Classical.not_not.mp hb27))⟩⟩
        | exact ⟨rfl, ((hf1.P).up 29 _ (by decide)).up 30 _ (by decide), Or.inl ⟨3, _, ks, k0, ac, by decide, by decide, by rw [up2_off (by decide), up2_at], up2_at, rchP.one (pS_k3 hsl hb27 (by cases h : ks.testBit (kdOf t L (sk t L a_)); exact absurd h hb55; rfl))⟩⟩
        | exact ⟨rfl, ((hX.tr (hereP hhA136 hhB136)).up 29 _ (by decide)).up 30 _ (by decide), Or.inl ⟨1, _, _, _, _, by decide, by decide, by rw [up2_off (by decide), up2_at], up2_at, hr3.then (pS_no h44 hb157)⟩⟩
        | exact ⟨rfl, (hX.tr (hereP hhA136 hhB136)).up 26 _ (by decide), Or.inr ⟨sk t L a3 + 1, _, _, ac3, hPS3.at (fun k hk => by rw [up2_ne hk]; exact hhA136 k hk) (fun i a _ _ => by rw [up2_off a]; exact hhB136 i a) up2_at (by have := isS_l hb157; omega), hr3.then (pS_sc h44 hb157), by have := @sk_ge t L (sk t L a3 + 1); omega⟩⟩
        | (refine ⟨rfl, hX, Or.inl ?_⟩
           rcases hI with ⟨hg, a1, ac1, hm, hPS1, _⟩ | h | ⟨_, a1, ac1, hPS1, _⟩
           · exact absurd hPS1.zf hb131
           · exact h
           · exact absurd hPS1.zf hb131)
    · rw [b32_n, decide_eq_true_eq] at hb27
      have hb27 := want_1 (by decide) hb27
      have hI24 := want_f hW24 hb27
      subst hI24
      have hkw := kdOf_w hb27
      refine r_aload_n C 1 (dk oX10_takeClause 16 rfl) rfl ?_
      refine r_aload_n C 1 (dk oX10_takeClause 17 rfl) rfl ?_
      refine r_getI C (dk oX10_takeClause 18 rfl) fl_X10_238 rfl (km hn rfl) ?_
      rw [hf1.2 36 (by decide) (by decide) (by decide), h36]
      refine r_iload_n C 0 (dk oX10_takeClause 19 rfl) rfl ?_
      refine r_isi C Z (dk oX10_takeClause 20 rfl) cl_X10_231 st_X10_has (c_X10_has I24 J (ks) ((kdOf t L (sk t L a_))) (by omega) (by omega)) rfl rfl (Nat.le_of_ble_eq_true rfl) ⟨Nat.le_of_ble_eq_true rfl, Nat.le_of_ble_eq_true rfl⟩ ⟨Nat.zero_le _, Nat.zero_le _⟩ (fun r36 I36 J36 h36 => ?_)
      obtain ⟨h36, e1_, e2_⟩ := h36
      have e1_ := e1_.symm
      have e2_ := e2_.symm
      subst e1_
      subst e2_
      subst h36
      refine r_if_ne (tgt := 46) C (dk oX10_takeClause 21 rfl) (by decide) (fun hb39 => ?_) (fun hb39 => ?_)
      · rw [b32_n] at hb39
        refine r_iconst C (dk oX10_takeClause 24 rfl) (v := nI 0) (by decide) ?_
        refine r_topI (show nI 0 = b32 (decide (ks.testBit (kdOf t L (sk t L a_)) = false)) from b32_df (by rw [hb39]; decide)) ?_
        refine r_iconst C (dk oX10_takeClause 25 rfl) (v := nI 3) (by decide) ?_
        refine r_aload_n C 1 (dk oX10_takeClause 26 rfl) rfl ?_
        refine r_getI C (dk oX10_takeClause 27 rfl) fl_X10_152 rfl (km hn rfl) ?_
        rw [h27]
        refine r_ivi C Z (dk oX10_takeClause 28 rfl) cl_X10_173 ci_X10_want rfl (km hn rfl) (c_X10_want hn I24 J (decide (ks.testBit (kdOf t L (sk t L a_)) = false)) (nI 3) (nI (sk t L a_)) (nI 0) ((hf1.2 29 (by decide) (by decide) (by decide)).trans h29)) rfl rfl (Nat.le_of_ble_eq_true rfl) ⟨Nat.le_of_ble_eq_true rfl, Nat.le_of_ble_eq_true rfl⟩ ⟨Nat.zero_le _, Nat.zero_le _⟩ (fun r52 I52 J52 h52 => ?_)
        obtain ⟨e1_, hW52, e2_⟩ := h52
        have e1_ := e1_.symm
        have e2_ := e2_.symm
        subst e1_
        subst e2_
        refine r_if_eq (tgt := 170) C (dk oX10_takeClause 29 rfl) (by decide) (fun hb55 => ?_) (fun hb55 => ?_)
        · rw [b32_0, decide_eq_false_iff_not] at hb55
          have hb55 := want_0 hb55
          have hI52 := want_t hW52 hb55
          subst hI52
          refine hret (dk oX10_takeClause 90 rfl) ?_
          first
            | exact ⟨rfl, ((hf1.P).up 29 _ (by decide)).up 30 _ (by decide), Or.inl ⟨1, _, ks, k0, ac, by decide, by decide, by rw [up2_off (by decide), up2_at], up2_at, rchP.one (pS_k0 hsl (Classical.not_not.mp hb27))⟩⟩
            | exact ⟨rfl, ((hf1.P).up 29 _ (by decide)).up 30 _ (by decide), Or.inl ⟨3, _, ks, k0, ac, by decide, by decide, by rw [up2_off (by decide), up2_at], up2_at, rchP.one (pS_k3 hsl hb27 (by cases h : ks.testBit (kdOf t L (sk t L a_)); exact absurd h hb55; rfl))⟩⟩
            | exact ⟨rfl, ((hX.tr (hereP hhA136 hhB136)).up 29 _ (by decide)).up 30 _ (by decide), Or.inl ⟨1, _, _, _, _, by decide, by decide, by rw [up2_off (by decide), up2_at], up2_at, hr3.then (pS_no h44 hb157)⟩⟩
            | exact ⟨rfl, (hX.tr (hereP hhA136 hhB136)).up 26 _ (by decide), Or.inr ⟨sk t L a3 + 1, _, _, ac3, hPS3.at (fun k hk => by rw [up2_ne hk]; exact hhA136 k hk) (fun i a _ _ => by rw [up2_off a]; exact hhB136 i a) up2_at (by have := isS_l hb157; omega), hr3.then (pS_sc h44 hb157), by have := @sk_ge t L (sk t L a3 + 1); omega⟩⟩
            | (refine ⟨rfl, hX, Or.inl ?_⟩
               rcases hI with ⟨hg, a1, ac1, hm, hPS1, _⟩ | h | ⟨_, a1, ac1, hPS1, _⟩
               · exact absurd hPS1.zf hb131
               · exact h
               · exact absurd hPS1.zf hb131)
        · rw [b32_n, decide_eq_true_eq] at hb55
          have hb55 := want_1 (by decide) hb55
          have hI52 := want_f hW52 hb55
          subst hI52
          refine r_aload_n C 1 (dk oX10_takeClause 30 rfl) rfl ?_
          refine r_dup C (dk oX10_takeClause 31 rfl) rfl ?_
          refine r_getI C (dk oX10_takeClause 32 rfl) fl_X10_238 rfl (km hn rfl) ?_
          rw [hf1.2 36 (by decide) (by decide) (by decide), h36]
          refine r_iconst C (dk oX10_takeClause 33 rfl) (v := nI 1) (by decide) ?_
          refine r_iload_n C 0 (dk oX10_takeClause 34 rfl) rfl ?_
          refine r_ishl C (dk oX10_takeClause 35 rfl) ?_
          refine r_ior C (dk oX10_takeClause 36 rfl) ?_
          rw [or_bit (by omega)]
          refine r_putI C (dk oX10_takeClause 37 rfl) fl_X10_238 ft_10_36 rfl (km hn rfl) ?_
          refine r_iconst C (dk oX10_takeClause 38 rfl) (v := nI 1) (by decide) ?_
          refine r_istore_n (lo' := [(3, _), (2, _), (0, _), (1, _)]) C (dk oX10_takeClause 39 rfl) rfl (by decide) rfl ?_
          have L72 : ∀ (d_ : Nat) (g : Bool) (m_ : Nat) (Ia : MI), m_ < d_ → mPX p_ I Ia → icI t L p_ Φ (0, sk t L a_, ks, k0, ac) (sk t L a_) (ks ||| 2 ^ (kdOf t L (sk t L a_))) (kdOf t L (sk t L a_)) g m_ Ia → V p l e (rmL 4) s m args below meth c Q D A 4 0 0 n ad (mE cA ad Ia J) 72 [(0, .ref (ad 117)), (1, .int (nI p_)), (2, .int (nI (kdOf t L (sk t L a_)))), (3, .int (b32 g))] [] := by
            intro d_
            induction d_ with
            | zero => intros; exact absurd (by assumption) (Nat.not_lt_zero _)
            | succ d_ ih => 
              intro g m_ Ia hd_ hX hI
              refine r_iload_n C 3 (dk oX10_takeClause 40 rfl) rfl ?_
              refine r_if_eq (tgt := 127) C (dk oX10_takeClause 41 rfl) (by decide) (fun hb73 => ?_) (fun hb73 => ?_)
              · refine r_aload_n C 0 (dk oX10_takeClause 68 rfl) rfl ?_
                refine r_getI C (dk oX10_takeClause 69 rfl) fl_X10_145 rfl (km hn rfl) ?_
                refine r_if_ne (tgt := 170) C (dk oX10_takeClause 70 rfl) (by decide) (fun hb131 => ?_) (fun hb131 => ?_)
                · skip
                  refine hret (dk oX10_takeClause 90 rfl) ?_
                  first
                    | exact ⟨rfl, ((hf1.P).up 29 _ (by decide)).up 30 _ (by decide), Or.inl ⟨1, _, ks, k0, ac, by decide, by decide, by rw [up2_off (by decide), up2_at], up2_at, rchP.one (pS_k0 hsl (Classical.not_not.mp hb27))⟩⟩
                    | exact ⟨rfl, ((hf1.P).up 29 _ (by decide)).up 30 _ (by decide), Or.inl ⟨3, _, ks, k0, ac, by decide, by decide, by rw [up2_off (by decide), up2_at], up2_at, rchP.one (pS_k3 hsl hb27 (by cases h : ks.testBit (kdOf t L (sk t L a_)); exact absurd h hb55; rfl))⟩⟩
                    | exact ⟨rfl, ((hX.tr (hereP hhA136 hhB136)).up 29 _ (by decide)).up 30 _ (by decide), Or.inl ⟨1, _, _, _, _, by decide, by decide, by rw [up2_off (by decide), up2_at], up2_at, hr3.then (pS_no h44 hb157)⟩⟩
                    | exact ⟨rfl, (hX.tr (hereP hhA136 hhB136)).up 26 _ (by decide), Or.inr ⟨sk t L a3 + 1, _, _, ac3, hPS3.at (fun k hk => by rw [up2_ne hk]; exact hhA136 k hk) (fun i a _ _ => by rw [up2_off a]; exact hhB136 i a) up2_at (by have := isS_l hb157; omega), hr3.then (pS_sc h44 hb157), by have := @sk_ge t L (sk t L a3 + 1); omega⟩⟩
                    | (refine ⟨rfl, hX, Or.inl ?_⟩
                       rcases hI with ⟨hg, a1, ac1, hm, hPS1, _⟩ | h | ⟨_, a1, ac1, hPS1, _⟩
                       · exact absurd hPS1.zf hb131
                       · exact h
                       · exact absurd hPS1.zf hb131)
                · obtain ⟨a3, ac3, hPS3, hr3, h44, hlt3⟩ : ∃ a1 ac1, mPS Ia t L p_ a1 (ks ||| 2 ^ (kdOf t L (sk t L a_))) ac1 ∧ rchP (stpP t L p_ Φ) (0, sk t L a_, ks, k0, ac) (2, sk t L a1, (ks ||| 2 ^ (kdOf t L (sk t L a_))), (kdOf t L (sk t L a_)), ac1) ∧ isS t L (sk t L a1) 44 = false ∧ (sk t L a_) < sk t L a1 := by
                    rcases hI with ⟨hg, a1, ac1, hm, hPS1, _⟩ | h | ⟨_, h⟩
                    · exfalso
                      first
                        | (rw [hg] at hb73; exact absurd hb73 (by decide))
                        | exact hb80 hPS1.zf
                    · exact absurd hb131 h.nz
                    · exact h
                  have hs3 : sk t L a3 ≤ L := sk_le hPS3.2.2.1
                  refine r_aload_n C 0 (dk oX10_takeClause 71 rfl) rfl ?_
                  refine r_aload_n C 0 (dk oX10_takeClause 72 rfl) rfl ?_
                  refine r_ivi C Z (dk oX10_takeClause 73 rfl) cl_X10_148 ci_X10_here rfl (km hn rfl) (c_X10_here hn Ia J t L (hPS3.1) (a3) (hPS3.2.1) (hPS3.2.2.1)) rfl rfl (Nat.le_of_ble_eq_true rfl) ⟨Nat.le_of_ble_eq_true rfl, Nat.le_of_ble_eq_true rfl⟩ ⟨Nat.zero_le _, Nat.zero_le _⟩ (fun r136 I136 J136 h136 => ?_)
                  obtain ⟨e1_, hh136, hhA136, hhB136, e2_⟩ := h136
                  have e1_ := e1_.symm
                  have e2_ := e2_.symm
                  subst e1_
                  subst e2_
                  refine r_bipush C (dk oX10_takeClause 74 rfl) (v := nI 59) (by decide) ?_
                  refine r_icmp_ne (tgt := 148) C (dk oX10_takeClause 75 rfl) (by decide) (fun hb141 => ?_) (fun hb141 => ?_)
                  · rw [hr_c (fun h => (hPS3.1.2.2 _ h).1) (by decide)] at hb141
                    refine r_iconst C (dk oX10_takeClause 78 rfl) (v := nI 0) (by decide) ?_
                    refine r_topI (show nI 0 = b32 (decide (isS t L (sk t L a3) 59 = true)) from b32_df hb141) ?_
                    refine r_iconst C (dk oX10_takeClause 79 rfl) (v := nI 1) (by decide) ?_
                    refine r_aload_n C 0 (dk oX10_takeClause 80 rfl) rfl ?_
                    refine r_getI C (dk oX10_takeClause 81 rfl) fl_X10_142 rfl (km hn rfl) ?_
                    rw [hh136]
                    refine r_ivi C Z (dk oX10_takeClause 82 rfl) cl_X10_173 ci_X10_want rfl (km hn rfl) (c_X10_want hn I136 J (decide (isS t L (sk t L a3) 59 = true)) (nI 1) (nI (sk t L a3)) (nI 0) ((hhB136 29 (by decide)).trans hPS3.2.2.2.1)) rfl rfl (Nat.le_of_ble_eq_true rfl) ⟨Nat.le_of_ble_eq_true rfl, Nat.le_of_ble_eq_true rfl⟩ ⟨Nat.zero_le _, Nat.zero_le _⟩ (fun r154 I154 J154 h154 => ?_)
                    obtain ⟨e1_, hW154, e2_⟩ := h154
                    have e1_ := e1_.symm
                    have e2_ := e2_.symm
                    subst e1_
                    subst e2_
                    refine r_if_eq (tgt := 170) C (dk oX10_takeClause 83 rfl) (by decide) (fun hb157 => ?_) (fun hb157 => ?_)
                    · rw [b32_0, decide_eq_false_iff_not] at hb157
                      have hb157 := want_0 hb157
                      have hI154 := want_t hW154 hb157
                      subst hI154
                      refine hret (dk oX10_takeClause 90 rfl) ?_
                      first
                        | exact ⟨rfl, ((hf1.P).up 29 _ (by decide)).up 30 _ (by decide), Or.inl ⟨1, _, ks, k0, ac, by decide, by decide, by rw [up2_off (by decide), up2_at], up2_at, rchP.one (pS_k0 hsl (Classical.not_not.mp hb27))⟩⟩
                        | exact ⟨rfl, ((hf1.P).up 29 _ (by decide)).up 30 _ (by decide), Or.inl ⟨3, _, ks, k0, ac, by decide, by decide, by rw [up2_off (by decide), up2_at], up2_at, rchP.one (pS_k3 hsl hb27 (by cases h : ks.testBit (kdOf t L (sk t L a_)); exact absurd h hb55; rfl))⟩⟩
                        | exact ⟨rfl, ((hX.tr (hereP hhA136 hhB136)).up 29 _ (by decide)).up 30 _ (by decide), Or.inl ⟨1, _, _, _, _, by decide, by decide, by rw [up2_off (by decide), up2_at], up2_at, hr3.then (pS_no h44 hb157)⟩⟩
                        | exact ⟨rfl, (hX.tr (hereP hhA136 hhB136)).up 26 _ (by decide), Or.inr ⟨sk t L a3 + 1, _, _, ac3, hPS3.at (fun k hk => by rw [up2_ne hk]; exact hhA136 k hk) (fun i a _ _ => by rw [up2_off a]; exact hhB136 i a) up2_at (by have := isS_l hb157; omega), hr3.then (pS_sc h44 hb157), by have := @sk_ge t L (sk t L a3 + 1); omega⟩⟩
                        | (refine ⟨rfl, hX, Or.inl ?_⟩
                           rcases hI with ⟨hg, a1, ac1, hm, hPS1, _⟩ | h | ⟨_, a1, ac1, hPS1, _⟩
                           · exact absurd hPS1.zf hb131
                           · exact h
                           · exact absurd hPS1.zf hb131)
                    · rw [b32_n, decide_eq_true_eq] at hb157
                      have hb157 := want_1 (by decide) hb157
                      have hI154 := want_f hW154 hb157
                      subst hI154
                      refine r_aload_n C 0 (dk oX10_takeClause 84 rfl) rfl ?_
                      refine r_dup C (dk oX10_takeClause 85 rfl) rfl ?_
                      refine r_getI C (dk oX10_takeClause 86 rfl) fl_X10_142 rfl (km hn rfl) ?_
                      rw [hh136]
                      refine r_iconst C (dk oX10_takeClause 87 rfl) (v := nI 1) (by decide) ?_
                      refine r_iadd C (dk oX10_takeClause 88 rfl) ?_
                      rw [nI_add]
                      refine r_putI C (dk oX10_takeClause 89 rfl) fl_X10_142 ft_10_26 rfl (km hn rfl) ?_
                      refine hret (dk oX10_takeClause 90 rfl) ?_
                      first
                        | exact ⟨rfl, ((hf1.P).up 29 _ (by decide)).up 30 _ (by decide), Or.inl ⟨1, _, ks, k0, ac, by decide, by decide, by rw [up2_off (by decide), up2_at], up2_at, rchP.one (pS_k0 hsl (Classical.not_not.mp hb27))⟩⟩
                        | exact ⟨rfl, ((hf1.P).up 29 _ (by decide)).up 30 _ (by decide), Or.inl ⟨3, _, ks, k0, ac, by decide, by decide, by rw [up2_off (by decide), up2_at], up2_at, rchP.one (pS_k3 hsl hb27 (by cases h : ks.testBit (kdOf t L (sk t L a_)); exact absurd h hb55; rfl))⟩⟩
                        | exact ⟨rfl, ((hX.tr (hereP hhA136 hhB136)).up 29 _ (by decide)).up 30 _ (by decide), Or.inl ⟨1, _, _, _, _, by decide, by decide, by rw [up2_off (by decide), up2_at], up2_at, hr3.then (pS_no h44 hb157)⟩⟩
                        | exact ⟨rfl, (hX.tr (hereP hhA136 hhB136)).up 26 _ (by decide), Or.inr ⟨sk t L a3 + 1, _, _, ac3, hPS3.at (fun k hk => by rw [up2_ne hk]; exact hhA136 k hk) (fun i a _ _ => by rw [up2_off a]; exact hhB136 i a) up2_at (by have := isS_l hb157; omega), hr3.then (pS_sc h44 hb157), by have := @sk_ge t L (sk t L a3 + 1); omega⟩⟩
                        | (refine ⟨rfl, hX, Or.inl ?_⟩
                           rcases hI with ⟨hg, a1, ac1, hm, hPS1, _⟩ | h | ⟨_, a1, ac1, hPS1, _⟩
                           · exact absurd hPS1.zf hb131
                           · exact h
                           · exact absurd hPS1.zf hb131)
                  · rw [hr_c (fun h => (hPS3.1.2.2 _ h).1) (by decide)] at hb141
                    refine r_iconst C (dk oX10_takeClause 76 rfl) (v := nI 1) (by decide) ?_
                    refine r_topI (show nI 1 = b32 (decide (isS t L (sk t L a3) 59 = true)) from b32_dt hb141) ?_
                    refine r_goto (tgt := 149) C (dk oX10_takeClause 77 rfl) (by decide) ?_
                    refine r_iconst C (dk oX10_takeClause 79 rfl) (v := nI 1) (by decide) ?_
                    refine r_aload_n C 0 (dk oX10_takeClause 80 rfl) rfl ?_
                    refine r_getI C (dk oX10_takeClause 81 rfl) fl_X10_142 rfl (km hn rfl) ?_
                    rw [hh136]
                    refine r_ivi C Z (dk oX10_takeClause 82 rfl) cl_X10_173 ci_X10_want rfl (km hn rfl) (c_X10_want hn I136 J (decide (isS t L (sk t L a3) 59 = true)) (nI 1) (nI (sk t L a3)) (nI 0) ((hhB136 29 (by decide)).trans hPS3.2.2.2.1)) rfl rfl (Nat.le_of_ble_eq_true rfl) ⟨Nat.le_of_ble_eq_true rfl, Nat.le_of_ble_eq_true rfl⟩ ⟨Nat.zero_le _, Nat.zero_le _⟩ (fun r154 I154 J154 h154 => ?_)
                    obtain ⟨e1_, hW154, e2_⟩ := h154
                    have e1_ := e1_.symm
                    have e2_ := e2_.symm
                    subst e1_
                    subst e2_
                    refine r_if_eq (tgt := 170) C (dk oX10_takeClause 83 rfl) (by decide) (fun hb157 => ?_) (fun hb157 => ?_)
                    · rw [b32_0, decide_eq_false_iff_not] at hb157
                      have hb157 := want_0 hb157
                      have hI154 := want_t hW154 hb157
                      subst hI154
                      refine hret (dk oX10_takeClause 90 rfl) ?_
                      first
                        | exact ⟨rfl, ((hf1.P).up 29 _ (by decide)).up 30 _ (by decide), Or.inl ⟨1, _, ks, k0, ac, by decide, by decide, by rw [up2_off (by decide), up2_at], up2_at, rchP.one (pS_k0 hsl (Classical.not_not.mp hb27))⟩⟩
                        | exact ⟨rfl, ((hf1.P).up 29 _ (by decide)).up 30 _ (by decide), Or.inl ⟨3, _, ks, k0, ac, by decide, by decide, by rw [up2_off (by decide), up2_at], up2_at, rchP.one (pS_k3 hsl hb27 (by cases h : ks.testBit (kdOf t L (sk t L a_)); exact absurd h hb55; rfl))⟩⟩
                        | exact ⟨rfl, ((hX.tr (hereP hhA136 hhB136)).up 29 _ (by decide)).up 30 _ (by decide), Or.inl ⟨1, _, _, _, _, by decide, by decide, by rw [up2_off (by decide), up2_at], up2_at, hr3.then (pS_no h44 hb157)⟩⟩
                        | exact ⟨rfl, (hX.tr (hereP hhA136 hhB136)).up 26 _ (by decide), Or.inr ⟨sk t L a3 + 1, _, _, ac3, hPS3.at (fun k hk => by rw [up2_ne hk]; exact hhA136 k hk) (fun i a _ _ => by rw [up2_off a]; exact hhB136 i a) up2_at (by have := isS_l hb157; omega), hr3.then (pS_sc h44 hb157), by have := @sk_ge t L (sk t L a3 + 1); omega⟩⟩
                        | (refine ⟨rfl, hX, Or.inl ?_⟩
                           rcases hI with ⟨hg, a1, ac1, hm, hPS1, _⟩ | h | ⟨_, a1, ac1, hPS1, _⟩
                           · exact absurd hPS1.zf hb131
                           · exact h
                           · exact absurd hPS1.zf hb131)
                    · rw [b32_n, decide_eq_true_eq] at hb157
                      have hb157 := want_1 (by decide) hb157
                      have hI154 := want_f hW154 hb157
                      subst hI154
                      refine r_aload_n C 0 (dk oX10_takeClause 84 rfl) rfl ?_
                      refine r_dup C (dk oX10_takeClause 85 rfl) rfl ?_
                      refine r_getI C (dk oX10_takeClause 86 rfl) fl_X10_142 rfl (km hn rfl) ?_
                      rw [hh136]
                      refine r_iconst C (dk oX10_takeClause 87 rfl) (v := nI 1) (by decide) ?_
                      refine r_iadd C (dk oX10_takeClause 88 rfl) ?_
                      rw [nI_add]
                      refine r_putI C (dk oX10_takeClause 89 rfl) fl_X10_142 ft_10_26 rfl (km hn rfl) ?_
                      refine hret (dk oX10_takeClause 90 rfl) ?_
                      first
                        | exact ⟨rfl, ((hf1.P).up 29 _ (by decide)).up 30 _ (by decide), Or.inl ⟨1, _, ks, k0, ac, by decide, by decide, by rw [up2_off (by decide), up2_at], up2_at, rchP.one (pS_k0 hsl (Classical.not_not.mp hb27))⟩⟩
                        | exact ⟨rfl, ((hf1.P).up 29 _ (by decide)).up 30 _ (by decide), Or.inl ⟨3, _, ks, k0, ac, by decide, by decide, by rw [up2_off (by decide), up2_at], up2_at, rchP.one (pS_k3 hsl hb27 (by cases h : ks.testBit (kdOf t L (sk t L a_)); exact absurd h hb55; rfl))⟩⟩
                        | exact ⟨rfl, ((hX.tr (hereP hhA136 hhB136)).up 29 _ (by decide)).up 30 _ (by decide), Or.inl ⟨1, _, _, _, _, by decide, by decide, by rw [up2_off (by decide), up2_at], up2_at, hr3.then (pS_no h44 hb157)⟩⟩
                        | exact ⟨rfl, (hX.tr (hereP hhA136 hhB136)).up 26 _ (by decide), Or.inr ⟨sk t L a3 + 1, _, _, ac3, hPS3.at (fun k hk => by rw [up2_ne hk]; exact hhA136 k hk) (fun i a _ _ => by rw [up2_off a]; exact hhB136 i a) up2_at (by have := isS_l hb157; omega), hr3.then (pS_sc h44 hb157), by have := @sk_ge t L (sk t L a3 + 1); omega⟩⟩
                        | (refine ⟨rfl, hX, Or.inl ?_⟩
                           rcases hI with ⟨hg, a1, ac1, hm, hPS1, _⟩ | h | ⟨_, a1, ac1, hPS1, _⟩
                           · exact absurd hPS1.zf hb131
                           · exact h
                           · exact absurd hPS1.zf hb131)
              · refine r_aload_n C 0 (dk oX10_takeClause 42 rfl) rfl ?_
                refine r_getI C (dk oX10_takeClause 43 rfl) fl_X10_145 rfl (km hn rfl) ?_
                refine r_if_ne (tgt := 127) C (dk oX10_takeClause 44 rfl) (by decide) (fun hb80 => ?_) (fun hb80 => ?_)
                · refine r_aload_n C 0 (dk oX10_takeClause 68 rfl) rfl ?_
                  refine r_getI C (dk oX10_takeClause 69 rfl) fl_X10_145 rfl (km hn rfl) ?_
                  refine r_if_ne (tgt := 170) C (dk oX10_takeClause 70 rfl) (by decide) (fun hb131 => ?_) (fun hb131 => ?_)
                  · skip
                    refine hret (dk oX10_takeClause 90 rfl) ?_
                    first
                      | exact ⟨rfl, ((hf1.P).up 29 _ (by decide)).up 30 _ (by decide), Or.inl ⟨1, _, ks, k0, ac, by decide, by decide, by rw [up2_off (by decide), up2_at], up2_at, rchP.one (pS_k0 hsl (Classical.not_not.mp hb27))⟩⟩
                      | exact ⟨rfl, ((hf1.P).up 29 _ (by decide)).up 30 _ (by decide), Or.inl ⟨3, _, ks, k0, ac, by decide, by decide, by rw [up2_off (by decide), up2_at], up2_at, rchP.one (pS_k3 hsl hb27 (by cases h : ks.testBit (kdOf t L (sk t L a_)); exact absurd h hb55; rfl))⟩⟩
                      | exact ⟨rfl, ((hX.tr (hereP hhA136 hhB136)).up 29 _ (by decide)).up 30 _ (by decide), Or.inl ⟨1, _, _, _, _, by decide, by decide, by rw [up2_off (by decide), up2_at], up2_at, hr3.then (pS_no h44 hb157)⟩⟩
                      | exact ⟨rfl, (hX.tr (hereP hhA136 hhB136)).up 26 _ (by decide), Or.inr ⟨sk t L a3 + 1, _, _, ac3, hPS3.at (fun k hk => by rw [up2_ne hk]; exact hhA136 k hk) (fun i a _ _ => by rw [up2_off a]; exact hhB136 i a) up2_at (by have := isS_l hb157; omega), hr3.then (pS_sc h44 hb157), by have := @sk_ge t L (sk t L a3 + 1); omega⟩⟩
                      | (refine ⟨rfl, hX, Or.inl ?_⟩
                         rcases hI with ⟨hg, a1, ac1, hm, hPS1, _⟩ | h | ⟨_, a1, ac1, hPS1, _⟩
                         · exact absurd hPS1.zf hb131
                         · exact h
                         · exact absurd hPS1.zf hb131)
                  · obtain ⟨a3, ac3, hPS3, hr3, h44, hlt3⟩ : ∃ a1 ac1, mPS Ia t L p_ a1 (ks ||| 2 ^ (kdOf t L (sk t L a_))) ac1 ∧ rchP (stpP t L p_ Φ) (0, sk t L a_, ks, k0, ac) (2, sk t L a1, (ks ||| 2 ^ (kdOf t L (sk t L a_))), (kdOf t L (sk t L a_)), ac1) ∧ isS t L (sk t L a1) 44 = false ∧ (sk t L a_) < sk t L a1 := by
                      rcases hI with ⟨hg, a1, ac1, hm, hPS1, _⟩ | h | ⟨_, h⟩
                      · exfalso
                        first
                          | (rw [hg] at hb73; exact absurd hb73 (by decide))
                          | exact hb80 hPS1.zf
                      · exact absurd hb131 h.nz
                      · exact h
                    have hs3 : sk t L a3 ≤ L := sk_le hPS3.2.2.1
                    refine r_aload_n C 0 (dk oX10_takeClause 71 rfl) rfl ?_
                    refine r_aload_n C 0 (dk oX10_takeClause 72 rfl) rfl ?_
                    refine r_ivi C Z (dk oX10_takeClause 73 rfl) cl_X10_148 ci_X10_here rfl (km hn rfl) (c_X10_here hn Ia J t L (hPS3.1) (a3) (hPS3.2.1) (hPS3.2.2.1)) rfl rfl (Nat.le_of_ble_eq_true rfl) ⟨Nat.le_of_ble_eq_true rfl, Nat.le_of_ble_eq_true rfl⟩ ⟨Nat.zero_le _, Nat.zero_le _⟩ (fun r136 I136 J136 h136 => ?_)
                    obtain ⟨e1_, hh136, hhA136, hhB136, e2_⟩ := h136
                    have e1_ := e1_.symm
                    have e2_ := e2_.symm
                    subst e1_
                    subst e2_
                    refine r_bipush C (dk oX10_takeClause 74 rfl) (v := nI 59) (by decide) ?_
                    refine r_icmp_ne (tgt := 148) C (dk oX10_takeClause 75 rfl) (by decide) (fun hb141 => ?_) (fun hb141 => ?_)
                    · rw [hr_c (fun h => (hPS3.1.2.2 _ h).1) (by decide)] at hb141
                      refine r_iconst C (dk oX10_takeClause 78 rfl) (v := nI 0) (by decide) ?_
                      refine r_topI (show nI 0 = b32 (decide (isS t L (sk t L a3) 59 = true)) from b32_df hb141) ?_
                      refine r_iconst C (dk oX10_takeClause 79 rfl) (v := nI 1) (by decide) ?_
                      refine r_aload_n C 0 (dk oX10_takeClause 80 rfl) rfl ?_
                      refine r_getI C (dk oX10_takeClause 81 rfl) fl_X10_142 rfl (km hn rfl) ?_
                      rw [hh136]
                      refine r_ivi C Z (dk oX10_takeClause 82 rfl) cl_X10_173 ci_X10_want rfl (km hn rfl) (c_X10_want hn I136 J (decide (isS t L (sk t L a3) 59 = true)) (nI 1) (nI (sk t L a3)) (nI 0) ((hhB136 29 (by decide)).trans hPS3.2.2.2.1)) rfl rfl (Nat.le_of_ble_eq_true rfl) ⟨Nat.le_of_ble_eq_true rfl, Nat.le_of_ble_eq_true rfl⟩ ⟨Nat.zero_le _, Nat.zero_le _⟩ (fun r154 I154 J154 h154 => ?_)
                      obtain ⟨e1_, hW154, e2_⟩ := h154
                      have e1_ := e1_.symm
                      have e2_ := e2_.symm
                      subst e1_
                      subst e2_
                      refine r_if_eq (tgt := 170) C (dk oX10_takeClause 83 rfl) (by decide) (fun hb157 => ?_) (fun hb157 => ?_)
                      · rw [b32_0, decide_eq_false_iff_not] at hb157
                        have hb157 := want_0 hb157
                        have hI154 := want_t hW154 hb157
                        subst hI154
                        refine hret (dk oX10_takeClause 90 rfl) ?_
                        first
                          | exact ⟨rfl, ((hf1.P).up 29 _ (by decide)).up 30 _ (by decide), Or.inl ⟨1, _, ks, k0, ac, by decide, by decide, by rw [up2_off (by decide), up2_at], up2_at, rchP.one (pS_k0 hsl (Classical.not_not.mp hb27))⟩⟩
                          | exact ⟨rfl, ((hf1.P).up 29 _ (by decide)).up 30 _ (by decide), Or.inl ⟨3, _, ks, k0, ac, by decide, by decide, by rw [up2_off (by decide), up2_at], up2_at, rchP.one (pS_k3 hsl hb27 (by cases h : ks.testBit (kdOf t L (sk t L a_)); exact absurd h hb55; rfl))⟩⟩
                          | exact ⟨rfl, ((hX.tr (hereP hhA136 hhB136)).up 29 _ (by decide)).up 30 _ (by decide), Or.inl ⟨1, _, _, _, _, by decide, by decide, by rw [up2_off (by decide), up2_at], up2_at, hr3.then (pS_no h44 hb157)⟩⟩
                          | exact ⟨rfl, (hX.tr (hereP hhA136 hhB136)).up 26 _ (by decide), Or.inr ⟨sk t L a3 + 1, _, _, ac3, hPS3.at (fun k hk => by rw [up2_ne hk]; exact hhA136 k hk) (fun i a _ _ => by rw [up2_off a]; exact hhB136 i a) up2_at (by have := isS_l hb157; omega), hr3.then (pS_sc h44 hb157), by have := @sk_ge t L (sk t L a3 + 1); omega⟩⟩
                          | (refine ⟨rfl, hX, Or.inl ?_⟩
                             rcases hI with ⟨hg, a1, ac1, hm, hPS1, _⟩ | h | ⟨_, a1, ac1, hPS1, _⟩
                             · exact absurd hPS1.zf hb131
                             · exact h
                             · exact absurd hPS1.zf hb131)
                      · rw [b32_n, decide_eq_true_eq] at hb157
                        have hb157 := want_1 (by decide) hb157
                        have hI154 := want_f hW154 hb157
                        subst hI154
                        refine r_aload_n C 0 (dk oX10_takeClause 84 rfl) rfl ?_
                        refine r_dup C (dk oX10_takeClause 85 rfl) rfl ?_
                        refine r_getI C (dk oX10_takeClause 86 rfl) fl_X10_142 rfl (km hn rfl) ?_
                        rw [hh136]
                        refine r_iconst C (dk oX10_takeClause 87 rfl) (v := nI 1) (by decide) ?_
                        refine r_iadd C (dk oX10_takeClause 88 rfl) ?_
                        rw [nI_add]
                        refine r_putI C (dk oX10_takeClause 89 rfl) fl_X10_142 ft_10_26 rfl (km hn rfl) ?_
                        refine hret (dk oX10_takeClause 90 rfl) ?_
                        first
                          | exact ⟨rfl, ((hf1.P).up 29 _ (by decide)).up 30 _ (by decide), Or.inl ⟨1, _, ks, k0, ac, by decide, by decide, by rw [up2_off (by decide), up2_at], up2_at, rchP.one (pS_k0 hsl (Classical.not_not.mp hb27))⟩⟩
                          | exact ⟨rfl, ((hf1.P).up 29 _ (by decide)).up 30 _ (by decide), Or.inl ⟨3, _, ks, k0, ac, by decide, by decide, by rw [up2_off (by decide), up2_at], up2_at, rchP.one (pS_k3 hsl hb27 (by cases h : ks.testBit (kdOf t L (sk t L a_)); exact absurd h hb55; rfl))⟩⟩
                          | exact ⟨rfl, ((hX.tr (hereP hhA136 hhB136)).up 29 _ (by decide)).up 30 _ (by decide), Or.inl ⟨1, _, _, _, _, by decide, by decide, by rw [up2_off (by decide), up2_at], up2_at, hr3.then (pS_no h44 hb157)⟩⟩
                          | exact ⟨rfl, (hX.tr (hereP hhA136 hhB136)).up 26 _ (by decide), Or.inr ⟨sk t L a3 + 1, _, _, ac3, hPS3.at (fun k hk => by rw [up2_ne hk]; exact hhA136 k hk) (fun i a _ _ => by rw [up2_off a]; exact hhB136 i a) up2_at (by have := isS_l hb157; omega), hr3.then (pS_sc h44 hb157), by have := @sk_ge t L (sk t L a3 + 1); omega⟩⟩
                          | (refine ⟨rfl, hX, Or.inl ?_⟩
                             rcases hI with ⟨hg, a1, ac1, hm, hPS1, _⟩ | h | ⟨_, a1, ac1, hPS1, _⟩
                             · exact absurd hPS1.zf hb131
                             · exact h
                             · exact absurd hPS1.zf hb131)
                    · rw [hr_c (fun h => (hPS3.1.2.2 _ h).1) (by decide)] at hb141
                      refine r_iconst C (dk oX10_takeClause 76 rfl) (v := nI 1) (by decide) ?_
                      refine r_topI (show nI 1 = b32 (decide (isS t L (sk t L a3) 59 = true)) from b32_dt hb141) ?_
                      refine r_goto (tgt := 149) C (dk oX10_takeClause 77 rfl) (by decide) ?_
                      refine r_iconst C (dk oX10_takeClause 79 rfl) (v := nI 1) (by decide) ?_
                      refine r_aload_n C 0 (dk oX10_takeClause 80 rfl) rfl ?_
                      refine r_getI C (dk oX10_takeClause 81 rfl) fl_X10_142 rfl (km hn rfl) ?_
                      rw [hh136]
                      refine r_ivi C Z (dk oX10_takeClause 82 rfl) cl_X10_173 ci_X10_want rfl (km hn rfl) (c_X10_want hn I136 J (decide (isS t L (sk t L a3) 59 = true)) (nI 1) (nI (sk t L a3)) (nI 0) ((hhB136 29 (by decide)).trans hPS3.2.2.2.1)) rfl rfl (Nat.le_of_ble_eq_true rfl) ⟨Nat.le_of_ble_eq_true rfl, Nat.le_of_ble_eq_true rfl⟩ ⟨Nat.zero_le _, Nat.zero_le _⟩ (fun r154 I154 J154 h154 => ?_)
                      obtain ⟨e1_, hW154, e2_⟩ := h154
                      have e1_ := e1_.symm
                      have e2_ := e2_.symm
                      subst e1_
                      subst e2_
                      refine r_if_eq (tgt := 170) C (dk oX10_takeClause 83 rfl) (by decide) (fun hb157 => ?_) (fun hb157 => ?_)
                      · rw [b32_0, decide_eq_false_iff_not] at hb157
                        have hb157 := want_0 hb157
                        have hI154 := want_t hW154 hb157
                        subst hI154
                        refine hret (dk oX10_takeClause 90 rfl) ?_
                        first
                          | exact ⟨rfl, ((hf1.P).up 29 _ (by decide)).up 30 _ (by decide), Or.inl ⟨1, _, ks, k0, ac, by decide, by decide, by rw [up2_off (by decide), up2_at], up2_at, rchP.one (pS_k0 hsl (Classical.not_not.mp hb27))⟩⟩
                          | exact ⟨rfl, ((hf1.P).up 29 _ (by decide)).up 30 _ (by decide), Or.inl ⟨3, _, ks, k0, ac, by decide, by decide, by rw [up2_off (by decide), up2_at], up2_at, rchP.one (pS_k3 hsl hb27 (by cases h : ks.testBit (kdOf t L (sk t L a_)); exact absurd h hb55; rfl))⟩⟩
                          | exact ⟨rfl, ((hX.tr (hereP hhA136 hhB136)).up 29 _ (by decide)).up 30 _ (by decide), Or.inl ⟨1, _, _, _, _, by decide, by decide, by rw [up2_off (by decide), up2_at], up2_at, hr3.then (pS_no h44 hb157)⟩⟩
                          | exact ⟨rfl, (hX.tr (hereP hhA136 hhB136)).up 26 _ (by decide), Or.inr ⟨sk t L a3 + 1, _, _, ac3, hPS3.at (fun k hk => by rw [up2_ne hk]; exact hhA136 k hk) (fun i a _ _ => by rw [up2_off a]; exact hhB136 i a) up2_at (by have := isS_l hb157; omega), hr3.then (pS_sc h44 hb157), by have := @sk_ge t L (sk t L a3 + 1); omega⟩⟩
                          | (refine ⟨rfl, hX, Or.inl ?_⟩
                             rcases hI with ⟨hg, a1, ac1, hm, hPS1, _⟩ | h | ⟨_, a1, ac1, hPS1, _⟩
                             · exact absurd hPS1.zf hb131
                             · exact h
                             · exact absurd hPS1.zf hb131)
                      · rw [b32_n, decide_eq_true_eq] at hb157
                        have hb157 := want_1 (by decide) hb157
                        have hI154 := want_f hW154 hb157
                        subst hI154
                        refine r_aload_n C 0 (dk oX10_takeClause 84 rfl) rfl ?_
                        refine r_dup C (dk oX10_takeClause 85 rfl) rfl ?_
                        refine r_getI C (dk oX10_takeClause 86 rfl) fl_X10_142 rfl (km hn rfl) ?_
                        rw [hh136]
                        refine r_iconst C (dk oX10_takeClause 87 rfl) (v := nI 1) (by decide) ?_
                        refine r_iadd C (dk oX10_takeClause 88 rfl) ?_
                        rw [nI_add]
                        refine r_putI C (dk oX10_takeClause 89 rfl) fl_X10_142 ft_10_26 rfl (km hn rfl) ?_
                        refine hret (dk oX10_takeClause 90 rfl) ?_
                        first
                          | exact ⟨rfl, ((hf1.P).up 29 _ (by decide)).up 30 _ (by decide), Or.inl ⟨1, _, ks, k0, ac, by decide, by decide, by rw [up2_off (by decide), up2_at], up2_at, rchP.one (pS_k0 hsl (Classical.not_not.mp hb27))⟩⟩
                          | exact ⟨rfl, ((hf1.P).up 29 _ (by decide)).up 30 _ (by decide), Or.inl ⟨3, _, ks, k0, ac, by decide, by decide, by rw [up2_off (by decide), up2_at], up2_at, rchP.one (pS_k3 hsl hb27 (by cases h : ks.testBit (kdOf t L (sk t L a_)); exact absurd h hb55; rfl))⟩⟩
                          | exact ⟨rfl, ((hX.tr (hereP hhA136 hhB136)).up 29 _ (by decide)).up 30 _ (by decide), Or.inl ⟨1, _, _, _, _, by decide, by decide, by rw [up2_off (by decide), up2_at], up2_at, hr3.then (pS_no h44 hb157)⟩⟩
                          | exact ⟨rfl, (hX.tr (hereP hhA136 hhB136)).up 26 _ (by decide), Or.inr ⟨sk t L a3 + 1, _, _, ac3, hPS3.at (fun k hk => by rw [up2_ne hk]; exact hhA136 k hk) (fun i a _ _ => by rw [up2_off a]; exact hhB136 i a) up2_at (by have := isS_l hb157; omega), hr3.then (pS_sc h44 hb157), by have := @sk_ge t L (sk t L a3 + 1); omega⟩⟩
                          | (refine ⟨rfl, hX, Or.inl ?_⟩
                             rcases hI with ⟨hg, a1, ac1, hm, hPS1, _⟩ | h | ⟨_, a1, ac1, hPS1, _⟩
                             · exact absurd hPS1.zf hb131
                             · exact h
                             · exact absurd hPS1.zf hb131)
                · obtain ⟨a1, ac1, hm, hPS1, hr, hlt⟩ : ∃ a1 ac1, m_ = L + 2 - sk t L a1 ∧ mPS Ia t L p_ a1 (ks ||| 2 ^ (kdOf t L (sk t L a_))) ac1 ∧ rchP (stpP t L p_ Φ) (0, sk t L a_, ks, k0, ac) (1, sk t L a1, (ks ||| 2 ^ (kdOf t L (sk t L a_))), (kdOf t L (sk t L a_)), ac1) ∧ (sk t L a_) < sk t L a1 := by
                    rcases hI with ⟨_, h⟩ | h | ⟨h, _⟩
                    · exact h
                    · exact absurd hb80 h.nz
                    · rw [h] at hb73
                      exact absurd rfl hb73
                  refine r_aload_n C 0 (dk oX10_takeClause 45 rfl) rfl ?_
                  refine r_iload_n C 2 (dk oX10_takeClause 46 rfl) rfl ?_
                  refine r_iload_n C 1 (dk oX10_takeClause 47 rfl) rfl ?_
                  refine r_ivv C Z (dk oX10_takeClause 48 rfl) cl_X10_241 ci_X10_takeItem rfl (km hn rfl) (c_X10_takeItem hn Ia J t L p_ a1 (ks ||| 2 ^ (kdOf t L (sk t L a_))) (kdOf t L (sk t L a_)) ac1 hp ⟨Nat.pos_of_ne_zero hb27, hkd⟩ Φ (hM.P hX) hok hPS1) rfl rfl (Nat.le_of_ble_eq_true rfl) ⟨Nat.le_of_ble_eq_true rfl, Nat.le_of_ble_eq_true rfl⟩ ⟨Nat.zero_le _, Nat.zero_le _⟩ (fun I86 J86 h86 => ?_)
                  obtain ⟨e2_, hX86, ho86⟩ := h86
                  have e2_ := e2_.symm
                  subst e2_
                  refine r_aload_n C 0 (dk oX10_takeClause 49 rfl) rfl ?_
                  refine r_getI C (dk oX10_takeClause 50 rfl) fl_X10_145 rfl (km hn rfl) ?_
                  refine r_if_ne (tgt := 109) C (dk oX10_takeClause 51 rfl) (by decide) (fun hb93 => ?_) (fun hb93 => ?_)
                  · have hbd : mPB t L p_ Φ (0, sk t L a_, ks, k0, ac) I86 := by
                      rcases ho86 with h | ⟨a2, ac2, h, _⟩
                      · exact h.to hr
                      · exact absurd h.zf hb93
                    refine r_iconst C (dk oX10_takeClause 58 rfl) (v := nI 0) (by decide) ?_
                    refine r_topI (show nI 0 = b32 false from rfl) ?_
                    refine r_istore_n (lo' := [(3, _), (0, _), (1, _), (2, _)]) C (dk oX10_takeClause 59 rfl) rfl (by decide) rfl ?_
                    refine r_aload_n C 1 (dk oX10_takeClause 60 rfl) rfl ?_
                    refine r_dup C (dk oX10_takeClause 61 rfl) rfl ?_
                    refine r_getI C (dk oX10_takeClause 62 rfl) fl_X10_142 rfl (km hn rfl) ?_
                    first
                      | rw [hh97]
                      | skip
                    refine r_iload_n C 0 (dk oX10_takeClause 63 rfl) rfl ?_
                    refine r_isi C Z (dk oX10_takeClause 64 rfl) cl_X10_109 st_X10_one (c_X10_one _ J _) rfl rfl (Nat.le_of_ble_eq_true rfl) ⟨Nat.le_of_ble_eq_true rfl, Nat.le_of_ble_eq_true rfl⟩ ⟨Nat.zero_le _, Nat.zero_le _⟩ (fun r117 I117 J117 h117 => ?_)
                    obtain ⟨h117, e1_, e2_⟩ := h117
                    have e1_ := e1_.symm
                    have e2_ := e2_.symm
                    subst e1_
                    subst e2_
                    subst h117
                    refine r_iadd C (dk oX10_takeClause 65 rfl) ?_
                    first
                      | rw [show b32 true = nI 1 from rfl, nI_add]
                      | rw [show b32 false = nI 0 from rfl, nI_add, Nat.add_zero]
                      | skip
                    refine r_putI C (dk oX10_takeClause 66 rfl) fl_X10_142 ft_10_26 rfl (km hn rfl) ?_
                    refine r_goto (tgt := 72) C (dk oX10_takeClause 67 rfl) (by decide) ?_
                    refine V.sub [1, 2, 3, 0] rfl ?_
                    have hs1 : sk t L a1 ≤ L := sk_le hPS1.2.2.1
                    first
                      | exact ih false 0 _ (by omega) ((hX.tr hX86).up 26 _ (by decide)) (Or.inr (Or.inl (by
                          obtain ⟨f, s', ks', k', a', q1, q2, q3, q4, q5⟩ := hbd
                          exact ⟨f, s', ks', k', a', q1, q2, by rw [up2_off (by decide)]; exact q3, by rw [up2_off (by decide)]; exact q4, q5⟩)))
                      | exact ih true (L + 2 - sk t L (sk t L a2 + 1)) _ (by have := isS_l hb102; have := @sk_ge t L (sk t L a2 + 1); omega) (((hX.tr hX86).tr (hereP hhA97 hhB97)).up 26 _ (by decide)) (Or.inl ⟨rfl, sk t L a2 + 1, ac2, rfl, hPS2.at (fun k hk => by rw [up2_ne hk]; exact hhA97 k hk) (fun i a _ _ => by rw [up2_off a]; exact hhB97 i a) up2_at (by have := isS_l hb102; omega), (hr.trans hr2).then (pS_cm hb102), by have := @sk_ge t L (sk t L a2 + 1); omega⟩)
                      | exact ih false 0 _ (by omega) (((hX.tr hX86).tr (hereP hhA97 hhB97)).up 26 _ (by decide)) (Or.inr (Or.inr ⟨rfl, sk t L a2, ac2, hPS2.at (fun k hk => by rw [up2_ne hk]; exact hhA97 k hk) (fun i a _ _ => by rw [up2_off a]; exact hhB97 i a) up2_at (sk_le hPS2.2.2.1), by rw [sk_sk]; exact hr.trans hr2, by rw [sk_sk]; exact hb102, by rw [sk_sk]; omega⟩))
                  · obtain ⟨a2, ac2, hPS2, hr2, hlt2⟩ : ∃ a2 ac2, mPS I86 t L p_ a2 (ks ||| 2 ^ (kdOf t L (sk t L a_))) ac2 ∧ rchP (stpP t L p_ Φ) (1, sk t L a1, (ks ||| 2 ^ (kdOf t L (sk t L a_))), (kdOf t L (sk t L a_)), ac1) (2, sk t L a2, (ks ||| 2 ^ (kdOf t L (sk t L a_))), (kdOf t L (sk t L a_)), ac2) ∧ sk t L a1 < sk t L a2 := by
                      rcases ho86 with h | h
                      · exact absurd hb93 h.nz
                      · exact h
                    refine r_aload_n C 0 (dk oX10_takeClause 52 rfl) rfl ?_
                    refine r_ivi C Z (dk oX10_takeClause 53 rfl) cl_X10_148 ci_X10_here rfl (km hn rfl) (c_X10_here hn I86 J t L (hPS2.1) (a2) (hPS2.2.1) (hPS2.2.2.1)) rfl rfl (Nat.le_of_ble_eq_true rfl) ⟨Nat.le_of_ble_eq_true rfl, Nat.le_of_ble_eq_true rfl⟩ ⟨Nat.zero_le _, Nat.zero_le _⟩ (fun r97 I97 J97 h97 => ?_)
                    obtain ⟨e1_, hh97, hhA97, hhB97, e2_⟩ := h97
                    have e1_ := e1_.symm
                    have e2_ := e2_.symm
                    subst e1_
                    subst e2_
                    refine r_bipush C (dk oX10_takeClause 54 rfl) (v := nI 44) (by decide) ?_
                    refine r_icmp_ne (tgt := 109) C (dk oX10_takeClause 55 rfl) (by decide) (fun hb102 => ?_) (fun hb102 => ?_)
                    · rw [hr_c (fun h => (hPS2.1.2.2 _ h).1) (by decide)] at hb102
                      have hb102 := nbf hb102
                      refine r_iconst C (dk oX10_takeClause 58 rfl) (v := nI 0) (by decide) ?_
                      refine r_topI (show nI 0 = b32 false from rfl) ?_
                      refine r_istore_n (lo' := [(3, _), (0, _), (1, _), (2, _)]) C (dk oX10_takeClause 59 rfl) rfl (by decide) rfl ?_
                      refine r_aload_n C 1 (dk oX10_takeClause 60 rfl) rfl ?_
                      refine r_dup C (dk oX10_takeClause 61 rfl) rfl ?_
                      refine r_getI C (dk oX10_takeClause 62 rfl) fl_X10_142 rfl (km hn rfl) ?_
                      first
                        | rw [hh97]
                        | skip
                      refine r_iload_n C 0 (dk oX10_takeClause 63 rfl) rfl ?_
                      refine r_isi C Z (dk oX10_takeClause 64 rfl) cl_X10_109 st_X10_one (c_X10_one _ J _) rfl rfl (Nat.le_of_ble_eq_true rfl) ⟨Nat.le_of_ble_eq_true rfl, Nat.le_of_ble_eq_true rfl⟩ ⟨Nat.zero_le _, Nat.zero_le _⟩ (fun r117 I117 J117 h117 => ?_)
                      obtain ⟨h117, e1_, e2_⟩ := h117
                      have e1_ := e1_.symm
                      have e2_ := e2_.symm
                      subst e1_
                      subst e2_
                      subst h117
                      refine r_iadd C (dk oX10_takeClause 65 rfl) ?_
                      first
                        | rw [show b32 true = nI 1 from rfl, nI_add]
                        | rw [show b32 false = nI 0 from rfl, nI_add, Nat.add_zero]
                        | skip
                      refine r_putI C (dk oX10_takeClause 66 rfl) fl_X10_142 ft_10_26 rfl (km hn rfl) ?_
                      refine r_goto (tgt := 72) C (dk oX10_takeClause 67 rfl) (by decide) ?_
                      refine V.sub [1, 2, 3, 0] rfl ?_
                      have hs1 : sk t L a1 ≤ L := sk_le hPS1.2.2.1
                      first
                        | exact ih false 0 _ (by omega) ((hX.tr hX86).up 26 _ (by decide)) (Or.inr (Or.inl (by
                            obtain ⟨f, s', ks', k', a', q1, q2, q3, q4, q5⟩ := hbd
                            exact ⟨f, s', ks', k', a', q1, q2, by rw [up2_off (by decide)]; exact q3, by rw [up2_off (by decide)]; exact q4, q5⟩)))
                        | exact ih true (L + 2 - sk t L (sk t L a2 + 1)) _ (by have := isS_l hb102; have := @sk_ge t L (sk t L a2 + 1); omega) (((hX.tr hX86).tr (hereP hhA97 hhB97)).up 26 _ (by decide)) (Or.inl ⟨rfl, sk t L a2 + 1, ac2, rfl, hPS2.at (fun k hk => by rw [up2_ne hk]; exact hhA97 k hk) (fun i a _ _ => by rw [up2_off a]; exact hhB97 i a) up2_at (by have := isS_l hb102; omega), (hr.trans hr2).then (pS_cm hb102), by have := @sk_ge t L (sk t L a2 + 1); omega⟩)
                        | exact ih false 0 _ (by omega) (((hX.tr hX86).tr (hereP hhA97 hhB97)).up 26 _ (by decide)) (Or.inr (Or.inr ⟨rfl, sk t L a2, ac2, hPS2.at (fun k hk => by rw [up2_ne hk]; exact hhA97 k hk) (fun i a _ _ => by rw [up2_off a]; exact hhB97 i a) up2_at (sk_le hPS2.2.2.1), by rw [sk_sk]; exact hr.trans hr2, by rw [sk_sk]; exact hb102, by rw [sk_sk]; omega⟩))
                    · rw [hr_c (fun h => (hPS2.1.2.2 _ h).1) (by decide)] at hb102
                      refine r_iconst C (dk oX10_takeClause 56 rfl) (v := nI 1) (by decide) ?_
                      refine r_topI (show nI 1 = b32 true from rfl) ?_
                      refine r_goto (tgt := 110) C (dk oX10_takeClause 57 rfl) (by decide) ?_
                      refine r_istore_n (lo' := [(3, _), (0, _), (1, _), (2, _)]) C (dk oX10_takeClause 59 rfl) rfl (by decide) rfl ?_
                      refine r_aload_n C 1 (dk oX10_takeClause 60 rfl) rfl ?_
                      refine r_dup C (dk oX10_takeClause 61 rfl) rfl ?_
                      refine r_getI C (dk oX10_takeClause 62 rfl) fl_X10_142 rfl (km hn rfl) ?_
                      first
                        | rw [hh97]
                        | skip
                      refine r_iload_n C 0 (dk oX10_takeClause 63 rfl) rfl ?_
                      refine r_isi C Z (dk oX10_takeClause 64 rfl) cl_X10_109 st_X10_one (c_X10_one _ J _) rfl rfl (Nat.le_of_ble_eq_true rfl) ⟨Nat.le_of_ble_eq_true rfl, Nat.le_of_ble_eq_true rfl⟩ ⟨Nat.zero_le _, Nat.zero_le _⟩ (fun r117 I117 J117 h117 => ?_)
                      obtain ⟨h117, e1_, e2_⟩ := h117
                      have e1_ := e1_.symm
                      have e2_ := e2_.symm
                      subst e1_
                      subst e2_
                      subst h117
                      refine r_iadd C (dk oX10_takeClause 65 rfl) ?_
                      first
                        | rw [show b32 true = nI 1 from rfl, nI_add]
                        | rw [show b32 false = nI 0 from rfl, nI_add, Nat.add_zero]
                        | skip
                      refine r_putI C (dk oX10_takeClause 66 rfl) fl_X10_142 ft_10_26 rfl (km hn rfl) ?_
                      refine r_goto (tgt := 72) C (dk oX10_takeClause 67 rfl) (by decide) ?_
                      refine V.sub [1, 2, 3, 0] rfl ?_
                      have hs1 : sk t L a1 ≤ L := sk_le hPS1.2.2.1
                      first
                        | exact ih false 0 _ (by omega) ((hX.tr hX86).up 26 _ (by decide)) (Or.inr (Or.inl (by
                            obtain ⟨f, s', ks', k', a', q1, q2, q3, q4, q5⟩ := hbd
                            exact ⟨f, s', ks', k', a', q1, q2, by rw [up2_off (by decide)]; exact q3, by rw [up2_off (by decide)]; exact q4, q5⟩)))
                        | exact ih true (L + 2 - sk t L (sk t L a2 + 1)) _ (by have := isS_l hb102; have := @sk_ge t L (sk t L a2 + 1); omega) (((hX.tr hX86).tr (hereP hhA97 hhB97)).up 26 _ (by decide)) (Or.inl ⟨rfl, sk t L a2 + 1, ac2, rfl, hPS2.at (fun k hk => by rw [up2_ne hk]; exact hhA97 k hk) (fun i a _ _ => by rw [up2_off a]; exact hhB97 i a) up2_at (by have := isS_l hb102; omega), (hr.trans hr2).then (pS_cm hb102), by have := @sk_ge t L (sk t L a2 + 1); omega⟩)
                        | exact ih false 0 _ (by omega) (((hX.tr hX86).tr (hereP hhA97 hhB97)).up 26 _ (by decide)) (Or.inr (Or.inr ⟨rfl, sk t L a2, ac2, hPS2.at (fun k hk => by rw [up2_ne hk]; exact hhA97 k hk) (fun i a _ _ => by rw [up2_off a]; exact hhB97 i a) up2_at (sk_le hPS2.2.2.1), by rw [sk_sk]; exact hr.trans hr2, by rw [sk_sk]; exact hb102, by rw [sk_sk]; omega⟩))
          refine V.sub [2, 3, 1, 0] rfl ?_
          have hwl : wE t L (sk t L a_) ≤ L := wE_le hsL
          have hX52 : mPX p_ I (up2 I52 117 36 (nI (ks ||| 2 ^ (kdOf t L (sk t L a_))))) := (hf1.P).up 36 _ (by decide)
          have hnx := wE_in (t := t) (L := L) hkw.1 hkw.2
          have hge := @wE_ge t L (sk t L a_ + 1)
          have hge2 := @sk_ge t L (wE t L (sk t L a_))
          refine L72 (L + 2 - sk t L (wE t L (sk t L a_)) + 1) true (L + 2 - sk t L (wE t L (sk t L a_))) _ (by omega) hX52 (Or.inl ⟨rfl, wE t L (sk t L a_), ac, rfl, ⟨hT.of (by rw [up2_off (by decide)]; exact hf1.2 25 (by decide) (by decide) (by decide)) (by rw [up2_ne (by decide)]; exact hf1.1 141 (by decide)), by rw [up2_off (by decide)]; exact h26a, hwl, by rw [up2_off (by decide)]; exact (hf1.2 29 (by decide) (by decide) (by decide)).trans h29, by rw [up2_off (by decide)]; exact (hf1.2 30 (by decide) (by decide) (by decide)).trans h30, up2_at, or_lt128 hks hkd, by rw [up2_off (by decide)]; exact (hf1.2 37 (by decide) (by decide) (by decide)).trans h37, fun f hf => by rw [up2_ne (by decide), hf1.1 125 (by decide)]; exact hac f hf, hac6⟩, rchP.one (pS_k hsl hb27 hb55), by omega⟩)
      · rw [b32_0] at hb39
        refine r_iconst C (dk oX10_takeClause 22 rfl) (v := nI 1) (by decide) ?_
        refine r_topI (show nI 1 = b32 (decide (ks.testBit (kdOf t L (sk t L a_)) = false)) from b32_dt hb39) ?_
        refine r_goto (tgt := 47) C (dk oX10_takeClause 23 rfl) (by decide) ?_
        refine r_iconst C (dk oX10_takeClause 25 rfl) (v := nI 3) (by decide) ?_
        refine r_aload_n C 1 (dk oX10_takeClause 26 rfl) rfl ?_
        refine r_getI C (dk oX10_takeClause 27 rfl) fl_X10_152 rfl (km hn rfl) ?_
        rw [h27]
        refine r_ivi C Z (dk oX10_takeClause 28 rfl) cl_X10_173 ci_X10_want rfl (km hn rfl) (c_X10_want hn I24 J (decide (ks.testBit (kdOf t L (sk t L a_)) = false)) (nI 3) (nI (sk t L a_)) (nI 0) ((hf1.2 29 (by decide) (by decide) (by decide)).trans h29)) rfl rfl (Nat.le_of_ble_eq_true rfl) ⟨Nat.le_of_ble_eq_true rfl, Nat.le_of_ble_eq_true rfl⟩ ⟨Nat.zero_le _, Nat.zero_le _⟩ (fun r52 I52 J52 h52 => ?_)
        obtain ⟨e1_, hW52, e2_⟩ := h52
        have e1_ := e1_.symm
        have e2_ := e2_.symm
        subst e1_
        subst e2_
        refine r_if_eq (tgt := 170) C (dk oX10_takeClause 29 rfl) (by decide) (fun hb55 => ?_) (fun hb55 => ?_)
        · rw [b32_0, decide_eq_false_iff_not] at hb55
          have hb55 := want_0 hb55
          have hI52 := want_t hW52 hb55
          subst hI52
          refine hret (dk oX10_takeClause 90 rfl) ?_
          first
            | exact ⟨rfl, ((hf1.P).up 29 _ (by decide)).up 30 _ (by decide), Or.inl ⟨1, _, ks, k0, ac, by decide, by decide, by rw [up2_off (by decide), up2_at], up2_at, rchP.one (pS_k0 hsl (Classical.not_not.mp hb27))⟩⟩
            | exact ⟨rfl, ((hf1.P).up 29 _ (by decide)).up 30 _ (by decide), Or.inl ⟨3, _, ks, k0, ac, by decide, by decide, by rw [up2_off (by decide), up2_at], up2_at, rchP.one (pS_k3 hsl hb27 (by cases h : ks.testBit (kdOf t L (sk t L a_)); exact absurd h hb55; rfl))⟩⟩
            | exact ⟨rfl, ((hX.tr (hereP hhA136 hhB136)).up 29 _ (by decide)).up 30 _ (by decide), Or.inl ⟨1, _, _, _, _, by decide, by decide, by rw [up2_off (by decide), up2_at], up2_at, hr3.then (pS_no h44 hb157)⟩⟩
            | exact ⟨rfl, (hX.tr (hereP hhA136 hhB136)).up 26 _ (by decide), Or.inr ⟨sk t L a3 + 1, _, _, ac3, hPS3.at (fun k hk => by rw [up2_ne hk]; exact hhA136 k hk) (fun i a _ _ => by rw [up2_off a]; exact hhB136 i a) up2_at (by have := isS_l hb157; omega), hr3.then (pS_sc h44 hb157), by have := @sk_ge t L (sk t L a3 + 1); omega⟩⟩
            | (refine ⟨rfl, hX, Or.inl ?_⟩
               rcases hI with ⟨hg, a1, ac1, hm, hPS1, _⟩ | h | ⟨_, a1, ac1, hPS1, _⟩
               · exact absurd hPS1.zf hb131
               · exact h
               · exact absurd hPS1.zf hb131)
        · rw [b32_n, decide_eq_true_eq] at hb55
          have hb55 := want_1 (by decide) hb55
          have hI52 := want_f hW52 hb55
          subst hI52
          refine r_aload_n C 1 (dk oX10_takeClause 30 rfl) rfl ?_
          refine r_dup C (dk oX10_takeClause 31 rfl) rfl ?_
          refine r_getI C (dk oX10_takeClause 32 rfl) fl_X10_238 rfl (km hn rfl) ?_
          rw [hf1.2 36 (by decide) (by decide) (by decide), h36]
          refine r_iconst C (dk oX10_takeClause 33 rfl) (v := nI 1) (by decide) ?_
          refine r_iload_n C 0 (dk oX10_takeClause 34 rfl) rfl ?_
          refine r_ishl C (dk oX10_takeClause 35 rfl) ?_
          refine r_ior C (dk oX10_takeClause 36 rfl) ?_
          rw [or_bit (by omega)]
          refine r_putI C (dk oX10_takeClause 37 rfl) fl_X10_238 ft_10_36 rfl (km hn rfl) ?_
          refine r_iconst C (dk oX10_takeClause 38 rfl) (v := nI 1) (by decide) ?_
          refine r_istore_n (lo' := [(3, _), (2, _), (0, _), (1, _)]) C (dk oX10_takeClause 39 rfl) rfl (by decide) rfl ?_
          have L72 : ∀ (d_ : Nat) (g : Bool) (m_ : Nat) (Ia : MI), m_ < d_ → mPX p_ I Ia → icI t L p_ Φ (0, sk t L a_, ks, k0, ac) (sk t L a_) (ks ||| 2 ^ (kdOf t L (sk t L a_))) (kdOf t L (sk t L a_)) g m_ Ia → V p l e (rmL 4) s m args below meth c Q D A 4 0 0 n ad (mE cA ad Ia J) 72 [(0, .ref (ad 117)), (1, .int (nI p_)), (2, .int (nI (kdOf t L (sk t L a_)))), (3, .int (b32 g))] [] := by
            intro d_
            induction d_ with
            | zero => intros; exact absurd (by assumption) (Nat.not_lt_zero _)
            | succ d_ ih => 
              intro g m_ Ia hd_ hX hI
              refine r_iload_n C 3 (dk oX10_takeClause 40 rfl) rfl ?_
              refine r_if_eq (tgt := 127) C (dk oX10_takeClause 41 rfl) (by decide) (fun hb73 => ?_) (fun hb73 => ?_)
              · refine r_aload_n C 0 (dk oX10_takeClause 68 rfl) rfl ?_
                refine r_getI C (dk oX10_takeClause 69 rfl) fl_X10_145 rfl (km hn rfl) ?_
                refine r_if_ne (tgt := 170) C (dk oX10_takeClause 70 rfl) (by decide) (fun hb131 => ?_) (fun hb131 => ?_)
                · skip
                  refine hret (dk oX10_takeClause 90 rfl) ?_
                  first
                    | exact ⟨rfl, ((hf1.P).up 29 _ (by decide)).up 30 _ (by decide), Or.inl ⟨1, _, ks, k0, ac, by decide, by decide, by rw [up2_off (by decide), up2_at], up2_at, rchP.one (pS_k0 hsl (Classical.not_not.mp hb27))⟩⟩
                    | exact ⟨rfl, ((hf1.P).up 29 _ (by decide)).up 30 _ (by decide), Or.inl ⟨3, _, ks, k0, ac, by decide, by decide, by rw [up2_off (by decide), up2_at], up2_at, rchP.one (pS_k3 hsl hb27 (by cases h : ks.testBit (kdOf t L (sk t L a_)); exact absurd h hb55; rfl))⟩⟩
                    | exact ⟨rfl, ((hX.tr (hereP hhA136 hhB136)).up 29 _ (by decide)).up 30 _ (by decide), Or.inl ⟨1, _, _, _, _, by decide, by decide, by rw [up2_off (by decide), up2_at], up2_at, hr3.then (pS_no h44 hb157)⟩⟩
                    | exact ⟨rfl, (hX.tr (hereP hhA136 hhB136)).up 26 _ (by decide), Or.inr ⟨sk t L a3 + 1, _, _, ac3, hPS3.at (fun k hk => by rw [up2_ne hk]; exact hhA136 k hk) (fun i a _ _ => by rw [up2_off a]; exact hhB136 i a) up2_at (by have := isS_l hb157; omega), hr3.then (pS_sc h44 hb157), by have := @sk_ge t L (sk t L a3 + 1); omega⟩⟩
                    | (refine ⟨rfl, hX, Or.inl ?_⟩
                       rcases hI with ⟨hg, a1, ac1, hm, hPS1, _⟩ | h | ⟨_, a1, ac1, hPS1, _⟩
                       · exact absurd hPS1.zf hb131
                       · exact h
                       · exact absurd hPS1.zf hb131)
                · obtain ⟨a3, ac3, hPS3, hr3, h44, hlt3⟩ : ∃ a1 ac1, mPS Ia t L p_ a1 (ks ||| 2 ^ (kdOf t L (sk t L a_))) ac1 ∧ rchP (stpP t L p_ Φ) (0, sk t L a_, ks, k0, ac) (2, sk t L a1, (ks ||| 2 ^ (kdOf t L (sk t L a_))), (kdOf t L (sk t L a_)), ac1) ∧ isS t L (sk t L a1) 44 = false ∧ (sk t L a_) < sk t L a1 := by
                    rcases hI with ⟨hg, a1, ac1, hm, hPS1, _⟩ | h | ⟨_, h⟩
                    · exfalso
                      first
                        | (rw [hg] at hb73; exact absurd hb73 (by decide))
                        | exact hb80 hPS1.zf
                    · exact absurd hb131 h.nz
                    · exact h
                  have hs3 : sk t L a3 ≤ L := sk_le hPS3.2.2.1
                  refine r_aload_n C 0 (dk oX10_takeClause 71 rfl) rfl ?_
                  refine r_aload_n C 0 (dk oX10_takeClause 72 rfl) rfl ?_
                  refine r_ivi C Z (dk oX10_takeClause 73 rfl) cl_X10_148 ci_X10_here rfl (km hn rfl) (c_X10_here hn Ia J t L (hPS3.1) (a3) (hPS3.2.1) (hPS3.2.2.1)) rfl rfl (Nat.le_of_ble_eq_true rfl) ⟨Nat.le_of_ble_eq_true rfl, Nat.le_of_ble_eq_true rfl⟩ ⟨Nat.zero_le _, Nat.zero_le _⟩ (fun r136 I136 J136 h136 => ?_)
                  obtain ⟨e1_, hh136, hhA136, hhB136, e2_⟩ := h136
                  have e1_ := e1_.symm
                  have e2_ := e2_.symm
                  subst e1_
                  subst e2_
                  refine r_bipush C (dk oX10_takeClause 74 rfl) (v := nI 59) (by decide) ?_
                  refine r_icmp_ne (tgt := 148) C (dk oX10_takeClause 75 rfl) (by decide) (fun hb141 => ?_) (fun hb141 => ?_)
                  · rw [hr_c (fun h => (hPS3.1.2.2 _ h).1) (by decide)] at hb141
                    refine r_iconst C (dk oX10_takeClause 78 rfl) (v := nI 0) (by decide) ?_
                    refine r_topI (show nI 0 = b32 (decide (isS t L (sk t L a3) 59 = true)) from b32_df hb141) ?_
                    refine r_iconst C (dk oX10_takeClause 79 rfl) (v := nI 1) (by decide) ?_
                    refine r_aload_n C 0 (dk oX10_takeClause 80 rfl) rfl ?_
                    refine r_getI C (dk oX10_takeClause 81 rfl) fl_X10_142 rfl (km hn rfl) ?_
                    rw [hh136]
                    refine r_ivi C Z (dk oX10_takeClause 82 rfl) cl_X10_173 ci_X10_want rfl (km hn rfl) (c_X10_want hn I136 J (decide (isS t L (sk t L a3) 59 = true)) (nI 1) (nI (sk t L a3)) (nI 0) ((hhB136 29 (by decide)).trans hPS3.2.2.2.1)) rfl rfl (Nat.le_of_ble_eq_true rfl) ⟨Nat.le_of_ble_eq_true rfl, Nat.le_of_ble_eq_true rfl⟩ ⟨Nat.zero_le _, Nat.zero_le _⟩ (fun r154 I154 J154 h154 => ?_)
                    obtain ⟨e1_, hW154, e2_⟩ := h154
                    have e1_ := e1_.symm
                    have e2_ := e2_.symm
                    subst e1_
                    subst e2_
                    refine r_if_eq (tgt := 170) C (dk oX10_takeClause 83 rfl) (by decide) (fun hb157 => ?_) (fun hb157 => ?_)
                    · rw [b32_0, decide_eq_false_iff_not] at hb157
                      have hb157 := want_0 hb157
                      have hI154 := want_t hW154 hb157
                      subst hI154
                      refine hret (dk oX10_takeClause 90 rfl) ?_
                      first
                        | exact ⟨rfl, ((hf1.P).up 29 _ (by decide)).up 30 _ (by decide), Or.inl ⟨1, _, ks, k0, ac, by decide, by decide, by rw [up2_off (by decide), up2_at], up2_at, rchP.one (pS_k0 hsl (Classical.not_not.mp hb27))⟩⟩
                        | exact ⟨rfl, ((hf1.P).up 29 _ (by decide)).up 30 _ (by decide), Or.inl ⟨3, _, ks, k0, ac, by decide, by decide, by rw [up2_off (by decide), up2_at], up2_at, rchP.one (pS_k3 hsl hb27 (by cases h : ks.testBit (kdOf t L (sk t L a_)); exact absurd h hb55; rfl))⟩⟩
                        | exact ⟨rfl, ((hX.tr (hereP hhA136 hhB136)).up 29 _ (by decide)).up 30 _ (by decide), Or.inl ⟨1, _, _, _, _, by decide, by decide, by rw [up2_off (by decide), up2_at], up2_at, hr3.then (pS_no h44 hb157)⟩⟩
                        | exact ⟨rfl, (hX.tr (hereP hhA136 hhB136)).up 26 _ (by decide), Or.inr ⟨sk t L a3 + 1, _, _, ac3, hPS3.at (fun k hk => by rw [up2_ne hk]; exact hhA136 k hk) (fun i a _ _ => by rw [up2_off a]; exact hhB136 i a) up2_at (by have := isS_l hb157; omega), hr3.then (pS_sc h44 hb157), by have := @sk_ge t L (sk t L a3 + 1); omega⟩⟩
                        | (refine ⟨rfl, hX, Or.inl ?_⟩
                           rcases hI with ⟨hg, a1, ac1, hm, hPS1, _⟩ | h | ⟨_, a1, ac1, hPS1, _⟩
                           · exact absurd hPS1.zf hb131
                           · exact h
                           · exact absurd hPS1.zf hb131)
                    · rw [b32_n, decide_eq_true_eq] at hb157
                      have hb157 := want_1 (by decide) hb157
                      have hI154 := want_f hW154 hb157
                      subst hI154
                      refine r_aload_n C 0 (dk oX10_takeClause 84 rfl) rfl ?_
                      refine r_dup C (dk oX10_takeClause 85 rfl) rfl ?_
                      refine r_getI C (dk oX10_takeClause 86 rfl) fl_X10_142 rfl (km hn rfl) ?_
                      rw [hh136]
                      refine r_iconst C (dk oX10_takeClause 87 rfl) (v := nI 1) (by decide) ?_
                      refine r_iadd C (dk oX10_takeClause 88 rfl) ?_
                      rw [nI_add]
                      refine r_putI C (dk oX10_takeClause 89 rfl) fl_X10_142 ft_10_26 rfl (km hn rfl) ?_
                      refine hret (dk oX10_takeClause 90 rfl) ?_
                      first
                        | exact ⟨rfl, ((hf1.P).up 29 _ (by decide)).up 30 _ (by decide), Or.inl ⟨1, _, ks, k0, ac, by decide, by decide, by rw [up2_off (by decide), up2_at], up2_at, rchP.one (pS_k0 hsl (Classical.not_not.mp hb27))⟩⟩
                        | exact ⟨rfl, ((hf1.P).up 29 _ (by decide)).up 30 _ (by decide), Or.inl ⟨3, _, ks, k0, ac, by decide, by decide, by rw [up2_off (by decide), up2_at], up2_at, rchP.one (pS_k3 hsl hb27 (by cases h : ks.testBit (kdOf t L (sk t L a_)); exact absurd h hb55; rfl))⟩⟩
                        | exact ⟨rfl, ((hX.tr (hereP hhA136 hhB136)).up 29 _ (by decide)).up 30 _ (by decide), Or.inl ⟨1, _, _, _, _, by decide, by decide, by rw [up2_off (by decide), up2_at], up2_at, hr3.then (pS_no h44 hb157)⟩⟩
                        | exact ⟨rfl, (hX.tr (hereP hhA136 hhB136)).up 26 _ (by decide), Or.inr ⟨sk t L a3 + 1, _, _, ac3, hPS3.at (fun k hk => by rw [up2_ne hk]; exact hhA136 k hk) (fun i a _ _ => by rw [up2_off a]; exact hhB136 i a) up2_at (by have := isS_l hb157; omega), hr3.then (pS_sc h44 hb157), by have := @sk_ge t L (sk t L a3 + 1); omega⟩⟩
                        | (refine ⟨rfl, hX, Or.inl ?_⟩
                           rcases hI with ⟨hg, a1, ac1, hm, hPS1, _⟩ | h | ⟨_, a1, ac1, hPS1, _⟩
                           · exact absurd hPS1.zf hb131
                           · exact h
                           · exact absurd hPS1.zf hb131)
                  · rw [hr_c (fun h => (hPS3.1.2.2 _ h).1) (by decide)] at hb141
                    refine r_iconst C (dk oX10_takeClause 76 rfl) (v := nI 1) (by decide) ?_
                    refine r_topI (show nI 1 = b32 (decide (isS t L (sk t L a3) 59 = true)) from b32_dt hb141) ?_
                    refine r_goto (tgt := 149) C (dk oX10_takeClause 77 rfl) (by decide) ?_
                    refine r_iconst C (dk oX10_takeClause 79 rfl) (v := nI 1) (by decide) ?_
                    refine r_aload_n C 0 (dk oX10_takeClause 80 rfl) rfl ?_
                    refine r_getI C (dk oX10_takeClause 81 rfl) fl_X10_142 rfl (km hn rfl) ?_
                    rw [hh136]
                    refine r_ivi C Z (dk oX10_takeClause 82 rfl) cl_X10_173 ci_X10_want rfl (km hn rfl) (c_X10_want hn I136 J (decide (isS t L (sk t L a3) 59 = true)) (nI 1) (nI (sk t L a3)) (nI 0) ((hhB136 29 (by decide)).trans hPS3.2.2.2.1)) rfl rfl (Nat.le_of_ble_eq_true rfl) ⟨Nat.le_of_ble_eq_true rfl, Nat.le_of_ble_eq_true rfl⟩ ⟨Nat.zero_le _, Nat.zero_le _⟩ (fun r154 I154 J154 h154 => ?_)
                    obtain ⟨e1_, hW154, e2_⟩ := h154
                    have e1_ := e1_.symm
                    have e2_ := e2_.symm
                    subst e1_
                    subst e2_
                    refine r_if_eq (tgt := 170) C (dk oX10_takeClause 83 rfl) (by decide) (fun hb157 => ?_) (fun hb157 => ?_)
                    · rw [b32_0, decide_eq_false_iff_not] at hb157
                      have hb157 := want_0 hb157
                      have hI154 := want_t hW154 hb157
                      subst hI154
                      refine hret (dk oX10_takeClause 90 rfl) ?_
                      first
                        | exact ⟨rfl, ((hf1.P).up 29 _ (by decide)).up 30 _ (by decide), Or.inl ⟨1, _, ks, k0, ac, by decide, by decide, by rw [up2_off (by decide), up2_at], up2_at, rchP.one (pS_k0 hsl (Classical.not_not.mp hb27))⟩⟩
                        | exact ⟨rfl, ((hf1.P).up 29 _ (by decide)).up 30 _ (by decide), Or.inl ⟨3, _, ks, k0, ac, by decide, by decide, by rw [up2_off (by decide), up2_at], up2_at, rchP.one (pS_k3 hsl hb27 (by cases h : ks.testBit (kdOf t L (sk t L a_)); exact absurd h hb55; rfl))⟩⟩
                        | exact ⟨rfl, ((hX.tr (hereP hhA136 hhB136)).up 29 _ (by decide)).up 30 _ (by decide), Or.inl ⟨1, _, _, _, _, by decide, by decide, by rw [up2_off (by decide), up2_at], up2_at, hr3.then (pS_no h44 hb157)⟩⟩
                        | exact ⟨rfl, (hX.tr (hereP hhA136 hhB136)).up 26 _ (by decide), Or.inr ⟨sk t L a3 + 1, _, _, ac3, hPS3.at (fun k hk => by rw [up2_ne hk]; exact hhA136 k hk) (fun i a _ _ => by rw [up2_off a]; exact hhB136 i a) up2_at (by have := isS_l hb157; omega), hr3.then (pS_sc h44 hb157), by have := @sk_ge t L (sk t L a3 + 1); omega⟩⟩
                        | (refine ⟨rfl, hX, Or.inl ?_⟩
                           rcases hI with ⟨hg, a1, ac1, hm, hPS1, _⟩ | h | ⟨_, a1, ac1, hPS1, _⟩
                           · exact absurd hPS1.zf hb131
                           · exact h
                           · exact absurd hPS1.zf hb131)
                    · rw [b32_n, decide_eq_true_eq] at hb157
                      have hb157 := want_1 (by decide) hb157
                      have hI154 := want_f hW154 hb157
                      subst hI154
                      refine r_aload_n C 0 (dk oX10_takeClause 84 rfl) rfl ?_
                      refine r_dup C (dk oX10_takeClause 85 rfl) rfl ?_
                      refine r_getI C (dk oX10_takeClause 86 rfl) fl_X10_142 rfl (km hn rfl) ?_
                      rw [hh136]
                      refine r_iconst C (dk oX10_takeClause 87 rfl) (v := nI 1) (by decide) ?_
                      refine r_iadd C (dk oX10_takeClause 88 rfl) ?_
                      rw [nI_add]
                      refine r_putI C (dk oX10_takeClause 89 rfl) fl_X10_142 ft_10_26 rfl (km hn rfl) ?_
                      refine hret (dk oX10_takeClause 90 rfl) ?_
                      first
                        | exact ⟨rfl, ((hf1.P).up 29 _ (by decide)).up 30 _ (by decide), Or.inl ⟨1, _, ks, k0, ac, by decide, by decide, by rw [up2_off (by decide), up2_at], up2_at, rchP.one (pS_k0 hsl (Classical.not_not.mp hb27))⟩⟩
                        | exact ⟨rfl, ((hf1.P).up 29 _ (by decide)).up 30 _ (by decide), Or.inl ⟨3, _, ks, k0, ac, by decide, by decide, by rw [up2_off (by decide), up2_at], up2_at, rchP.one (pS_k3 hsl hb27 (by cases h : ks.testBit (kdOf t L (sk t L a_)); exact absurd h hb55; rfl))⟩⟩
                        | exact ⟨rfl, ((hX.tr (hereP hhA136 hhB136)).up 29 _ (by decide)).up 30 _ (by decide), Or.inl ⟨1, _, _, _, _, by decide, by decide, by rw [up2_off (by decide), up2_at], up2_at, hr3.then (pS_no h44 hb157)⟩⟩
                        | exact ⟨rfl, (hX.tr (hereP hhA136 hhB136)).up 26 _ (by decide), Or.inr ⟨sk t L a3 + 1, _, _, ac3, hPS3.at (fun k hk => by rw [up2_ne hk]; exact hhA136 k hk) (fun i a _ _ => by rw [up2_off a]; exact hhB136 i a) up2_at (by have := isS_l hb157; omega), hr3.then (pS_sc h44 hb157), by have := @sk_ge t L (sk t L a3 + 1); omega⟩⟩
                        | (refine ⟨rfl, hX, Or.inl ?_⟩
                           rcases hI with ⟨hg, a1, ac1, hm, hPS1, _⟩ | h | ⟨_, a1, ac1, hPS1, _⟩
                           · exact absurd hPS1.zf hb131
                           · exact h
                           · exact absurd hPS1.zf hb131)
              · refine r_aload_n C 0 (dk oX10_takeClause 42 rfl) rfl ?_
                refine r_getI C (dk oX10_takeClause 43 rfl) fl_X10_145 rfl (km hn rfl) ?_
                refine r_if_ne (tgt := 127) C (dk oX10_takeClause 44 rfl) (by decide) (fun hb80 => ?_) (fun hb80 => ?_)
                · refine r_aload_n C 0 (dk oX10_takeClause 68 rfl) rfl ?_
                  refine r_getI C (dk oX10_takeClause 69 rfl) fl_X10_145 rfl (km hn rfl) ?_
                  refine r_if_ne (tgt := 170) C (dk oX10_takeClause 70 rfl) (by decide) (fun hb131 => ?_) (fun hb131 => ?_)
                  · skip
                    refine hret (dk oX10_takeClause 90 rfl) ?_
                    first
                      | exact ⟨rfl, ((hf1.P).up 29 _ (by decide)).up 30 _ (by decide), Or.inl ⟨1, _, ks, k0, ac, by decide, by decide, by rw [up2_off (by decide), up2_at], up2_at, rchP.one (pS_k0 hsl (Classical.not_not.mp hb27))⟩⟩
                      | exact ⟨rfl, ((hf1.P).up 29 _ (by decide)).up 30 _ (by decide), Or.inl ⟨3, _, ks, k0, ac, by decide, by decide, by rw [up2_off (by decide), up2_at], up2_at, rchP.one (pS_k3 hsl hb27 (by cases h : ks.testBit (kdOf t L (sk t L a_)); exact absurd h hb55; rfl))⟩⟩
                      | exact ⟨rfl, ((hX.tr (hereP hhA136 hhB136)).up 29 _ (by decide)).up 30 _ (by decide), Or.inl ⟨1, _, _, _, _, by decide, by decide, by rw [up2_off (by decide), up2_at], up2_at, hr3.then (pS_no h44 hb157)⟩⟩
                      | exact ⟨rfl, (hX.tr (hereP hhA136 hhB136)).up 26 _ (by decide), Or.inr ⟨sk t L a3 + 1, _, _, ac3, hPS3.at (fun k hk => by rw [up2_ne hk]; exact hhA136 k hk) (fun i a _ _ => by rw [up2_off a]; exact hhB136 i a) up2_at (by have := isS_l hb157; omega), hr3.then (pS_sc h44 hb157), by have := @sk_ge t L (sk t L a3 + 1); omega⟩⟩
                      | (refine ⟨rfl, hX, Or.inl ?_⟩
                         rcases hI with ⟨hg, a1, ac1, hm, hPS1, _⟩ | h | ⟨_, a1, ac1, hPS1, _⟩
                         · exact absurd hPS1.zf hb131
                         · exact h
                         · exact absurd hPS1.zf hb131)
                  · obtain ⟨a3, ac3, hPS3, hr3, h44, hlt3⟩ : ∃ a1 ac1, mPS Ia t L p_ a1 (ks ||| 2 ^ (kdOf t L (sk t L a_))) ac1 ∧ rchP (stpP t L p_ Φ) (0, sk t L a_, ks, k0, ac) (2, sk t L a1, (ks ||| 2 ^ (kdOf t L (sk t L a_))), (kdOf t L (sk t L a_)), ac1) ∧ isS t L (sk t L a1) 44 = false ∧ (sk t L a_) < sk t L a1 := by
                      rcases hI with ⟨hg, a1, ac1, hm, hPS1, _⟩ | h | ⟨_, h⟩
                      · exfalso
                        first
                          | (rw [hg] at hb73; exact absurd hb73 (by decide))
                          | exact hb80 hPS1.zf
                      · exact absurd hb131 h.nz
                      · exact h
                    have hs3 : sk t L a3 ≤ L := sk_le hPS3.2.2.1
                    refine r_aload_n C 0 (dk oX10_takeClause 71 rfl) rfl ?_
                    refine r_aload_n C 0 (dk oX10_takeClause 72 rfl) rfl ?_
                    refine r_ivi C Z (dk oX10_takeClause 73 rfl) cl_X10_148 ci_X10_here rfl (km hn rfl) (c_X10_here hn Ia J t L (hPS3.1) (a3) (hPS3.2.1) (hPS3.2.2.1)) rfl rfl (Nat.le_of_ble_eq_true rfl) ⟨Nat.le_of_ble_eq_true rfl, Nat.le_of_ble_eq_true rfl⟩ ⟨Nat.zero_le _, Nat.zero_le _⟩ (fun r136 I136 J136 h136 => ?_)
                    obtain ⟨e1_, hh136, hhA136, hhB136, e2_⟩ := h136
                    have e1_ := e1_.symm
                    have e2_ := e2_.symm
                    subst e1_
                    subst e2_
                    refine r_bipush C (dk oX10_takeClause 74 rfl) (v := nI 59) (by decide) ?_
                    refine r_icmp_ne (tgt := 148) C (dk oX10_takeClause 75 rfl) (by decide) (fun hb141 => ?_) (fun hb141 => ?_)
                    · rw [hr_c (fun h => (hPS3.1.2.2 _ h).1) (by decide)] at hb141
                      refine r_iconst C (dk oX10_takeClause 78 rfl) (v := nI 0) (by decide) ?_
                      refine r_topI (show nI 0 = b32 (decide (isS t L (sk t L a3) 59 = true)) from b32_df hb141) ?_
                      refine r_iconst C (dk oX10_takeClause 79 rfl) (v := nI 1) (by decide) ?_
                      refine r_aload_n C 0 (dk oX10_takeClause 80 rfl) rfl ?_
                      refine r_getI C (dk oX10_takeClause 81 rfl) fl_X10_142 rfl (km hn rfl) ?_
                      rw [hh136]
                      refine r_ivi C Z (dk oX10_takeClause 82 rfl) cl_X10_173 ci_X10_want rfl (km hn rfl) (c_X10_want hn I136 J (decide (isS t L (sk t L a3) 59 = true)) (nI 1) (nI (sk t L a3)) (nI 0) ((hhB136 29 (by decide)).trans hPS3.2.2.2.1)) rfl rfl (Nat.le_of_ble_eq_true rfl) ⟨Nat.le_of_ble_eq_true rfl, Nat.le_of_ble_eq_true rfl⟩ ⟨Nat.zero_le _, Nat.zero_le _⟩ (fun r154 I154 J154 h154 => ?_)
                      obtain ⟨e1_, hW154, e2_⟩ := h154
                      have e1_ := e1_.symm
                      have e2_ := e2_.symm
                      subst e1_
                      subst e2_
                      refine r_if_eq (tgt := 170) C (dk oX10_takeClause 83 rfl) (by decide) (fun hb157 => ?_) (fun hb157 => ?_)
                      · rw [b32_0, decide_eq_false_iff_not] at hb157
                        have hb157 := want_0 hb157
                        have hI154 := want_t hW154 hb157
                        subst hI154
                        refine hret (dk oX10_takeClause 90 rfl) ?_
                        first
                          | exact ⟨rfl, ((hf1.P).up 29 _ (by decide)).up 30 _ (by decide), Or.inl ⟨1, _, ks, k0, ac, by decide, by decide, by rw [up2_off (by decide), up2_at], up2_at, rchP.one (pS_k0 hsl (Classical.not_not.mp hb27))⟩⟩
                          | exact ⟨rfl, ((hf1.P).up 29 _ (by decide)).up 30 _ (by decide), Or.inl ⟨3, _, ks, k0, ac, by decide, by decide, by rw [up2_off (by decide), up2_at], up2_at, rchP.one (pS_k3 hsl hb27 (by cases h : ks.testBit (kdOf t L (sk t L a_)); exact absurd h hb55; rfl))⟩⟩
                          | exact ⟨rfl, ((hX.tr (hereP hhA136 hhB136)).up 29 _ (by decide)).up 30 _ (by decide), Or.inl ⟨1, _, _, _, _, by decide, by decide, by rw [up2_off (by decide), up2_at], up2_at, hr3.then (pS_no h44 hb157)⟩⟩
                          | exact ⟨rfl, (hX.tr (hereP hhA136 hhB136)).up 26 _ (by decide), Or.inr ⟨sk t L a3 + 1, _, _, ac3, hPS3.at (fun k hk => by rw [up2_ne hk]; exact hhA136 k hk) (fun i a _ _ => by rw [up2_off a]; exact hhB136 i a) up2_at (by have := isS_l hb157; omega), hr3.then (pS_sc h44 hb157), by have := @sk_ge t L (sk t L a3 + 1); omega⟩⟩
                          | (refine ⟨rfl, hX, Or.inl ?_⟩
                             rcases hI with ⟨hg, a1, ac1, hm, hPS1, _⟩ | h | ⟨_, a1, ac1, hPS1, _⟩
                             · exact absurd hPS1.zf hb131
                             · exact h
                             · exact absurd hPS1.zf hb131)
                      · rw [b32_n, decide_eq_true_eq] at hb157
                        have hb157 := want_1 (by decide) hb157
                        have hI154 := want_f hW154 hb157
                        subst hI154
                        refine r_aload_n C 0 (dk oX10_takeClause 84 rfl) rfl ?_
                        refine r_dup C (dk oX10_takeClause 85 rfl) rfl ?_
                        refine r_getI C (dk oX10_takeClause 86 rfl) fl_X10_142 rfl (km hn rfl) ?_
                        rw [hh136]
                        refine r_iconst C (dk oX10_takeClause 87 rfl) (v := nI 1) (by decide) ?_
                        refine r_iadd C (dk oX10_takeClause 88 rfl) ?_
                        rw [nI_add]
                        refine r_putI C (dk oX10_takeClause 89 rfl) fl_X10_142 ft_10_26 rfl (km hn rfl) ?_
                        refine hret (dk oX10_takeClause 90 rfl) ?_
                        first
                          | exact ⟨rfl, ((hf1.P).up 29 _ (by decide)).up 30 _ (by decide), Or.inl ⟨1, _, ks, k0, ac, by decide, by decide, by rw [up2_off (by decide), up2_at], up2_at, rchP.one (pS_k0 hsl (Classical.not_not.mp hb27))⟩⟩
                          | exact ⟨rfl, ((hf1.P).up 29 _ (by decide)).up 30 _ (by decide), Or.inl ⟨3, _, ks, k0, ac, by decide, by decide, by rw [up2_off (by decide), up2_at], up2_at, rchP.one (pS_k3 hsl hb27 (by cases h : ks.testBit (kdOf t L (sk t L a_)); exact absurd h hb55; rfl))⟩⟩
                          | exact ⟨rfl, ((hX.tr (hereP hhA136 hhB136)).up 29 _ (by decide)).up 30 _ (by decide), Or.inl ⟨1, _, _, _, _, by decide, by decide, by rw [up2_off (by decide), up2_at], up2_at, hr3.then (pS_no h44 hb157)⟩⟩
                          | exact ⟨rfl, (hX.tr (hereP hhA136 hhB136)).up 26 _ (by decide), Or.inr ⟨sk t L a3 + 1, _, _, ac3, hPS3.at (fun k hk => by rw [up2_ne hk]; exact hhA136 k hk) (fun i a _ _ => by rw [up2_off a]; exact hhB136 i a) up2_at (by have := isS_l hb157; omega), hr3.then (pS_sc h44 hb157), by have := @sk_ge t L (sk t L a3 + 1); omega⟩⟩
                          | (refine ⟨rfl, hX, Or.inl ?_⟩
                             rcases hI with ⟨hg, a1, ac1, hm, hPS1, _⟩ | h | ⟨_, a1, ac1, hPS1, _⟩
                             · exact absurd hPS1.zf hb131
                             · exact h
                             · exact absurd hPS1.zf hb131)
                    · rw [hr_c (fun h => (hPS3.1.2.2 _ h).1) (by decide)] at hb141
                      refine r_iconst C (dk oX10_takeClause 76 rfl) (v := nI 1) (by decide) ?_
                      refine r_topI (show nI 1 = b32 (decide (isS t L (sk t L a3) 59 = true)) from b32_dt hb141) ?_
                      refine r_goto (tgt := 149) C (dk oX10_takeClause 77 rfl) (by decide) ?_
                      refine r_iconst C (dk oX10_takeClause 79 rfl) (v := nI 1) (by decide) ?_
                      refine r_aload_n C 0 (dk oX10_takeClause 80 rfl) rfl ?_
                      refine r_getI C (dk oX10_takeClause 81 rfl) fl_X10_142 rfl (km hn rfl) ?_
                      rw [hh136]
                      refine r_ivi C Z (dk oX10_takeClause 82 rfl) cl_X10_173 ci_X10_want rfl (km hn rfl) (c_X10_want hn I136 J (decide (isS t L (sk t L a3) 59 = true)) (nI 1) (nI (sk t L a3)) (nI 0) ((hhB136 29 (by decide)).trans hPS3.2.2.2.1)) rfl rfl (Nat.le_of_ble_eq_true rfl) ⟨Nat.le_of_ble_eq_true rfl, Nat.le_of_ble_eq_true rfl⟩ ⟨Nat.zero_le _, Nat.zero_le _⟩ (fun r154 I154 J154 h154 => ?_)
                      obtain ⟨e1_, hW154, e2_⟩ := h154
                      have e1_ := e1_.symm
                      have e2_ := e2_.symm
                      subst e1_
                      subst e2_
                      refine r_if_eq (tgt := 170) C (dk oX10_takeClause 83 rfl) (by decide) (fun hb157 => ?_) (fun hb157 => ?_)
                      · rw [b32_0, decide_eq_false_iff_not] at hb157
                        have hb157 := want_0 hb157
                        have hI154 := want_t hW154 hb157
                        subst hI154
                        refine hret (dk oX10_takeClause 90 rfl) ?_
                        first
                          | exact ⟨rfl, ((hf1.P).up 29 _ (by decide)).up 30 _ (by decide), Or.inl ⟨1, _, ks, k0, ac, by decide, by decide, by rw [up2_off (by decide), up2_at], up2_at, rchP.one (pS_k0 hsl (Classical.not_not.mp hb27))⟩⟩
                          | exact ⟨rfl, ((hf1.P).up 29 _ (by decide)).up 30 _ (by decide), Or.inl ⟨3, _, ks, k0, ac, by decide, by decide, by rw [up2_off (by decide), up2_at], up2_at, rchP.one (pS_k3 hsl hb27 (by cases h : ks.testBit (kdOf t L (sk t L a_)); exact absurd h hb55; rfl))⟩⟩
                          | exact ⟨rfl, ((hX.tr (hereP hhA136 hhB136)).up 29 _ (by decide)).up 30 _ (by decide), Or.inl ⟨1, _, _, _, _, by decide, by decide, by rw [up2_off (by decide), up2_at], up2_at, hr3.then (pS_no h44 hb157)⟩⟩
                          | exact ⟨rfl, (hX.tr (hereP hhA136 hhB136)).up 26 _ (by decide), Or.inr ⟨sk t L a3 + 1, _, _, ac3, hPS3.at (fun k hk => by rw [up2_ne hk]; exact hhA136 k hk) (fun i a _ _ => by rw [up2_off a]; exact hhB136 i a) up2_at (by have := isS_l hb157; omega), hr3.then (pS_sc h44 hb157), by have := @sk_ge t L (sk t L a3 + 1); omega⟩⟩
                          | (refine ⟨rfl, hX, Or.inl ?_⟩
                             rcases hI with ⟨hg, a1, ac1, hm, hPS1, _⟩ | h | ⟨_, a1, ac1, hPS1, _⟩
                             · exact absurd hPS1.zf hb131
                             · exact h
                             · exact absurd hPS1.zf hb131)
                      · rw [b32_n, decide_eq_true_eq] at hb157
                        have hb157 := want_1 (by decide) hb157
                        have hI154 := want_f hW154 hb157
                        subst hI154
                        refine r_aload_n C 0 (dk oX10_takeClause 84 rfl) rfl ?_
                        refine r_dup C (dk oX10_takeClause 85 rfl) rfl ?_
                        refine r_getI C (dk oX10_takeClause 86 rfl) fl_X10_142 rfl (km hn rfl) ?_
                        rw [hh136]
                        refine r_iconst C (dk oX10_takeClause 87 rfl) (v := nI 1) (by decide) ?_
                        refine r_iadd C (dk oX10_takeClause 88 rfl) ?_
                        rw [nI_add]
                        refine r_putI C (dk oX10_takeClause 89 rfl) fl_X10_142 ft_10_26 rfl (km hn rfl) ?_
                        refine hret (dk oX10_takeClause 90 rfl) ?_
                        first
                          | exact ⟨rfl, ((hf1.P).up 29 _ (by decide)).up 30 _ (by decide), Or.inl ⟨1, _, ks, k0, ac, by decide, by decide, by rw [up2_off (by decide), up2_at], up2_at, rchP.one (pS_k0 hsl (Classical.not_not.mp hb27))⟩⟩
                          | exact ⟨rfl, ((hf1.P).up 29 _ (by decide)).up 30 _ (by decide), Or.inl ⟨3, _, ks, k0, ac, by decide, by decide, by rw [up2_off (by decide), up2_at], up2_at, rchP.one (pS_k3 hsl hb27 (by cases h : ks.testBit (kdOf t L (sk t L a_)); exact absurd h hb55; rfl))⟩⟩
                          | exact ⟨rfl, ((hX.tr (hereP hhA136 hhB136)).up 29 _ (by decide)).up 30 _ (by decide), Or.inl ⟨1, _, _, _, _, by decide, by decide, by rw [up2_off (by decide), up2_at], up2_at, hr3.then (pS_no h44 hb157)⟩⟩
                          | exact ⟨rfl, (hX.tr (hereP hhA136 hhB136)).up 26 _ (by decide), Or.inr ⟨sk t L a3 + 1, _, _, ac3, hPS3.at (fun k hk => by rw [up2_ne hk]; exact hhA136 k hk) (fun i a _ _ => by rw [up2_off a]; exact hhB136 i a) up2_at (by have := isS_l hb157; omega), hr3.then (pS_sc h44 hb157), by have := @sk_ge t L (sk t L a3 + 1); omega⟩⟩
                          | (refine ⟨rfl, hX, Or.inl ?_⟩
                             rcases hI with ⟨hg, a1, ac1, hm, hPS1, _⟩ | h | ⟨_, a1, ac1, hPS1, _⟩
                             · exact absurd hPS1.zf hb131
                             · exact h
                             · exact absurd hPS1.zf hb131)
                · obtain ⟨a1, ac1, hm, hPS1, hr, hlt⟩ : ∃ a1 ac1, m_ = L + 2 - sk t L a1 ∧ mPS Ia t L p_ a1 (ks ||| 2 ^ (kdOf t L (sk t L a_))) ac1 ∧ rchP (stpP t L p_ Φ) (0, sk t L a_, ks, k0, ac) (1, sk t L a1, (ks ||| 2 ^ (kdOf t L (sk t L a_))), (kdOf t L (sk t L a_)), ac1) ∧ (sk t L a_) < sk t L a1 := by
                    rcases hI with ⟨_, h⟩ | h | ⟨h, _⟩
                    · exact h
                    · exact absurd hb80 h.nz
                    · rw [h] at hb73
                      exact absurd rfl hb73
                  refine r_aload_n C 0 (dk oX10_takeClause 45 rfl) rfl ?_
                  refine r_iload_n C 2 (dk oX10_takeClause 46 rfl) rfl ?_
                  refine r_iload_n C 1 (dk oX10_takeClause 47 rfl) rfl ?_
                  refine r_ivv C Z (dk oX10_takeClause 48 rfl) cl_X10_241 ci_X10_takeItem rfl (km hn rfl) (c_X10_takeItem hn Ia J t L p_ a1 (ks ||| 2 ^ (kdOf t L (sk t L a_))) (kdOf t L (sk t L a_)) ac1 hp ⟨Nat.pos_of_ne_zero hb27, hkd⟩ Φ (hM.P hX) hok hPS1) rfl rfl (Nat.le_of_ble_eq_true rfl) ⟨Nat.le_of_ble_eq_true rfl, Nat.le_of_ble_eq_true rfl⟩ ⟨Nat.zero_le _, Nat.zero_le _⟩ (fun I86 J86 h86 => ?_)
                  obtain ⟨e2_, hX86, ho86⟩ := h86
                  have e2_ := e2_.symm
                  subst e2_
                  refine r_aload_n C 0 (dk oX10_takeClause 49 rfl) rfl ?_
                  refine r_getI C (dk oX10_takeClause 50 rfl) fl_X10_145 rfl (km hn rfl) ?_
                  refine r_if_ne (tgt := 109) C (dk oX10_takeClause 51 rfl) (by decide) (fun hb93 => ?_) (fun hb93 => ?_)
                  · have hbd : mPB t L p_ Φ (0, sk t L a_, ks, k0, ac) I86 := by
                      rcases ho86 with h | ⟨a2, ac2, h, _⟩
                      · exact h.to hr
                      · exact absurd h.zf hb93
                    refine r_iconst C (dk oX10_takeClause 58 rfl) (v := nI 0) (by decide) ?_
                    refine r_topI (show nI 0 = b32 false from rfl) ?_
                    refine r_istore_n (lo' := [(3, _), (0, _), (1, _), (2, _)]) C (dk oX10_takeClause 59 rfl) rfl (by decide) rfl ?_
                    refine r_aload_n C 1 (dk oX10_takeClause 60 rfl) rfl ?_
                    refine r_dup C (dk oX10_takeClause 61 rfl) rfl ?_
                    refine r_getI C (dk oX10_takeClause 62 rfl) fl_X10_142 rfl (km hn rfl) ?_
                    first
                      | rw [hh97]
                      | skip
                    refine r_iload_n C 0 (dk oX10_takeClause 63 rfl) rfl ?_
                    refine r_isi C Z (dk oX10_takeClause 64 rfl) cl_X10_109 st_X10_one (c_X10_one _ J _) rfl rfl (Nat.le_of_ble_eq_true rfl) ⟨Nat.le_of_ble_eq_true rfl, Nat.le_of_ble_eq_true rfl⟩ ⟨Nat.zero_le _, Nat.zero_le _⟩ (fun r117 I117 J117 h117 => ?_)
                    obtain ⟨h117, e1_, e2_⟩ := h117
                    have e1_ := e1_.symm
                    have e2_ := e2_.symm
                    subst e1_
                    subst e2_
                    subst h117
                    refine r_iadd C (dk oX10_takeClause 65 rfl) ?_
                    first
                      | rw [show b32 true = nI 1 from rfl, nI_add]
                      | rw [show b32 false = nI 0 from rfl, nI_add, Nat.add_zero]
                      | skip
                    refine r_putI C (dk oX10_takeClause 66 rfl) fl_X10_142 ft_10_26 rfl (km hn rfl) ?_
                    refine r_goto (tgt := 72) C (dk oX10_takeClause 67 rfl) (by decide) ?_
                    refine V.sub [1, 2, 3, 0] rfl ?_
                    have hs1 : sk t L a1 ≤ L := sk_le hPS1.2.2.1
                    first
                      | exact ih false 0 _ (by omega) ((hX.tr hX86).up 26 _ (by decide)) (Or.inr (Or.inl (by
                          obtain ⟨f, s', ks', k', a', q1, q2, q3, q4, q5⟩ := hbd
                          exact ⟨f, s', ks', k', a', q1, q2, by rw [up2_off (by decide)]; exact q3, by rw [up2_off (by decide)]; exact q4, q5⟩)))
                      | exact ih true (L + 2 - sk t L (sk t L a2 + 1)) _ (by have := isS_l hb102; have := @sk_ge t L (sk t L a2 + 1); omega) (((hX.tr hX86).tr (hereP hhA97 hhB97)).up 26 _ (by decide)) (Or.inl ⟨rfl, sk t L a2 + 1, ac2, rfl, hPS2.at (fun k hk => by rw [up2_ne hk]; exact hhA97 k hk) (fun i a _ _ => by rw [up2_off a]; exact hhB97 i a) up2_at (by have := isS_l hb102; omega), (hr.trans hr2).then (pS_cm hb102), by have := @sk_ge t L (sk t L a2 + 1); omega⟩)
                      | exact ih false 0 _ (by omega) (((hX.tr hX86).tr (hereP hhA97 hhB97)).up 26 _ (by decide)) (Or.inr (Or.inr ⟨rfl, sk t L a2, ac2, hPS2.at (fun k hk => by rw [up2_ne hk]; exact hhA97 k hk) (fun i a _ _ => by rw [up2_off a]; exact hhB97 i a) up2_at (sk_le hPS2.2.2.1), by rw [sk_sk]; exact hr.trans hr2, by rw [sk_sk]; exact hb102, by rw [sk_sk]; omega⟩))
                  · obtain ⟨a2, ac2, hPS2, hr2, hlt2⟩ : ∃ a2 ac2, mPS I86 t L p_ a2 (ks ||| 2 ^ (kdOf t L (sk t L a_))) ac2 ∧ rchP (stpP t L p_ Φ) (1, sk t L a1, (ks ||| 2 ^ (kdOf t L (sk t L a_))), (kdOf t L (sk t L a_)), ac1) (2, sk t L a2, (ks ||| 2 ^ (kdOf t L (sk t L a_))), (kdOf t L (sk t L a_)), ac2) ∧ sk t L a1 < sk t L a2 := by
                      rcases ho86 with h | h
                      · exact absurd hb93 h.nz
                      · exact h
                    refine r_aload_n C 0 (dk oX10_takeClause 52 rfl) rfl ?_
                    refine r_ivi C Z (dk oX10_takeClause 53 rfl) cl_X10_148 ci_X10_here rfl (km hn rfl) (c_X10_here hn I86 J t L (hPS2.1) (a2) (hPS2.2.1) (hPS2.2.2.1)) rfl rfl (Nat.le_of_ble_eq_true rfl) ⟨Nat.le_of_ble_eq_true rfl, Nat.le_of_ble_eq_true rfl⟩ ⟨Nat.zero_le _, Nat.zero_le _⟩ (fun r97 I97 J97 h97 => ?_)
                    obtain ⟨e1_, hh97, hhA97, hhB97, e2_⟩ := h97
                    have e1_ := e1_.symm
                    have e2_ := e2_.symm
                    subst e1_
                    subst e2_
                    refine r_bipush C (dk oX10_takeClause 54 rfl) (v := nI 44) (by decide) ?_
                    refine r_icmp_ne (tgt := 109) C (dk oX10_takeClause 55 rfl) (by decide) (fun hb102 => ?_) (fun hb102 => ?_)
                    · rw [hr_c (fun h => (hPS2.1.2.2 _ h).1) (by decide)] at hb102
                      have hb102 := nbf hb102
                      refine r_iconst C (dk oX10_takeClause 58 rfl) (v := nI 0) (by decide) ?_
                      refine r_topI (show nI 0 = b32 false from rfl) ?_
                      refine r_istore_n (lo' := [(3, _), (0, _), (1, _), (2, _)]) C (dk oX10_takeClause 59 rfl) rfl (by decide) rfl ?_
                      refine r_aload_n C 1 (dk oX10_takeClause 60 rfl) rfl ?_
                      refine r_dup C (dk oX10_takeClause 61 rfl) rfl ?_
                      refine r_getI C (dk oX10_takeClause 62 rfl) fl_X10_142 rfl (km hn rfl) ?_
                      first
                        | rw [hh97]
                        | skip
                      refine r_iload_n C 0 (dk oX10_takeClause 63 rfl) rfl ?_
                      refine r_isi C Z (dk oX10_takeClause 64 rfl) cl_X10_109 st_X10_one (c_X10_one _ J _) rfl rfl (Nat.le_of_ble_eq_true rfl) ⟨Nat.le_of_ble_eq_true rfl, Nat.le_of_ble_eq_true rfl⟩ ⟨Nat.zero_le _, Nat.zero_le _⟩ (fun r117 I117 J117 h117 => ?_)
                      obtain ⟨h117, e1_, e2_⟩ := h117
                      have e1_ := e1_.symm
                      have e2_ := e2_.symm
                      subst e1_
                      subst e2_
                      subst h117
                      refine r_iadd C (dk oX10_takeClause 65 rfl) ?_
                      first
                        | rw [show b32 true = nI 1 from rfl, nI_add]
                        | rw [show b32 false = nI 0 from rfl, nI_add, Nat.add_zero]
                        | skip
                      refine r_putI C (dk oX10_takeClause 66 rfl) fl_X10_142 ft_10_26 rfl (km hn rfl) ?_
                      refine r_goto (tgt := 72) C (dk oX10_takeClause 67 rfl) (by decide) ?_
                      refine V.sub [1, 2, 3, 0] rfl ?_
                      have hs1 : sk t L a1 ≤ L := sk_le hPS1.2.2.1
                      first
                        | exact ih false 0 _ (by omega) ((hX.tr hX86).up 26 _ (by decide)) (Or.inr (Or.inl (by
                            obtain ⟨f, s', ks', k', a', q1, q2, q3, q4, q5⟩ := hbd
                            exact ⟨f, s', ks', k', a', q1, q2, by rw [up2_off (by decide)]; exact q3, by rw [up2_off (by decide)]; exact q4, q5⟩)))
                        | exact ih true (L + 2 - sk t L (sk t L a2 + 1)) _ (by have := isS_l hb102; have := @sk_ge t L (sk t L a2 + 1); omega) (((hX.tr hX86).tr (hereP hhA97 hhB97)).up 26 _ (by decide)) (Or.inl ⟨rfl, sk t L a2 + 1, ac2, rfl, hPS2.at (fun k hk => by rw [up2_ne hk]; exact hhA97 k hk) (fun i a _ _ => by rw [up2_off a]; exact hhB97 i a) up2_at (by have := isS_l hb102; omega), (hr.trans hr2).then (pS_cm hb102), by have := @sk_ge t L (sk t L a2 + 1); omega⟩)
                        | exact ih false 0 _ (by omega) (((hX.tr hX86).tr (hereP hhA97 hhB97)).up 26 _ (by decide)) (Or.inr (Or.inr ⟨rfl, sk t L a2, ac2, hPS2.at (fun k hk => by rw [up2_ne hk]; exact hhA97 k hk) (fun i a _ _ => by rw [up2_off a]; exact hhB97 i a) up2_at (sk_le hPS2.2.2.1), by rw [sk_sk]; exact hr.trans hr2, by rw [sk_sk]; exact hb102, by rw [sk_sk]; omega⟩))
                    · rw [hr_c (fun h => (hPS2.1.2.2 _ h).1) (by decide)] at hb102
                      refine r_iconst C (dk oX10_takeClause 56 rfl) (v := nI 1) (by decide) ?_
                      refine r_topI (show nI 1 = b32 true from rfl) ?_
                      refine r_goto (tgt := 110) C (dk oX10_takeClause 57 rfl) (by decide) ?_
                      refine r_istore_n (lo' := [(3, _), (0, _), (1, _), (2, _)]) C (dk oX10_takeClause 59 rfl) rfl (by decide) rfl ?_
                      refine r_aload_n C 1 (dk oX10_takeClause 60 rfl) rfl ?_
                      refine r_dup C (dk oX10_takeClause 61 rfl) rfl ?_
                      refine r_getI C (dk oX10_takeClause 62 rfl) fl_X10_142 rfl (km hn rfl) ?_
                      first
                        | rw [hh97]
                        | skip
                      refine r_iload_n C 0 (dk oX10_takeClause 63 rfl) rfl ?_
                      refine r_isi C Z (dk oX10_takeClause 64 rfl) cl_X10_109 st_X10_one (c_X10_one _ J _) rfl rfl (Nat.le_of_ble_eq_true rfl) ⟨Nat.le_of_ble_eq_true rfl, Nat.le_of_ble_eq_true rfl⟩ ⟨Nat.zero_le _, Nat.zero_le _⟩ (fun r117 I117 J117 h117 => ?_)
                      obtain ⟨h117, e1_, e2_⟩ := h117
                      have e1_ := e1_.symm
                      have e2_ := e2_.symm
                      subst e1_
                      subst e2_
                      subst h117
                      refine r_iadd C (dk oX10_takeClause 65 rfl) ?_
                      first
                        | rw [show b32 true = nI 1 from rfl, nI_add]
                        | rw [show b32 false = nI 0 from rfl, nI_add, Nat.add_zero]
                        | skip
                      refine r_putI C (dk oX10_takeClause 66 rfl) fl_X10_142 ft_10_26 rfl (km hn rfl) ?_
                      refine r_goto (tgt := 72) C (dk oX10_takeClause 67 rfl) (by decide) ?_
                      refine V.sub [1, 2, 3, 0] rfl ?_
                      have hs1 : sk t L a1 ≤ L := sk_le hPS1.2.2.1
                      first
                        | exact ih false 0 _ (by omega) ((hX.tr hX86).up 26 _ (by decide)) (Or.inr (Or.inl (by
                            obtain ⟨f, s', ks', k', a', q1, q2, q3, q4, q5⟩ := hbd
                            exact ⟨f, s', ks', k', a', q1, q2, by rw [up2_off (by decide)]; exact q3, by rw [up2_off (by decide)]; exact q4, q5⟩)))
                        | exact ih true (L + 2 - sk t L (sk t L a2 + 1)) _ (by have := isS_l hb102; have := @sk_ge t L (sk t L a2 + 1); omega) (((hX.tr hX86).tr (hereP hhA97 hhB97)).up 26 _ (by decide)) (Or.inl ⟨rfl, sk t L a2 + 1, ac2, rfl, hPS2.at (fun k hk => by rw [up2_ne hk]; exact hhA97 k hk) (fun i a _ _ => by rw [up2_off a]; exact hhB97 i a) up2_at (by have := isS_l hb102; omega), (hr.trans hr2).then (pS_cm hb102), by have := @sk_ge t L (sk t L a2 + 1); omega⟩)
                        | exact ih false 0 _ (by omega) (((hX.tr hX86).tr (hereP hhA97 hhB97)).up 26 _ (by decide)) (Or.inr (Or.inr ⟨rfl, sk t L a2, ac2, hPS2.at (fun k hk => by rw [up2_ne hk]; exact hhA97 k hk) (fun i a _ _ => by rw [up2_off a]; exact hhB97 i a) up2_at (sk_le hPS2.2.2.1), by rw [sk_sk]; exact hr.trans hr2, by rw [sk_sk]; exact hb102, by rw [sk_sk]; omega⟩))
          refine V.sub [2, 3, 1, 0] rfl ?_
          have hwl : wE t L (sk t L a_) ≤ L := wE_le hsL
          have hX52 : mPX p_ I (up2 I52 117 36 (nI (ks ||| 2 ^ (kdOf t L (sk t L a_))))) := (hf1.P).up 36 _ (by decide)
          have hnx := wE_in (t := t) (L := L) hkw.1 hkw.2
          have hge := @wE_ge t L (sk t L a_ + 1)
          have hge2 := @sk_ge t L (wE t L (sk t L a_))
          refine L72 (L + 2 - sk t L (wE t L (sk t L a_)) + 1) true (L + 2 - sk t L (wE t L (sk t L a_))) _ (by omega) hX52 (Or.inl ⟨rfl, wE t L (sk t L a_), ac, rfl, ⟨hT.of (by rw [up2_off (by decide)]; exact hf1.2 25 (by decide) (by decide) (by decide)) (by rw [up2_ne (by decide)]; exact hf1.1 141 (by decide)), by rw [up2_off (by decide)]; exact h26a, hwl, by rw [up2_off (by decide)]; exact (hf1.2 29 (by decide) (by decide) (by decide)).trans h29, by rw [up2_off (by decide)]; exact (hf1.2 30 (by decide) (by decide) (by decide)).trans h30, up2_at, or_lt128 hks hkd, by rw [up2_off (by decide)]; exact (hf1.2 37 (by decide) (by decide) (by decide)).trans h37, fun f hf => by rw [up2_ne (by decide), hf1.1 125 (by decide)]; exact hac f hf, hac6⟩, rchP.one (pS_k hsl hb27 hb55), by omega⟩)
  · rw [show (0 : Int32) = nI 0 from rfl] at hb11
    simp (disch := omega) only [nI_leI, nI_ltI, nI_eq, nI_eq0] at hb11
    refine r_iconst C (dk oX10_takeClause 8 rfl) (v := nI 1) (by decide) ?_
    refine r_topI (show nI 1 = b32 (decide (¬ (kdOf t L (sk t L a_)) = 0)) from b32_dt (by omega)) ?_
    refine r_goto (tgt := 19) C (dk oX10_takeClause 9 rfl) (by decide) ?_
    refine r_iconst C (dk oX10_takeClause 11 rfl) (v := nI 1) (by decide) ?_
    refine r_aload_n C 1 (dk oX10_takeClause 12 rfl) rfl ?_
    refine r_getI C (dk oX10_takeClause 13 rfl) fl_X10_152 rfl (km hn rfl) ?_
    rw [h27]
    refine r_ivi C Z (dk oX10_takeClause 14 rfl) cl_X10_173 ci_X10_want rfl (km hn rfl) (c_X10_want hn I1 J (decide (¬ (kdOf t L (sk t L a_)) = 0)) (nI 1) (nI (sk t L a_)) (nI 0) ((hf1.2 29 (by decide) (by decide) (by decide)).trans h29)) rfl rfl (Nat.le_of_ble_eq_true rfl) ⟨Nat.le_of_ble_eq_true rfl, Nat.le_of_ble_eq_true rfl⟩ ⟨Nat.zero_le _, Nat.zero_le _⟩ (fun r24 I24 J24 h24 => ?_)
    obtain ⟨e1_, hW24, e2_⟩ := h24
    have e1_ := e1_.symm
    have e2_ := e2_.symm
    subst e1_
    subst e2_
    refine r_if_eq (tgt := 170) C (dk oX10_takeClause 15 rfl) (by decide) (fun hb27 => ?_) (fun hb27 => ?_)
    · rw [b32_0, decide_eq_false_iff_not] at hb27
      have hb27 := want_0 hb27
      have hI24 := want_t hW24 hb27
      subst hI24
      refine hret (dk oX10_takeClause 90 rfl) ?_
      first
        | exact ⟨rfl, ((hf1.P).up 29 _ (by decide)).up 30 _ (by decide), Or.inl ⟨1, _, ks, k0, ac, by decide, by decide, by rw [up2_off (by decide), up2_at], up2_at, rchP.one (pS_k0 hsl (Classical.not_not.mp hb27))⟩⟩
        | exact ⟨rfl, ((hf1.P).up 29 _ (by decide)).up 30 _ (by decide), Or.inl ⟨3, _, ks, k0, ac, by decide, by decide, by rw [up2_off (by decide), up2_at], up2_at, rchP.one (pS_k3 hsl hb27 (by cases h : ks.testBit (kdOf t L (sk t L a_)); exact absurd h hb55; rfl))⟩⟩
        | exact ⟨rfl, ((hX.tr (hereP hhA136 hhB136)).up 29 _ (by decide)).up 30 _ (by decide), Or.inl ⟨1, _, _, _, _, by decide, by decide, by rw [up2_off (by decide), up2_at], up2_at, hr3.then (pS_no h44 hb157)⟩⟩
        | exact ⟨rfl, (hX.tr (hereP hhA136 hhB136)).up 26 _ (by decide), Or.inr ⟨sk t L a3 + 1, _, _, ac3, hPS3.at (fun k hk => by rw [up2_ne hk]; exact hhA136 k hk) (fun i a _ _ => by rw [up2_off a]; exact hhB136 i a) up2_at (by have := isS_l hb157; omega), hr3.then (pS_sc h44 hb157), by have := @sk_ge t L (sk t L a3 + 1); omega⟩⟩
        | (refine ⟨rfl, hX, Or.inl ?_⟩
           rcases hI with ⟨hg, a1, ac1, hm, hPS1, _⟩ | h | ⟨_, a1, ac1, hPS1, _⟩
           · exact absurd hPS1.zf hb131
           · exact h
           · exact absurd hPS1.zf hb131)
    · rw [b32_n, decide_eq_true_eq] at hb27
      have hb27 := want_1 (by decide) hb27
      have hI24 := want_f hW24 hb27
      subst hI24
      have hkw := kdOf_w hb27
      refine r_aload_n C 1 (dk oX10_takeClause 16 rfl) rfl ?_
      refine r_aload_n C 1 (dk oX10_takeClause 17 rfl) rfl ?_
      refine r_getI C (dk oX10_takeClause 18 rfl) fl_X10_238 rfl (km hn rfl) ?_
      rw [hf1.2 36 (by decide) (by decide) (by decide), h36]
      refine r_iload_n C 0 (dk oX10_takeClause 19 rfl) rfl ?_
      refine r_isi C Z (dk oX10_takeClause 20 rfl) cl_X10_231 st_X10_has (c_X10_has I24 J (ks) ((kdOf t L (sk t L a_))) (by omega) (by omega)) rfl rfl (Nat.le_of_ble_eq_true rfl) ⟨Nat.le_of_ble_eq_true rfl, Nat.le_of_ble_eq_true rfl⟩ ⟨Nat.zero_le _, Nat.zero_le _⟩ (fun r36 I36 J36 h36 => ?_)
      obtain ⟨h36, e1_, e2_⟩ := h36
      have e1_ := e1_.symm
      have e2_ := e2_.symm
      subst e1_
      subst e2_
      subst h36
      refine r_if_ne (tgt := 46) C (dk oX10_takeClause 21 rfl) (by decide) (fun hb39 => ?_) (fun hb39 => ?_)
      · rw [b32_n] at hb39
        refine r_iconst C (dk oX10_takeClause 24 rfl) (v := nI 0) (by decide) ?_
        refine r_topI (show nI 0 = b32 (decide (ks.testBit (kdOf t L (sk t L a_)) = false)) from b32_df (by rw [hb39]; decide)) ?_
        refine r_iconst C (dk oX10_takeClause 25 rfl) (v := nI 3) (by decide) ?_
        refine r_aload_n C 1 (dk oX10_takeClause 26 rfl) rfl ?_
        refine r_getI C (dk oX10_takeClause 27 rfl) fl_X10_152 rfl (km hn rfl) ?_
        rw [h27]
        refine r_ivi C Z (dk oX10_takeClause 28 rfl) cl_X10_173 ci_X10_want rfl (km hn rfl) (c_X10_want hn I24 J (decide (ks.testBit (kdOf t L (sk t L a_)) = false)) (nI 3) (nI (sk t L a_)) (nI 0) ((hf1.2 29 (by decide) (by decide) (by decide)).trans h29)) rfl rfl (Nat.le_of_ble_eq_true rfl) ⟨Nat.le_of_ble_eq_true rfl, Nat.le_of_ble_eq_true rfl⟩ ⟨Nat.zero_le _, Nat.zero_le _⟩ (fun r52 I52 J52 h52 => ?_)
        obtain ⟨e1_, hW52, e2_⟩ := h52
        have e1_ := e1_.symm
        have e2_ := e2_.symm
        subst e1_
        subst e2_
        refine r_if_eq (tgt := 170) C (dk oX10_takeClause 29 rfl) (by decide) (fun hb55 => ?_) (fun hb55 => ?_)
        · rw [b32_0, decide_eq_false_iff_not] at hb55
          have hb55 := want_0 hb55
          have hI52 := want_t hW52 hb55
          subst hI52
          refine hret (dk oX10_takeClause 90 rfl) ?_
          first
            | exact ⟨rfl, ((hf1.P).up 29 _ (by decide)).up 30 _ (by decide), Or.inl ⟨1, _, ks, k0, ac, by decide, by decide, by rw [up2_off (by decide), up2_at], up2_at, rchP.one (pS_k0 hsl (Classical.not_not.mp hb27))⟩⟩
            | exact ⟨rfl, ((hf1.P).up 29 _ (by decide)).up 30 _ (by decide), Or.inl ⟨3, _, ks, k0, ac, by decide, by decide, by rw [up2_off (by decide), up2_at], up2_at, rchP.one (pS_k3 hsl hb27 (by cases h : ks.testBit (kdOf t L (sk t L a_)); exact absurd h hb55; rfl))⟩⟩
            | exact ⟨rfl, ((hX.tr (hereP hhA136 hhB136)).up 29 _ (by decide)).up 30 _ (by decide), Or.inl ⟨1, _, _, _, _, by decide, by decide, by rw [up2_off (by decide), up2_at], up2_at, hr3.then (pS_no h44 hb157)⟩⟩
            | exact ⟨rfl, (hX.tr (hereP hhA136 hhB136)).up 26 _ (by decide), Or.inr ⟨sk t L a3 + 1, _, _, ac3, hPS3.at (fun k hk => by rw [up2_ne hk]; exact hhA136 k hk) (fun i a _ _ => by rw [up2_off a]; exact hhB136 i a) up2_at (by have := isS_l hb157; omega), hr3.then (pS_sc h44 hb157), by have := @sk_ge t L (sk t L a3 + 1); omega⟩⟩
            | (refine ⟨rfl, hX, Or.inl ?_⟩
               rcases hI with ⟨hg, a1, ac1, hm, hPS1, _⟩ | h | ⟨_, a1, ac1, hPS1, _⟩
               · exact absurd hPS1.zf hb131
               · exact h
               · exact absurd hPS1.zf hb131)
        · rw [b32_n, decide_eq_true_eq] at hb55
          have hb55 := want_1 (by decide) hb55
          have hI52 := want_f hW52 hb55
          subst hI52
          refine r_aload_n C 1 (dk oX10_takeClause 30 rfl) rfl ?_
          refine r_dup C (dk oX10_takeClause 31 rfl) rfl ?_
          refine r_getI C (dk oX10_takeClause 32 rfl) fl_X10_238 rfl (km hn rfl) ?_
          rw [hf1.2 36 (by decide) (by decide) (by decide), h36]
          refine r_iconst C (dk oX10_takeClause 33 rfl) (v := nI 1) (by decide) ?_
          refine r_iload_n C 0 (dk oX10_takeClause 34 rfl) rfl ?_
          refine r_ishl C (dk oX10_takeClause 35 rfl) ?_
          refine r_ior C (dk oX10_takeClause 36 rfl) ?_
          rw [or_bit (by omega)]
          refine r_putI C (dk oX10_takeClause 37 rfl) fl_X10_238 ft_10_36 rfl (km hn rfl) ?_
          refine r_iconst C (dk oX10_takeClause 38 rfl) (v := nI 1) (by decide) ?_
          refine r_istore_n (lo' := [(3, _), (2, _), (0, _), (1, _)]) C (dk oX10_takeClause 39 rfl) rfl (by decide) rfl ?_
          have L72 : ∀ (d_ : Nat) (g : Bool) (m_ : Nat) (Ia : MI), m_ < d_ → mPX p_ I Ia → icI t L p_ Φ (0, sk t L a_, ks, k0, ac) (sk t L a_) (ks ||| 2 ^ (kdOf t L (sk t L a_))) (kdOf t L (sk t L a_)) g m_ Ia → V p l e (rmL 4) s m args below meth c Q D A 4 0 0 n ad (mE cA ad Ia J) 72 [(0, .ref (ad 117)), (1, .int (nI p_)), (2, .int (nI (kdOf t L (sk t L a_)))), (3, .int (b32 g))] [] := by
            intro d_
            induction d_ with
            | zero => intros; exact absurd (by assumption) (Nat.not_lt_zero _)
            | succ d_ ih => 
              intro g m_ Ia hd_ hX hI
              refine r_iload_n C 3 (dk oX10_takeClause 40 rfl) rfl ?_
              refine r_if_eq (tgt := 127) C (dk oX10_takeClause 41 rfl) (by decide) (fun hb73 => ?_) (fun hb73 => ?_)
              · refine r_aload_n C 0 (dk oX10_takeClause 68 rfl) rfl ?_
                refine r_getI C (dk oX10_takeClause 69 rfl) fl_X10_145 rfl (km hn rfl) ?_
                refine r_if_ne (tgt := 170) C (dk oX10_takeClause 70 rfl) (by decide) (fun hb131 => ?_) (fun hb131 => ?_)
                · skip
                  refine hret (dk oX10_takeClause 90 rfl) ?_
                  first
                    | exact ⟨rfl, ((hf1.P).up 29 _ (by decide)).up 30 _ (by decide), Or.inl ⟨1, _, ks, k0, ac, by decide, by decide, by rw [up2_off (by decide), up2_at], up2_at, rchP.one (pS_k0 hsl (Classical.not_not.mp hb27))⟩⟩
                    | exact ⟨rfl, ((hf1.P).up 29 _ (by decide)).up 30 _ (by decide), Or.inl ⟨3, _, ks, k0, ac, by decide, by decide, by rw [up2_off (by decide), up2_at], up2_at, rchP.one (pS_k3 hsl hb27 (by cases h : ks.testBit (kdOf t L (sk t L a_)); exact absurd h hb55; rfl))⟩⟩
                    | exact ⟨rfl, ((hX.tr (hereP hhA136 hhB136)).up 29 _ (by decide)).up 30 _ (by decide), Or.inl ⟨1, _, _, _, _, by decide, by decide, by rw [up2_off (by decide), up2_at], up2_at, hr3.then (pS_no h44 hb157)⟩⟩
                    | exact ⟨rfl, (hX.tr (hereP hhA136 hhB136)).up 26 _ (by decide), Or.inr ⟨sk t L a3 + 1, _, _, ac3, hPS3.at (fun k hk => by rw [up2_ne hk]; exact hhA136 k hk) (fun i a _ _ => by rw [up2_off a]; exact hhB136 i a) up2_at (by have := isS_l hb157; omega), hr3.then (pS_sc h44 hb157), by have := @sk_ge t L (sk t L a3 + 1); omega⟩⟩
                    | (refine ⟨rfl, hX, Or.inl ?_⟩
                       rcases hI with ⟨hg, a1, ac1, hm, hPS1, _⟩ | h | ⟨_, a1, ac1, hPS1, _⟩
                       · exact absurd hPS1.zf hb131
                       · exact h
                       · exact absurd hPS1.zf hb131)
                · obtain ⟨a3, ac3, hPS3, hr3, h44, hlt3⟩ : ∃ a1 ac1, mPS Ia t L p_ a1 (ks ||| 2 ^ (kdOf t L (sk t L a_))) ac1 ∧ rchP (stpP t L p_ Φ) (0, sk t L a_, ks, k0, ac) (2, sk t L a1, (ks ||| 2 ^ (kdOf t L (sk t L a_))), (kdOf t L (sk t L a_)), ac1) ∧ isS t L (sk t L a1) 44 = false ∧ (sk t L a_) < sk t L a1 := by
                    rcases hI with ⟨hg, a1, ac1, hm, hPS1, _⟩ | h | ⟨_, h⟩
                    · exfalso
                      first
                        | (rw [hg] at hb73; exact absurd hb73 (by decide))
                        | exact hb80 hPS1.zf
                    · exact absurd hb131 h.nz
                    · exact h
                  have hs3 : sk t L a3 ≤ L := sk_le hPS3.2.2.1
                  refine r_aload_n C 0 (dk oX10_takeClause 71 rfl) rfl ?_
                  refine r_aload_n C 0 (dk oX10_takeClause 72 rfl) rfl ?_
                  refine r_ivi C Z (dk oX10_takeClause 73 rfl) cl_X10_148 ci_X10_here rfl (km hn rfl) (c_X10_here hn Ia J t L (hPS3.1) (a3) (hPS3.2.1) (hPS3.2.2.1)) rfl rfl (Nat.le_of_ble_eq_true rfl) ⟨Nat.le_of_ble_eq_true rfl, Nat.le_of_ble_eq_true rfl⟩ ⟨Nat.zero_le _, Nat.zero_le _⟩ (fun r136 I136 J136 h136 => ?_)
                  obtain ⟨e1_, hh136, hhA136, hhB136, e2_⟩ := h136
                  have e1_ := e1_.symm
                  have e2_ := e2_.symm
                  subst e1_
                  subst e2_
                  refine r_bipush C (dk oX10_takeClause 74 rfl) (v := nI 59) (by decide) ?_
                  refine r_icmp_ne (tgt := 148) C (dk oX10_takeClause 75 rfl) (by decide) (fun hb141 => ?_) (fun hb141 => ?_)
                  · rw [hr_c (fun h => (hPS3.1.2.2 _ h).1) (by decide)] at hb141
                    refine r_iconst C (dk oX10_takeClause 78 rfl) (v := nI 0) (by decide) ?_
                    refine r_topI (show nI 0 = b32 (decide (isS t L (sk t L a3) 59 = true)) from b32_df hb141) ?_
                    refine r_iconst C (dk oX10_takeClause 79 rfl) (v := nI 1) (by decide) ?_
                    refine r_aload_n C 0 (dk oX10_takeClause 80 rfl) rfl ?_
                    refine r_getI C (dk oX10_takeClause 81 rfl) fl_X10_142 rfl (km hn rfl) ?_
                    rw [hh136]
                    refine r_ivi C Z (dk oX10_takeClause 82 rfl) cl_X10_173 ci_X10_want rfl (km hn rfl) (c_X10_want hn I136 J (decide (isS t L (sk t L a3) 59 = true)) (nI 1) (nI (sk t L a3)) (nI 0) ((hhB136 29 (by decide)).trans hPS3.2.2.2.1)) rfl rfl (Nat.le_of_ble_eq_true rfl) ⟨Nat.le_of_ble_eq_true rfl, Nat.le_of_ble_eq_true rfl⟩ ⟨Nat.zero_le _, Nat.zero_le _⟩ (fun r154 I154 J154 h154 => ?_)
                    obtain ⟨e1_, hW154, e2_⟩ := h154
                    have e1_ := e1_.symm
                    have e2_ := e2_.symm
                    subst e1_
                    subst e2_
                    refine r_if_eq (tgt := 170) C (dk oX10_takeClause 83 rfl) (by decide) (fun hb157 => ?_) (fun hb157 => ?_)
                    · rw [b32_0, decide_eq_false_iff_not] at hb157
                      have hb157 := want_0 hb157
                      have hI154 := want_t hW154 hb157
                      subst hI154
                      refine hret (dk oX10_takeClause 90 rfl) ?_
                      first
                        | exact ⟨rfl, ((hf1.P).up 29 _ (by decide)).up 30 _ (by decide), Or.inl ⟨1, _, ks, k0, ac, by decide, by decide, by rw [up2_off (by decide), up2_at], up2_at, rchP.one (pS_k0 hsl (Classical.not_not.mp hb27))⟩⟩
                        | exact ⟨rfl, ((hf1.P).up 29 _ (by decide)).up 30 _ (by decide), Or.inl ⟨3, _, ks, k0, ac, by decide, by decide, by rw [up2_off (by decide), up2_at], up2_at, rchP.one (pS_k3 hsl hb27 (by cases h : ks.testBit (kdOf t L (sk t L a_)); exact absurd h hb55; rfl))⟩⟩
                        | exact ⟨rfl, ((hX.tr (hereP hhA136 hhB136)).up 29 _ (by decide)).up 30 _ (by decide), Or.inl ⟨1, _, _, _, _, by decide, by decide, by rw [up2_off (by decide), up2_at], up2_at, hr3.then (pS_no h44 hb157)⟩⟩
                        | exact ⟨rfl, (hX.tr (hereP hhA136 hhB136)).up 26 _ (by decide), Or.inr ⟨sk t L a3 + 1, _, _, ac3, hPS3.at (fun k hk => by rw [up2_ne hk]; exact hhA136 k hk) (fun i a _ _ => by rw [up2_off a]; exact hhB136 i a) up2_at (by have := isS_l hb157; omega), hr3.then (pS_sc h44 hb157), by have := @sk_ge t L (sk t L a3 + 1); omega⟩⟩
                        | (refine ⟨rfl, hX, Or.inl ?_⟩
                           rcases hI with ⟨hg, a1, ac1, hm, hPS1, _⟩ | h | ⟨_, a1, ac1, hPS1, _⟩
                           · exact absurd hPS1.zf hb131
                           · exact h
                           · exact absurd hPS1.zf hb131)
                    · rw [b32_n, decide_eq_true_eq] at hb157
                      have hb157 := want_1 (by decide) hb157
                      have hI154 := want_f hW154 hb157
                      subst hI154
                      refine r_aload_n C 0 (dk oX10_takeClause 84 rfl) rfl ?_
                      refine r_dup C (dk oX10_takeClause 85 rfl) rfl ?_
                      refine r_getI C (dk oX10_takeClause 86 rfl) fl_X10_142 rfl (km hn rfl) ?_
                      rw [hh136]
                      refine r_iconst C (dk oX10_takeClause 87 rfl) (v := nI 1) (by decide) ?_
                      refine r_iadd C (dk oX10_takeClause 88 rfl) ?_
                      rw [nI_add]
                      refine r_putI C (dk oX10_takeClause 89 rfl) fl_X10_142 ft_10_26 rfl (km hn rfl) ?_
                      refine hret (dk oX10_takeClause 90 rfl) ?_
                      first
                        | exact ⟨rfl, ((hf1.P).up 29 _ (by decide)).up 30 _ (by decide), Or.inl ⟨1, _, ks, k0, ac, by decide, by decide, by rw [up2_off (by decide), up2_at], up2_at, rchP.one (pS_k0 hsl (Classical.not_not.mp hb27))⟩⟩
                        | exact ⟨rfl, ((hf1.P).up 29 _ (by decide)).up 30 _ (by decide), Or.inl ⟨3, _, ks, k0, ac, by decide, by decide, by rw [up2_off (by decide), up2_at], up2_at, rchP.one (pS_k3 hsl hb27 (by cases h : ks.testBit (kdOf t L (sk t L a_)); exact absurd h hb55; rfl))⟩⟩
                        | exact ⟨rfl, ((hX.tr (hereP hhA136 hhB136)).up 29 _ (by decide)).up 30 _ (by decide), Or.inl ⟨1, _, _, _, _, by decide, by decide, by rw [up2_off (by decide), up2_at], up2_at, hr3.then (pS_no h44 hb157)⟩⟩
                        | exact ⟨rfl, (hX.tr (hereP hhA136 hhB136)).up 26 _ (by decide), Or.inr ⟨sk t L a3 + 1, _, _, ac3, hPS3.at (fun k hk => by rw [up2_ne hk]; exact hhA136 k hk) (fun i a _ _ => by rw [up2_off a]; exact hhB136 i a) up2_at (by have := isS_l hb157; omega), hr3.then (pS_sc h44 hb157), by have := @sk_ge t L (sk t L a3 + 1); omega⟩⟩
                        | (refine ⟨rfl, hX, Or.inl ?_⟩
                           rcases hI with ⟨hg, a1, ac1, hm, hPS1, _⟩ | h | ⟨_, a1, ac1, hPS1, _⟩
                           · exact absurd hPS1.zf hb131
                           · exact h
                           · exact absurd hPS1.zf hb131)
                  · rw [hr_c (fun h => (hPS3.1.2.2 _ h).1) (by decide)] at hb141
                    refine r_iconst C (dk oX10_takeClause 76 rfl) (v := nI 1) (by decide) ?_
                    refine r_topI (show nI 1 = b32 (decide (isS t L (sk t L a3) 59 = true)) from b32_dt hb141) ?_
                    refine r_goto (tgt := 149) C (dk oX10_takeClause 77 rfl) (by decide) ?_
                    refine r_iconst C (dk oX10_takeClause 79 rfl) (v := nI 1) (by decide) ?_
                    refine r_aload_n C 0 (dk oX10_takeClause 80 rfl) rfl ?_
                    refine r_getI C (dk oX10_takeClause 81 rfl) fl_X10_142 rfl (km hn rfl) ?_
                    rw [hh136]
                    refine r_ivi C Z (dk oX10_takeClause 82 rfl) cl_X10_173 ci_X10_want rfl (km hn rfl) (c_X10_want hn I136 J (decide (isS t L (sk t L a3) 59 = true)) (nI 1) (nI (sk t L a3)) (nI 0) ((hhB136 29 (by decide)).trans hPS3.2.2.2.1)) rfl rfl (Nat.le_of_ble_eq_true rfl) ⟨Nat.le_of_ble_eq_true rfl, Nat.le_of_ble_eq_true rfl⟩ ⟨Nat.zero_le _, Nat.zero_le _⟩ (fun r154 I154 J154 h154 => ?_)
                    obtain ⟨e1_, hW154, e2_⟩ := h154
                    have e1_ := e1_.symm
                    have e2_ := e2_.symm
                    subst e1_
                    subst e2_
                    refine r_if_eq (tgt := 170) C (dk oX10_takeClause 83 rfl) (by decide) (fun hb157 => ?_) (fun hb157 => ?_)
                    · rw [b32_0, decide_eq_false_iff_not] at hb157
                      have hb157 := want_0 hb157
                      have hI154 := want_t hW154 hb157
                      subst hI154
                      refine hret (dk oX10_takeClause 90 rfl) ?_
                      first
                        | exact ⟨rfl, ((hf1.P).up 29 _ (by decide)).up 30 _ (by decide), Or.inl ⟨1, _, ks, k0, ac, by decide, by decide, by rw [up2_off (by decide), up2_at], up2_at, rchP.one (pS_k0 hsl (Classical.not_not.mp hb27))⟩⟩
                        | exact ⟨rfl, ((hf1.P).up 29 _ (by decide)).up 30 _ (by decide), Or.inl ⟨3, _, ks, k0, ac, by decide, by decide, by rw [up2_off (by decide), up2_at], up2_at, rchP.one (pS_k3 hsl hb27 (by cases h : ks.testBit (kdOf t L (sk t L a_)); exact absurd h hb55; rfl))⟩⟩
                        | exact ⟨rfl, ((hX.tr (hereP hhA136 hhB136)).up 29 _ (by decide)).up 30 _ (by decide), Or.inl ⟨1, _, _, _, _, by decide, by decide, by rw [up2_off (by decide), up2_at], up2_at, hr3.then (pS_no h44 hb157)⟩⟩
                        | exact ⟨rfl, (hX.tr (hereP hhA136 hhB136)).up 26 _ (by decide), Or.inr ⟨sk t L a3 + 1, _, _, ac3, hPS3.at (fun k hk => by rw [up2_ne hk]; exact hhA136 k hk) (fun i a _ _ => by rw [up2_off a]; exact hhB136 i a) up2_at (by have := isS_l hb157; omega), hr3.then (pS_sc h44 hb157), by have := @sk_ge t L (sk t L a3 + 1); omega⟩⟩
                        | (refine ⟨rfl, hX, Or.inl ?_⟩
                           rcases hI with ⟨hg, a1, ac1, hm, hPS1, _⟩ | h | ⟨_, a1, ac1, hPS1, _⟩
                           · exact absurd hPS1.zf hb131
                           · exact h
                           · exact absurd hPS1.zf hb131)
                    · rw [b32_n, decide_eq_true_eq] at hb157
                      have hb157 := want_1 (by decide) hb157
                      have hI154 := want_f hW154 hb157
                      subst hI154
                      refine r_aload_n C 0 (dk oX10_takeClause 84 rfl) rfl ?_
                      refine r_dup C (dk oX10_takeClause 85 rfl) rfl ?_
                      refine r_getI C (dk oX10_takeClause 86 rfl) fl_X10_142 rfl (km hn rfl) ?_
                      rw [hh136]
                      refine r_iconst C (dk oX10_takeClause 87 rfl) (v := nI 1) (by decide) ?_
                      refine r_iadd C (dk oX10_takeClause 88 rfl) ?_
                      rw [nI_add]
                      refine r_putI C (dk oX10_takeClause 89 rfl) fl_X10_142 ft_10_26 rfl (km hn rfl) ?_
                      refine hret (dk oX10_takeClause 90 rfl) ?_
                      first
                        | exact ⟨rfl, ((hf1.P).up 29 _ (by decide)).up 30 _ (by decide), Or.inl ⟨1, _, ks, k0, ac, by decide, by decide, by rw [up2_off (by decide), up2_at], up2_at, rchP.one (pS_k0 hsl (Classical.not_not.mp hb27))⟩⟩
                        | exact ⟨rfl, ((hf1.P).up 29 _ (by decide)).up 30 _ (by decide), Or.inl ⟨3, _, ks, k0, ac, by decide, by decide, by rw [up2_off (by decide), up2_at], up2_at, rchP.one (pS_k3 hsl hb27 (by cases h : ks.testBit (kdOf t L (sk t L a_)); exact absurd h hb55; rfl))⟩⟩
                        | exact ⟨rfl, ((hX.tr (hereP hhA136 hhB136)).up 29 _ (by decide)).up 30 _ (by decide), Or.inl ⟨1, _, _, _, _, by decide, by decide, by rw [up2_off (by decide), up2_at], up2_at, hr3.then (pS_no h44 hb157)⟩⟩
                        | exact ⟨rfl, (hX.tr (hereP hhA136 hhB136)).up 26 _ (by decide), Or.inr ⟨sk t L a3 + 1, _, _, ac3, hPS3.at (fun k hk => by rw [up2_ne hk]; exact hhA136 k hk) (fun i a _ _ => by rw [up2_off a]; exact hhB136 i a) up2_at (by have := isS_l hb157; omega), hr3.then (pS_sc h44 hb157), by have := @sk_ge t L (sk t L a3 + 1); omega⟩⟩
                        | (refine ⟨rfl, hX, Or.inl ?_⟩
                           rcases hI with ⟨hg, a1, ac1, hm, hPS1, _⟩ | h | ⟨_, a1, ac1, hPS1, _⟩
                           · exact absurd hPS1.zf hb131
                           · exact h
                           · exact absurd hPS1.zf hb131)
              · refine r_aload_n C 0 (dk oX10_takeClause 42 rfl) rfl ?_
                refine r_getI C (dk oX10_takeClause 43 rfl) fl_X10_145 rfl (km hn rfl) ?_
                refine r_if_ne (tgt := 127) C (dk oX10_takeClause 44 rfl) (by decide) (fun hb80 => ?_) (fun hb80 => ?_)
                · refine r_aload_n C 0 (dk oX10_takeClause 68 rfl) rfl ?_
                  refine r_getI C (dk oX10_takeClause 69 rfl) fl_X10_145 rfl (km hn rfl) ?_
                  refine r_if_ne (tgt := 170) C (dk oX10_takeClause 70 rfl) (by decide) (fun hb131 => ?_) (fun hb131 => ?_)
                  · skip
                    refine hret (dk oX10_takeClause 90 rfl) ?_
                    first
                      | exact ⟨rfl, ((hf1.P).up 29 _ (by decide)).up 30 _ (by decide), Or.inl ⟨1, _, ks, k0, ac, by decide, by decide, by rw [up2_off (by decide), up2_at], up2_at, rchP.one (pS_k0 hsl (Classical.not_not.mp hb27))⟩⟩
                      | exact ⟨rfl, ((hf1.P).up 29 _ (by decide)).up 30 _ (by decide), Or.inl ⟨3, _, ks, k0, ac, by decide, by decide, by rw [up2_off (by decide), up2_at], up2_at, rchP.one (pS_k3 hsl hb27 (by cases h : ks.testBit (kdOf t L (sk t L a_)); exact absurd h hb55; rfl))⟩⟩
                      | exact ⟨rfl, ((hX.tr (hereP hhA136 hhB136)).up 29 _ (by decide)).up 30 _ (by decide), Or.inl ⟨1, _, _, _, _, by decide, by decide, by rw [up2_off (by decide), up2_at], up2_at, hr3.then (pS_no h44 hb157)⟩⟩
                      | exact ⟨rfl, (hX.tr (hereP hhA136 hhB136)).up 26 _ (by decide), Or.inr ⟨sk t L a3 + 1, _, _, ac3, hPS3.at (fun k hk => by rw [up2_ne hk]; exact hhA136 k hk) (fun i a _ _ => by rw [up2_off a]; exact hhB136 i a) up2_at (by have := isS_l hb157; omega), hr3.then (pS_sc h44 hb157), by have := @sk_ge t L (sk t L a3 + 1); omega⟩⟩
                      | (refine ⟨rfl, hX, Or.inl ?_⟩
                         rcases hI with ⟨hg, a1, ac1, hm, hPS1, _⟩ | h | ⟨_, a1, ac1, hPS1, _⟩
                         · exact absurd hPS1.zf hb131
                         · exact h
                         · exact absurd hPS1.zf hb131)
                  · obtain ⟨a3, ac3, hPS3, hr3, h44, hlt3⟩ : ∃ a1 ac1, mPS Ia t L p_ a1 (ks ||| 2 ^ (kdOf t L (sk t L a_))) ac1 ∧ rchP (stpP t L p_ Φ) (0, sk t L a_, ks, k0, ac) (2, sk t L a1, (ks ||| 2 ^ (kdOf t L (sk t L a_))), (kdOf t L (sk t L a_)), ac1) ∧ isS t L (sk t L a1) 44 = false ∧ (sk t L a_) < sk t L a1 := by
                      rcases hI with ⟨hg, a1, ac1, hm, hPS1, _⟩ | h | ⟨_, h⟩
                      · exfalso
                        first
                          | (rw [hg] at hb73; exact absurd hb73 (by decide))
                          | exact hb80 hPS1.zf
                      · exact absurd hb131 h.nz
                      · exact h
                    have hs3 : sk t L a3 ≤ L := sk_le hPS3.2.2.1
                    refine r_aload_n C 0 (dk oX10_takeClause 71 rfl) rfl ?_
                    refine r_aload_n C 0 (dk oX10_takeClause 72 rfl) rfl ?_
                    refine r_ivi C Z (dk oX10_takeClause 73 rfl) cl_X10_148 ci_X10_here rfl (km hn rfl) (c_X10_here hn Ia J t L (hPS3.1) (a3) (hPS3.2.1) (hPS3.2.2.1)) rfl rfl (Nat.le_of_ble_eq_true rfl) ⟨Nat.le_of_ble_eq_true rfl, Nat.le_of_ble_eq_true rfl⟩ ⟨Nat.zero_le _, Nat.zero_le _⟩ (fun r136 I136 J136 h136 => ?_)
                    obtain ⟨e1_, hh136, hhA136, hhB136, e2_⟩ := h136
                    have e1_ := e1_.symm
                    have e2_ := e2_.symm
                    subst e1_
                    subst e2_
                    refine r_bipush C (dk oX10_takeClause 74 rfl) (v := nI 59) (by decide) ?_
                    refine r_icmp_ne (tgt := 148) C (dk oX10_takeClause 75 rfl) (by decide) (fun hb141 => ?_) (fun hb141 => ?_)
                    · rw [hr_c (fun h => (hPS3.1.2.2 _ h).1) (by decide)] at hb141
                      refine r_iconst C (dk oX10_takeClause 78 rfl) (v := nI 0) (by decide) ?_
                      refine r_topI (show nI 0 = b32 (decide (isS t L (sk t L a3) 59 = true)) from b32_df hb141) ?_
                      refine r_iconst C (dk oX10_takeClause 79 rfl) (v := nI 1) (by decide) ?_
                      refine r_aload_n C 0 (dk oX10_takeClause 80 rfl) rfl ?_
                      refine r_getI C (dk oX10_takeClause 81 rfl) fl_X10_142 rfl (km hn rfl) ?_
                      rw [hh136]
                      refine r_ivi C Z (dk oX10_takeClause 82 rfl) cl_X10_173 ci_X10_want rfl (km hn rfl) (c_X10_want hn I136 J (decide (isS t L (sk t L a3) 59 = true)) (nI 1) (nI (sk t L a3)) (nI 0) ((hhB136 29 (by decide)).trans hPS3.2.2.2.1)) rfl rfl (Nat.le_of_ble_eq_true rfl) ⟨Nat.le_of_ble_eq_true rfl, Nat.le_of_ble_eq_true rfl⟩ ⟨Nat.zero_le _, Nat.zero_le _⟩ (fun r154 I154 J154 h154 => ?_)
                      obtain ⟨e1_, hW154, e2_⟩ := h154
                      have e1_ := e1_.symm
                      have e2_ := e2_.symm
                      subst e1_
                      subst e2_
                      refine r_if_eq (tgt := 170) C (dk oX10_takeClause 83 rfl) (by decide) (fun hb157 => ?_) (fun hb157 => ?_)
                      · rw [b32_0, decide_eq_false_iff_not] at hb157
                        have hb157 := want_0 hb157
                        have hI154 := want_t hW154 hb157
                        subst hI154
                        refine hret (dk oX10_takeClause 90 rfl) ?_
                        first
                          | exact ⟨rfl, ((hf1.P).up 29 _ (by decide)).up 30 _ (by decide), Or.inl ⟨1, _, ks, k0, ac, by decide, by decide, by rw [up2_off (by decide), up2_at], up2_at, rchP.one (pS_k0 hsl (Classical.not_not.mp hb27))⟩⟩
                          | exact ⟨rfl, ((hf1.P).up 29 _ (by decide)).up 30 _ (by decide), Or.inl ⟨3, _, ks, k0, ac, by decide, by decide, by rw [up2_off (by decide), up2_at], up2_at, rchP.one (pS_k3 hsl hb27 (by cases h : ks.testBit (kdOf t L (sk t L a_)); exact absurd h hb55; rfl))⟩⟩
                          | exact ⟨rfl, ((hX.tr (hereP hhA136 hhB136)).up 29 _ (by decide)).up 30 _ (by decide), Or.inl ⟨1, _, _, _, _, by decide, by decide, by rw [up2_off (by decide), up2_at], up2_at, hr3.then (pS_no h44 hb157)⟩⟩
                          | exact ⟨rfl, (hX.tr (hereP hhA136 hhB136)).up 26 _ (by decide), Or.inr ⟨sk t L a3 + 1, _, _, ac3, hPS3.at (fun k hk => by rw [up2_ne hk]; exact hhA136 k hk) (fun i a _ _ => by rw [up2_off a]; exact hhB136 i a) up2_at (by have := isS_l hb157; omega), hr3.then (pS_sc h44 hb157), by have := @sk_ge t L (sk t L a3 + 1); omega⟩⟩
                          | (refine ⟨rfl, hX, Or.inl ?_⟩
                             rcases hI with ⟨hg, a1, ac1, hm, hPS1, _⟩ | h | ⟨_, a1, ac1, hPS1, _⟩
                             · exact absurd hPS1.zf hb131
                             · exact h
                             · exact absurd hPS1.zf hb131)
                      · rw [b32_n, decide_eq_true_eq] at hb157
                        have hb157 := want_1 (by decide) hb157
                        have hI154 := want_f hW154 hb157
                        subst hI154
                        refine r_aload_n C 0 (dk oX10_takeClause 84 rfl) rfl ?_
                        refine r_dup C (dk oX10_takeClause 85 rfl) rfl ?_
                        refine r_getI C (dk oX10_takeClause 86 rfl) fl_X10_142 rfl (km hn rfl) ?_
                        rw [hh136]
                        refine r_iconst C (dk oX10_takeClause 87 rfl) (v := nI 1) (by decide) ?_
                        refine r_iadd C (dk oX10_takeClause 88 rfl) ?_
                        rw [nI_add]
                        refine r_putI C (dk oX10_takeClause 89 rfl) fl_X10_142 ft_10_26 rfl (km hn rfl) ?_
                        refine hret (dk oX10_takeClause 90 rfl) ?_
                        first
                          | exact ⟨rfl, ((hf1.P).up 29 _ (by decide)).up 30 _ (by decide), Or.inl ⟨1, _, ks, k0, ac, by decide, by decide, by rw [up2_off (by decide), up2_at], up2_at, rchP.one (pS_k0 hsl (Classical.not_not.mp hb27))⟩⟩
                          | exact ⟨rfl, ((hf1.P).up 29 _ (by decide)).up 30 _ (by decide), Or.inl ⟨3, _, ks, k0, ac, by decide, by decide, by rw [up2_off (by decide), up2_at], up2_at, rchP.one (pS_k3 hsl hb27 (by cases h : ks.testBit (kdOf t L (sk t L a_)); exact absurd h hb55; rfl))⟩⟩
                          | exact ⟨rfl, ((hX.tr (hereP hhA136 hhB136)).up 29 _ (by decide)).up 30 _ (by decide), Or.inl ⟨1, _, _, _, _, by decide, by decide, by rw [up2_off (by decide), up2_at], up2_at, hr3.then (pS_no h44 hb157)⟩⟩
                          | exact ⟨rfl, (hX.tr (hereP hhA136 hhB136)).up 26 _ (by decide), Or.inr ⟨sk t L a3 + 1, _, _, ac3, hPS3.at (fun k hk => by rw [up2_ne hk]; exact hhA136 k hk) (fun i a _ _ => by rw [up2_off a]; exact hhB136 i a) up2_at (by have := isS_l hb157; omega), hr3.then (pS_sc h44 hb157), by have := @sk_ge t L (sk t L a3 + 1); omega⟩⟩
                          | (refine ⟨rfl, hX, Or.inl ?_⟩
                             rcases hI with ⟨hg, a1, ac1, hm, hPS1, _⟩ | h | ⟨_, a1, ac1, hPS1, _⟩
                             · exact absurd hPS1.zf hb131
                             · exact h
                             · exact absurd hPS1.zf hb131)
                    · rw [hr_c (fun h => (hPS3.1.2.2 _ h).1) (by decide)] at hb141
                      refine r_iconst C (dk oX10_takeClause 76 rfl) (v := nI 1) (by decide) ?_
                      refine r_topI (show nI 1 = b32 (decide (isS t L (sk t L a3) 59 = true)) from b32_dt hb141) ?_
                      refine r_goto (tgt := 149) C (dk oX10_takeClause 77 rfl) (by decide) ?_
                      refine r_iconst C (dk oX10_takeClause 79 rfl) (v := nI 1) (by decide) ?_
                      refine r_aload_n C 0 (dk oX10_takeClause 80 rfl) rfl ?_
                      refine r_getI C (dk oX10_takeClause 81 rfl) fl_X10_142 rfl (km hn rfl) ?_
                      rw [hh136]
                      refine r_ivi C Z (dk oX10_takeClause 82 rfl) cl_X10_173 ci_X10_want rfl (km hn rfl) (c_X10_want hn I136 J (decide (isS t L (sk t L a3) 59 = true)) (nI 1) (nI (sk t L a3)) (nI 0) ((hhB136 29 (by decide)).trans hPS3.2.2.2.1)) rfl rfl (Nat.le_of_ble_eq_true rfl) ⟨Nat.le_of_ble_eq_true rfl, Nat.le_of_ble_eq_true rfl⟩ ⟨Nat.zero_le _, Nat.zero_le _⟩ (fun r154 I154 J154 h154 => ?_)
                      obtain ⟨e1_, hW154, e2_⟩ := h154
                      have e1_ := e1_.symm
                      have e2_ := e2_.symm
                      subst e1_
                      subst e2_
                      refine r_if_eq (tgt := 170) C (dk oX10_takeClause 83 rfl) (by decide) (fun hb157 => ?_) (fun hb157 => ?_)
                      · rw [b32_0, decide_eq_false_iff_not] at hb157
                        have hb157 := want_0 hb157
                        have hI154 := want_t hW154 hb157
                        subst hI154
                        refine hret (dk oX10_takeClause 90 rfl) ?_
                        first
                          | exact ⟨rfl, ((hf1.P).up 29 _ (by decide)).up 30 _ (by decide), Or.inl ⟨1, _, ks, k0, ac, by decide, by decide, by rw [up2_off (by decide), up2_at], up2_at, rchP.one (pS_k0 hsl (Classical.not_not.mp hb27))⟩⟩
                          | exact ⟨rfl, ((hf1.P).up 29 _ (by decide)).up 30 _ (by decide), Or.inl ⟨3, _, ks, k0, ac, by decide, by decide, by rw [up2_off (by decide), up2_at], up2_at, rchP.one (pS_k3 hsl hb27 (by cases h : ks.testBit (kdOf t L (sk t L a_)); exact absurd h hb55; rfl))⟩⟩
                          | exact ⟨rfl, ((hX.tr (hereP hhA136 hhB136)).up 29 _ (by decide)).up 30 _ (by decide), Or.inl ⟨1, _, _, _, _, by decide, by decide, by rw [up2_off (by decide), up2_at], up2_at, hr3.then (pS_no h44 hb157)⟩⟩
                          | exact ⟨rfl, (hX.tr (hereP hhA136 hhB136)).up 26 _ (by decide), Or.inr ⟨sk t L a3 + 1, _, _, ac3, hPS3.at (fun k hk => by rw [up2_ne hk]; exact hhA136 k hk) (fun i a _ _ => by rw [up2_off a]; exact hhB136 i a) up2_at (by have := isS_l hb157; omega), hr3.then (pS_sc h44 hb157), by have := @sk_ge t L (sk t L a3 + 1); omega⟩⟩
                          | (refine ⟨rfl, hX, Or.inl ?_⟩
                             rcases hI with ⟨hg, a1, ac1, hm, hPS1, _⟩ | h | ⟨_, a1, ac1, hPS1, _⟩
                             · exact absurd hPS1.zf hb131
                             · exact h
                             · exact absurd hPS1.zf hb131)
                      · rw [b32_n, decide_eq_true_eq] at hb157
                        have hb157 := want_1 (by decide) hb157
                        have hI154 := want_f hW154 hb157
                        subst hI154
                        refine r_aload_n C 0 (dk oX10_takeClause 84 rfl) rfl ?_
                        refine r_dup C (dk oX10_takeClause 85 rfl) rfl ?_
                        refine r_getI C (dk oX10_takeClause 86 rfl) fl_X10_142 rfl (km hn rfl) ?_
                        rw [hh136]
                        refine r_iconst C (dk oX10_takeClause 87 rfl) (v := nI 1) (by decide) ?_
                        refine r_iadd C (dk oX10_takeClause 88 rfl) ?_
                        rw [nI_add]
                        refine r_putI C (dk oX10_takeClause 89 rfl) fl_X10_142 ft_10_26 rfl (km hn rfl) ?_
                        refine hret (dk oX10_takeClause 90 rfl) ?_
                        first
                          | exact ⟨rfl, ((hf1.P).up 29 _ (by decide)).up 30 _ (by decide), Or.inl ⟨1, _, ks, k0, ac, by decide, by decide, by rw [up2_off (by decide), up2_at], up2_at, rchP.one (pS_k0 hsl (Classical.not_not.mp hb27))⟩⟩
                          | exact ⟨rfl, ((hf1.P).up 29 _ (by decide)).up 30 _ (by decide), Or.inl ⟨3, _, ks, k0, ac, by decide, by decide, by rw [up2_off (by decide), up2_at], up2_at, rchP.one (pS_k3 hsl hb27 (by cases h : ks.testBit (kdOf t L (sk t L a_)); exact absurd h hb55; rfl))⟩⟩
                          | exact ⟨rfl, ((hX.tr (hereP hhA136 hhB136)).up 29 _ (by decide)).up 30 _ (by decide), Or.inl ⟨1, _, _, _, _, by decide, by decide, by rw [up2_off (by decide), up2_at], up2_at, hr3.then (pS_no h44 hb157)⟩⟩
                          | exact ⟨rfl, (hX.tr (hereP hhA136 hhB136)).up 26 _ (by decide), Or.inr ⟨sk t L a3 + 1, _, _, ac3, hPS3.at (fun k hk => by rw [up2_ne hk]; exact hhA136 k hk) (fun i a _ _ => by rw [up2_off a]; exact hhB136 i a) up2_at (by have := isS_l hb157; omega), hr3.then (pS_sc h44 hb157), by have := @sk_ge t L (sk t L a3 + 1); omega⟩⟩
                          | (refine ⟨rfl, hX, Or.inl ?_⟩
                             rcases hI with ⟨hg, a1, ac1, hm, hPS1, _⟩ | h | ⟨_, a1, ac1, hPS1, _⟩
                             · exact absurd hPS1.zf hb131
                             · exact h
                             · exact absurd hPS1.zf hb131)
                · obtain ⟨a1, ac1, hm, hPS1, hr, hlt⟩ : ∃ a1 ac1, m_ = L + 2 - sk t L a1 ∧ mPS Ia t L p_ a1 (ks ||| 2 ^ (kdOf t L (sk t L a_))) ac1 ∧ rchP (stpP t L p_ Φ) (0, sk t L a_, ks, k0, ac) (1, sk t L a1, (ks ||| 2 ^ (kdOf t L (sk t L a_))), (kdOf t L (sk t L a_)), ac1) ∧ (sk t L a_) < sk t L a1 := by
                    rcases hI with ⟨_, h⟩ | h | ⟨h, _⟩
                    · exact h
                    · exact absurd hb80 h.nz
                    · rw [h] at hb73
                      exact absurd rfl hb73
                  refine r_aload_n C 0 (dk oX10_takeClause 45 rfl) rfl ?_
                  refine r_iload_n C 2 (dk oX10_takeClause 46 rfl) rfl ?_
                  refine r_iload_n C 1 (dk oX10_takeClause 47 rfl) rfl ?_
                  refine r_ivv C Z (dk oX10_takeClause 48 rfl) cl_X10_241 ci_X10_takeItem rfl (km hn rfl) (c_X10_takeItem hn Ia J t L p_ a1 (ks ||| 2 ^ (kdOf t L (sk t L a_))) (kdOf t L (sk t L a_)) ac1 hp ⟨Nat.pos_of_ne_zero hb27, hkd⟩ Φ (hM.P hX) hok hPS1) rfl rfl (Nat.le_of_ble_eq_true rfl) ⟨Nat.le_of_ble_eq_true rfl, Nat.le_of_ble_eq_true rfl⟩ ⟨Nat.zero_le _, Nat.zero_le _⟩ (fun I86 J86 h86 => ?_)
                  obtain ⟨e2_, hX86, ho86⟩ := h86
                  have e2_ := e2_.symm
                  subst e2_
                  refine r_aload_n C 0 (dk oX10_takeClause 49 rfl) rfl ?_
                  refine r_getI C (dk oX10_takeClause 50 rfl) fl_X10_145 rfl (km hn rfl) ?_
                  refine r_if_ne (tgt := 109) C (dk oX10_takeClause 51 rfl) (by decide) (fun hb93 => ?_) (fun hb93 => ?_)
                  · have hbd : mPB t L p_ Φ (0, sk t L a_, ks, k0, ac) I86 := by
                      rcases ho86 with h | ⟨a2, ac2, h, _⟩
                      · exact h.to hr
                      · exact absurd h.zf hb93
                    refine r_iconst C (dk oX10_takeClause 58 rfl) (v := nI 0) (by decide) ?_
                    refine r_topI (show nI 0 = b32 false from rfl) ?_
                    refine r_istore_n (lo' := [(3, _), (0, _), (1, _), (2, _)]) C (dk oX10_takeClause 59 rfl) rfl (by decide) rfl ?_
                    refine r_aload_n C 1 (dk oX10_takeClause 60 rfl) rfl ?_
                    refine r_dup C (dk oX10_takeClause 61 rfl) rfl ?_
                    refine r_getI C (dk oX10_takeClause 62 rfl) fl_X10_142 rfl (km hn rfl) ?_
                    first
                      | rw [hh97]
                      | skip
                    refine r_iload_n C 0 (dk oX10_takeClause 63 rfl) rfl ?_
                    refine r_isi C Z (dk oX10_takeClause 64 rfl) cl_X10_109 st_X10_one (c_X10_one _ J _) rfl rfl (Nat.le_of_ble_eq_true rfl) ⟨Nat.le_of_ble_eq_true rfl, Nat.le_of_ble_eq_true rfl⟩ ⟨Nat.zero_le _, Nat.zero_le _⟩ (fun r117 I117 J117 h117 => ?_)
                    obtain ⟨h117, e1_, e2_⟩ := h117
                    have e1_ := e1_.symm
                    have e2_ := e2_.symm
                    subst e1_
                    subst e2_
                    subst h117
                    refine r_iadd C (dk oX10_takeClause 65 rfl) ?_
                    first
                      | rw [show b32 true = nI 1 from rfl, nI_add]
                      | rw [show b32 false = nI 0 from rfl, nI_add, Nat.add_zero]
                      | skip
                    refine r_putI C (dk oX10_takeClause 66 rfl) fl_X10_142 ft_10_26 rfl (km hn rfl) ?_
                    refine r_goto (tgt := 72) C (dk oX10_takeClause 67 rfl) (by decide) ?_
                    refine V.sub [1, 2, 3, 0] rfl ?_
                    have hs1 : sk t L a1 ≤ L := sk_le hPS1.2.2.1
                    first
                      | exact ih false 0 _ (by omega) ((hX.tr hX86).up 26 _ (by decide)) (Or.inr (Or.inl (by
                          obtain ⟨f, s', ks', k', a', q1, q2, q3, q4, q5⟩ := hbd
                          exact ⟨f, s', ks', k', a', q1, q2, by rw [up2_off (by decide)]; exact q3, by rw [up2_off (by decide)]; exact q4, q5⟩)))
                      | exact ih true (L + 2 - sk t L (sk t L a2 + 1)) _ (by have := isS_l hb102; have := @sk_ge t L (sk t L a2 + 1); omega) (((hX.tr hX86).tr (hereP hhA97 hhB97)).up 26 _ (by decide)) (Or.inl ⟨rfl, sk t L a2 + 1, ac2, rfl, hPS2.at (fun k hk => by rw [up2_ne hk]; exact hhA97 k hk) (fun i a _ _ => by rw [up2_off a]; exact hhB97 i a) up2_at (by have := isS_l hb102; omega), (hr.trans hr2).then (pS_cm hb102), by have := @sk_ge t L (sk t L a2 + 1); omega⟩)
                      | exact ih false 0 _ (by omega) (((hX.tr hX86).tr (hereP hhA97 hhB97)).up 26 _ (by decide)) (Or.inr (Or.inr ⟨rfl, sk t L a2, ac2, hPS2.at (fun k hk => by rw [up2_ne hk]; exact hhA97 k hk) (fun i a _ _ => by rw [up2_off a]; exact hhB97 i a) up2_at (sk_le hPS2.2.2.1), by rw [sk_sk]; exact hr.trans hr2, by rw [sk_sk]; exact hb102, by rw [sk_sk]; omega⟩))
                  · obtain ⟨a2, ac2, hPS2, hr2, hlt2⟩ : ∃ a2 ac2, mPS I86 t L p_ a2 (ks ||| 2 ^ (kdOf t L (sk t L a_))) ac2 ∧ rchP (stpP t L p_ Φ) (1, sk t L a1, (ks ||| 2 ^ (kdOf t L (sk t L a_))), (kdOf t L (sk t L a_)), ac1) (2, sk t L a2, (ks ||| 2 ^ (kdOf t L (sk t L a_))), (kdOf t L (sk t L a_)), ac2) ∧ sk t L a1 < sk t L a2 := by
                      rcases ho86 with h | h
                      · exact absurd hb93 h.nz
                      · exact h
                    refine r_aload_n C 0 (dk oX10_takeClause 52 rfl) rfl ?_
                    refine r_ivi C Z (dk oX10_takeClause 53 rfl) cl_X10_148 ci_X10_here rfl (km hn rfl) (c_X10_here hn I86 J t L (hPS2.1) (a2) (hPS2.2.1) (hPS2.2.2.1)) rfl rfl (Nat.le_of_ble_eq_true rfl) ⟨Nat.le_of_ble_eq_true rfl, Nat.le_of_ble_eq_true rfl⟩ ⟨Nat.zero_le _, Nat.zero_le _⟩ (fun r97 I97 J97 h97 => ?_)
                    obtain ⟨e1_, hh97, hhA97, hhB97, e2_⟩ := h97
                    have e1_ := e1_.symm
                    have e2_ := e2_.symm
                    subst e1_
                    subst e2_
                    refine r_bipush C (dk oX10_takeClause 54 rfl) (v := nI 44) (by decide) ?_
                    refine r_icmp_ne (tgt := 109) C (dk oX10_takeClause 55 rfl) (by decide) (fun hb102 => ?_) (fun hb102 => ?_)
                    · rw [hr_c (fun h => (hPS2.1.2.2 _ h).1) (by decide)] at hb102
                      have hb102 := nbf hb102
                      refine r_iconst C (dk oX10_takeClause 58 rfl) (v := nI 0) (by decide) ?_
                      refine r_topI (show nI 0 = b32 false from rfl) ?_
                      refine r_istore_n (lo' := [(3, _), (0, _), (1, _), (2, _)]) C (dk oX10_takeClause 59 rfl) rfl (by decide) rfl ?_
                      refine r_aload_n C 1 (dk oX10_takeClause 60 rfl) rfl ?_
                      refine r_dup C (dk oX10_takeClause 61 rfl) rfl ?_
                      refine r_getI C (dk oX10_takeClause 62 rfl) fl_X10_142 rfl (km hn rfl) ?_
                      first
                        | rw [hh97]
                        | skip
                      refine r_iload_n C 0 (dk oX10_takeClause 63 rfl) rfl ?_
                      refine r_isi C Z (dk oX10_takeClause 64 rfl) cl_X10_109 st_X10_one (c_X10_one _ J _) rfl rfl (Nat.le_of_ble_eq_true rfl) ⟨Nat.le_of_ble_eq_true rfl, Nat.le_of_ble_eq_true rfl⟩ ⟨Nat.zero_le _, Nat.zero_le _⟩ (fun r117 I117 J117 h117 => ?_)
                      obtain ⟨h117, e1_, e2_⟩ := h117
                      have e1_ := e1_.symm
                      have e2_ := e2_.symm
                      subst e1_
                      subst e2_
                      subst h117
                      refine r_iadd C (dk oX10_takeClause 65 rfl) ?_
                      first
                        | rw [show b32 true = nI 1 from rfl, nI_add]
                        | rw [show b32 false = nI 0 from rfl, nI_add, Nat.add_zero]
                        | skip
                      refine r_putI C (dk oX10_takeClause 66 rfl) fl_X10_142 ft_10_26 rfl (km hn rfl) ?_
                      refine r_goto (tgt := 72) C (dk oX10_takeClause 67 rfl) (by decide) ?_
                      refine V.sub [1, 2, 3, 0] rfl ?_
                      have hs1 : sk t L a1 ≤ L := sk_le hPS1.2.2.1
                      first
                        | exact ih false 0 _ (by omega) ((hX.tr hX86).up 26 _ (by decide)) (Or.inr (Or.inl (by
                            obtain ⟨f, s', ks', k', a', q1, q2, q3, q4, q5⟩ := hbd
                            exact ⟨f, s', ks', k', a', q1, q2, by rw [up2_off (by decide)]; exact q3, by rw [up2_off (by decide)]; exact q4, q5⟩)))
                        | exact ih true (L + 2 - sk t L (sk t L a2 + 1)) _ (by have := isS_l hb102; have := @sk_ge t L (sk t L a2 + 1); omega) (((hX.tr hX86).tr (hereP hhA97 hhB97)).up 26 _ (by decide)) (Or.inl ⟨rfl, sk t L a2 + 1, ac2, rfl, hPS2.at (fun k hk => by rw [up2_ne hk]; exact hhA97 k hk) (fun i a _ _ => by rw [up2_off a]; exact hhB97 i a) up2_at (by have := isS_l hb102; omega), (hr.trans hr2).then (pS_cm hb102), by have := @sk_ge t L (sk t L a2 + 1); omega⟩)
                        | exact ih false 0 _ (by omega) (((hX.tr hX86).tr (hereP hhA97 hhB97)).up 26 _ (by decide)) (Or.inr (Or.inr ⟨rfl, sk t L a2, ac2, hPS2.at (fun k hk => by rw [up2_ne hk]; exact hhA97 k hk) (fun i a _ _ => by rw [up2_off a]; exact hhB97 i a) up2_at (sk_le hPS2.2.2.1), by rw [sk_sk]; exact hr.trans hr2, by rw [sk_sk]; exact hb102, by rw [sk_sk]; omega⟩))
                    · rw [hr_c (fun h => (hPS2.1.2.2 _ h).1) (by decide)] at hb102
                      refine r_iconst C (dk oX10_takeClause 56 rfl) (v := nI 1) (by decide) ?_
                      refine r_topI (show nI 1 = b32 true from rfl) ?_
                      refine r_goto (tgt := 110) C (dk oX10_takeClause 57 rfl) (by decide) ?_
                      refine r_istore_n (lo' := [(3, _), (0, _), (1, _), (2, _)]) C (dk oX10_takeClause 59 rfl) rfl (by decide) rfl ?_
                      refine r_aload_n C 1 (dk oX10_takeClause 60 rfl) rfl ?_
                      refine r_dup C (dk oX10_takeClause 61 rfl) rfl ?_
                      refine r_getI C (dk oX10_takeClause 62 rfl) fl_X10_142 rfl (km hn rfl) ?_
                      first
                        | rw [hh97]
                        | skip
                      refine r_iload_n C 0 (dk oX10_takeClause 63 rfl) rfl ?_
                      refine r_isi C Z (dk oX10_takeClause 64 rfl) cl_X10_109 st_X10_one (c_X10_one _ J _) rfl rfl (Nat.le_of_ble_eq_true rfl) ⟨Nat.le_of_ble_eq_true rfl, Nat.le_of_ble_eq_true rfl⟩ ⟨Nat.zero_le _, Nat.zero_le _⟩ (fun r117 I117 J117 h117 => ?_)
                      obtain ⟨h117, e1_, e2_⟩ := h117
                      have e1_ := e1_.symm
                      have e2_ := e2_.symm
                      subst e1_
                      subst e2_
                      subst h117
                      refine r_iadd C (dk oX10_takeClause 65 rfl) ?_
                      first
                        | rw [show b32 true = nI 1 from rfl, nI_add]
                        | rw [show b32 false = nI 0 from rfl, nI_add, Nat.add_zero]
                        | skip
                      refine r_putI C (dk oX10_takeClause 66 rfl) fl_X10_142 ft_10_26 rfl (km hn rfl) ?_
                      refine r_goto (tgt := 72) C (dk oX10_takeClause 67 rfl) (by decide) ?_
                      refine V.sub [1, 2, 3, 0] rfl ?_
                      have hs1 : sk t L a1 ≤ L := sk_le hPS1.2.2.1
                      first
                        | exact ih false 0 _ (by omega) ((hX.tr hX86).up 26 _ (by decide)) (Or.inr (Or.inl (by
                            obtain ⟨f, s', ks', k', a', q1, q2, q3, q4, q5⟩ := hbd
                            exact ⟨f, s', ks', k', a', q1, q2, by rw [up2_off (by decide)]; exact q3, by rw [up2_off (by decide)]; exact q4, q5⟩)))
                        | exact ih true (L + 2 - sk t L (sk t L a2 + 1)) _ (by have := isS_l hb102; have := @sk_ge t L (sk t L a2 + 1); omega) (((hX.tr hX86).tr (hereP hhA97 hhB97)).up 26 _ (by decide)) (Or.inl ⟨rfl, sk t L a2 + 1, ac2, rfl, hPS2.at (fun k hk => by rw [up2_ne hk]; exact hhA97 k hk) (fun i a _ _ => by rw [up2_off a]; exact hhB97 i a) up2_at (by have := isS_l hb102; omega), (hr.trans hr2).then (pS_cm hb102), by have := @sk_ge t L (sk t L a2 + 1); omega⟩)
                        | exact ih false 0 _ (by omega) (((hX.tr hX86).tr (hereP hhA97 hhB97)).up 26 _ (by decide)) (Or.inr (Or.inr ⟨rfl, sk t L a2, ac2, hPS2.at (fun k hk => by rw [up2_ne hk]; exact hhA97 k hk) (fun i a _ _ => by rw [up2_off a]; exact hhB97 i a) up2_at (sk_le hPS2.2.2.1), by rw [sk_sk]; exact hr.trans hr2, by rw [sk_sk]; exact hb102, by rw [sk_sk]; omega⟩))
          refine V.sub [2, 3, 1, 0] rfl ?_
          have hwl : wE t L (sk t L a_) ≤ L := wE_le hsL
          have hX52 : mPX p_ I (up2 I52 117 36 (nI (ks ||| 2 ^ (kdOf t L (sk t L a_))))) := (hf1.P).up 36 _ (by decide)
          have hnx := wE_in (t := t) (L := L) hkw.1 hkw.2
          have hge := @wE_ge t L (sk t L a_ + 1)
          have hge2 := @sk_ge t L (wE t L (sk t L a_))
          refine L72 (L + 2 - sk t L (wE t L (sk t L a_)) + 1) true (L + 2 - sk t L (wE t L (sk t L a_))) _ (by omega) hX52 (Or.inl ⟨rfl, wE t L (sk t L a_), ac, rfl, ⟨hT.of (by rw [up2_off (by decide)]; exact hf1.2 25 (by decide) (by decide) (by decide)) (by rw [up2_ne (by decide)]; exact hf1.1 141 (by decide)), by rw [up2_off (by decide)]; exact h26a, hwl, by rw [up2_off (by decide)]; exact (hf1.2 29 (by decide) (by decide) (by decide)).trans h29, by rw [up2_off (by decide)]; exact (hf1.2 30 (by decide) (by decide) (by decide)).trans h30, up2_at, or_lt128 hks hkd, by rw [up2_off (by decide)]; exact (hf1.2 37 (by decide) (by decide) (by decide)).trans h37, fun f hf => by rw [up2_ne (by decide), hf1.1 125 (by decide)]; exact hac f hf, hac6⟩, rchP.one (pS_k hsl hb27 hb55), by omega⟩)
      · rw [b32_0] at hb39
        refine r_iconst C (dk oX10_takeClause 22 rfl) (v := nI 1) (by decide) ?_
        refine r_topI (show nI 1 = b32 (decide (ks.testBit (kdOf t L (sk t L a_)) = false)) from b32_dt hb39) ?_
        refine r_goto (tgt := 47) C (dk oX10_takeClause 23 rfl) (by decide) ?_
        refine r_iconst C (dk oX10_takeClause 25 rfl) (v := nI 3) (by decide) ?_
        refine r_aload_n C 1 (dk oX10_takeClause 26 rfl) rfl ?_
        refine r_getI C (dk oX10_takeClause 27 rfl) fl_X10_152 rfl (km hn rfl) ?_
        rw [h27]
        refine r_ivi C Z (dk oX10_takeClause 28 rfl) cl_X10_173 ci_X10_want rfl (km hn rfl) (c_X10_want hn I24 J (decide (ks.testBit (kdOf t L (sk t L a_)) = false)) (nI 3) (nI (sk t L a_)) (nI 0) ((hf1.2 29 (by decide) (by decide) (by decide)).trans h29)) rfl rfl (Nat.le_of_ble_eq_true rfl) ⟨Nat.le_of_ble_eq_true rfl, Nat.le_of_ble_eq_true rfl⟩ ⟨Nat.zero_le _, Nat.zero_le _⟩ (fun r52 I52 J52 h52 => ?_)
        obtain ⟨e1_, hW52, e2_⟩ := h52
        have e1_ := e1_.symm
        have e2_ := e2_.symm
        subst e1_
        subst e2_
        refine r_if_eq (tgt := 170) C (dk oX10_takeClause 29 rfl) (by decide) (fun hb55 => ?_) (fun hb55 => ?_)
        · rw [b32_0, decide_eq_false_iff_not] at hb55
          have hb55 := want_0 hb55
          have hI52 := want_t hW52 hb55
          subst hI52
          refine hret (dk oX10_takeClause 90 rfl) ?_
          first
            | exact ⟨rfl, ((hf1.P).up 29 _ (by decide)).up 30 _ (by decide), Or.inl ⟨1, _, ks, k0, ac, by decide, by decide, by rw [up2_off (by decide), up2_at], up2_at, rchP.one (pS_k0 hsl (Classical.not_not.mp hb27))⟩⟩
            | exact ⟨rfl, ((hf1.P).up 29 _ (by decide)).up 30 _ (by decide), Or.inl ⟨3, _, ks, k0, ac, by decide, by decide, by rw [up2_off (by decide), up2_at], up2_at, rchP.one (pS_k3 hsl hb27 (by cases h : ks.testBit (kdOf t L (sk t L a_)); exact absurd h hb55; rfl))⟩⟩
            | exact ⟨rfl, ((hX.tr (hereP hhA136 hhB136)).up 29 _ (by decide)).up 30 _ (by decide), Or.inl ⟨1, _, _, _, _, by decide, by decide, by rw [up2_off (by decide), up2_at], up2_at, hr3.then (pS_no h44 hb157)⟩⟩
            | exact ⟨rfl, (hX.tr (hereP hhA136 hhB136)).up 26 _ (by decide), Or.inr ⟨sk t L a3 + 1, _, _, ac3, hPS3.at (fun k hk => by rw [up2_ne hk]; exact hhA136 k hk) (fun i a _ _ => by rw [up2_off a]; exact hhB136 i a) up2_at (by have := isS_l hb157; omega), hr3.then (pS_sc h44 hb157), by have := @sk_ge t L (sk t L a3 + 1); omega⟩⟩
            | (refine ⟨rfl, hX, Or.inl ?_⟩
               rcases hI with ⟨hg, a1, ac1, hm, hPS1, _⟩ | h | ⟨_, a1, ac1, hPS1, _⟩
               · exact absurd hPS1.zf hb131
               · exact h
               · exact absurd hPS1.zf hb131)
        · rw [b32_n, decide_eq_true_eq] at hb55
          have hb55 := want_1 (by decide) hb55
          have hI52 := want_f hW52 hb55
          subst hI52
          refine r_aload_n C 1 (dk oX10_takeClause 30 rfl) rfl ?_
          refine r_dup C (dk oX10_takeClause 31 rfl) rfl ?_
          refine r_getI C (dk oX10_takeClause 32 rfl) fl_X10_238 rfl (km hn rfl) ?_
          rw [hf1.2 36 (by decide) (by decide) (by decide), h36]
          refine r_iconst C (dk oX10_takeClause 33 rfl) (v := nI 1) (by decide) ?_
          refine r_iload_n C 0 (dk oX10_takeClause 34 rfl) rfl ?_
          refine r_ishl C (dk oX10_takeClause 35 rfl) ?_
          refine r_ior C (dk oX10_takeClause 36 rfl) ?_
          rw [or_bit (by omega)]
          refine r_putI C (dk oX10_takeClause 37 rfl) fl_X10_238 ft_10_36 rfl (km hn rfl) ?_
          refine r_iconst C (dk oX10_takeClause 38 rfl) (v := nI 1) (by decide) ?_
          refine r_istore_n (lo' := [(3, _), (2, _), (0, _), (1, _)]) C (dk oX10_takeClause 39 rfl) rfl (by decide) rfl ?_
          have L72 : ∀ (d_ : Nat) (g : Bool) (m_ : Nat) (Ia : MI), m_ < d_ → mPX p_ I Ia → icI t L p_ Φ (0, sk t L a_, ks, k0, ac) (sk t L a_) (ks ||| 2 ^ (kdOf t L (sk t L a_))) (kdOf t L (sk t L a_)) g m_ Ia → V p l e (rmL 4) s m args below meth c Q D A 4 0 0 n ad (mE cA ad Ia J) 72 [(0, .ref (ad 117)), (1, .int (nI p_)), (2, .int (nI (kdOf t L (sk t L a_)))), (3, .int (b32 g))] [] := by
            intro d_
            induction d_ with
            | zero => intros; exact absurd (by assumption) (Nat.not_lt_zero _)
            | succ d_ ih => 
              intro g m_ Ia hd_ hX hI
              refine r_iload_n C 3 (dk oX10_takeClause 40 rfl) rfl ?_
              refine r_if_eq (tgt := 127) C (dk oX10_takeClause 41 rfl) (by decide) (fun hb73 => ?_) (fun hb73 => ?_)
              · refine r_aload_n C 0 (dk oX10_takeClause 68 rfl) rfl ?_
                refine r_getI C (dk oX10_takeClause 69 rfl) fl_X10_145 rfl (km hn rfl) ?_
                refine r_if_ne (tgt := 170) C (dk oX10_takeClause 70 rfl) (by decide) (fun hb131 => ?_) (fun hb131 => ?_)
                · skip
                  refine hret (dk oX10_takeClause 90 rfl) ?_
                  first
                    | exact ⟨rfl, ((hf1.P).up 29 _ (by decide)).up 30 _ (by decide), Or.inl ⟨1, _, ks, k0, ac, by decide, by decide, by rw [up2_off (by decide), up2_at], up2_at, rchP.one (pS_k0 hsl (Classical.not_not.mp hb27))⟩⟩
                    | exact ⟨rfl, ((hf1.P).up 29 _ (by decide)).up 30 _ (by decide), Or.inl ⟨3, _, ks, k0, ac, by decide, by decide, by rw [up2_off (by decide), up2_at], up2_at, rchP.one (pS_k3 hsl hb27 (by cases h : ks.testBit (kdOf t L (sk t L a_)); exact absurd h hb55; rfl))⟩⟩
                    | exact ⟨rfl, ((hX.tr (hereP hhA136 hhB136)).up 29 _ (by decide)).up 30 _ (by decide), Or.inl ⟨1, _, _, _, _, by decide, by decide, by rw [up2_off (by decide), up2_at], up2_at, hr3.then (pS_no h44 hb157)⟩⟩
                    | exact ⟨rfl, (hX.tr (hereP hhA136 hhB136)).up 26 _ (by decide), Or.inr ⟨sk t L a3 + 1, _, _, ac3, hPS3.at (fun k hk => by rw [up2_ne hk]; exact hhA136 k hk) (fun i a _ _ => by rw [up2_off a]; exact hhB136 i a) up2_at (by have := isS_l hb157; omega), hr3.then (pS_sc h44 hb157), by have := @sk_ge t L (sk t L a3 + 1); omega⟩⟩
                    | (refine ⟨rfl, hX, Or.inl ?_⟩
                       rcases hI with ⟨hg, a1, ac1, hm, hPS1, _⟩ | h | ⟨_, a1, ac1, hPS1, _⟩
                       · exact absurd hPS1.zf hb131
                       · exact h
                       · exact absurd hPS1.zf hb131)
                · obtain ⟨a3, ac3, hPS3, hr3, h44, hlt3⟩ : ∃ a1 ac1, mPS Ia t L p_ a1 (ks ||| 2 ^ (kdOf t L (sk t L a_))) ac1 ∧ rchP (stpP t L p_ Φ) (0, sk t L a_, ks, k0, ac) (2, sk t L a1, (ks ||| 2 ^ (kdOf t L (sk t L a_))), (kdOf t L (sk t L a_)), ac1) ∧ isS t L (sk t L a1) 44 = false ∧ (sk t L a_) < sk t L a1 := by
                    rcases hI with ⟨hg, a1, ac1, hm, hPS1, _⟩ | h | ⟨_, h⟩
                    · exfalso
                      first
                        | (rw [hg] at hb73; exact absurd hb73 (by decide))
                        | exact hb80 hPS1.zf
                    · exact absurd hb131 h.nz
                    · exact h
                  have hs3 : sk t L a3 ≤ L := sk_le hPS3.2.2.1
                  refine r_aload_n C 0 (dk oX10_takeClause 71 rfl) rfl ?_
                  refine r_aload_n C 0 (dk oX10_takeClause 72 rfl) rfl ?_
                  refine r_ivi C Z (dk oX10_takeClause 73 rfl) cl_X10_148 ci_X10_here rfl (km hn rfl) (c_X10_here hn Ia J t L (hPS3.1) (a3) (hPS3.2.1) (hPS3.2.2.1)) rfl rfl (Nat.le_of_ble_eq_true rfl) ⟨Nat.le_of_ble_eq_true rfl, Nat.le_of_ble_eq_true rfl⟩ ⟨Nat.zero_le _, Nat.zero_le _⟩ (fun r136 I136 J136 h136 => ?_)
                  obtain ⟨e1_, hh136, hhA136, hhB136, e2_⟩ := h136
                  have e1_ := e1_.symm
                  have e2_ := e2_.symm
                  subst e1_
                  subst e2_
                  refine r_bipush C (dk oX10_takeClause 74 rfl) (v := nI 59) (by decide) ?_
                  refine r_icmp_ne (tgt := 148) C (dk oX10_takeClause 75 rfl) (by decide) (fun hb141 => ?_) (fun hb141 => ?_)
                  · rw [hr_c (fun h => (hPS3.1.2.2 _ h).1) (by decide)] at hb141
                    refine r_iconst C (dk oX10_takeClause 78 rfl) (v := nI 0) (by decide) ?_
                    refine r_topI (show nI 0 = b32 (decide (isS t L (sk t L a3) 59 = true)) from b32_df hb141) ?_
                    refine r_iconst C (dk oX10_takeClause 79 rfl) (v := nI 1) (by decide) ?_
                    refine r_aload_n C 0 (dk oX10_takeClause 80 rfl) rfl ?_
                    refine r_getI C (dk oX10_takeClause 81 rfl) fl_X10_142 rfl (km hn rfl) ?_
                    rw [hh136]
                    refine r_ivi C Z (dk oX10_takeClause 82 rfl) cl_X10_173 ci_X10_want rfl (km hn rfl) (c_X10_want hn I136 J (decide (isS t L (sk t L a3) 59 = true)) (nI 1) (nI (sk t L a3)) (nI 0) ((hhB136 29 (by decide)).trans hPS3.2.2.2.1)) rfl rfl (Nat.le_of_ble_eq_true rfl) ⟨Nat.le_of_ble_eq_true rfl, Nat.le_of_ble_eq_true rfl⟩ ⟨Nat.zero_le _, Nat.zero_le _⟩ (fun r154 I154 J154 h154 => ?_)
                    obtain ⟨e1_, hW154, e2_⟩ := h154
                    have e1_ := e1_.symm
                    have e2_ := e2_.symm
                    subst e1_
                    subst e2_
                    refine r_if_eq (tgt := 170) C (dk oX10_takeClause 83 rfl) (by decide) (fun hb157 => ?_) (fun hb157 => ?_)
                    · rw [b32_0, decide_eq_false_iff_not] at hb157
                      have hb157 := want_0 hb157
                      have hI154 := want_t hW154 hb157
                      subst hI154
                      refine hret (dk oX10_takeClause 90 rfl) ?_
                      first
                        | exact ⟨rfl, ((hf1.P).up 29 _ (by decide)).up 30 _ (by decide), Or.inl ⟨1, _, ks, k0, ac, by decide, by decide, by rw [up2_off (by decide), up2_at], up2_at, rchP.one (pS_k0 hsl (Classical.not_not.mp hb27))⟩⟩
                        | exact ⟨rfl, ((hf1.P).up 29 _ (by decide)).up 30 _ (by decide), Or.inl ⟨3, _, ks, k0, ac, by decide, by decide, by rw [up2_off (by decide), up2_at], up2_at, rchP.one (pS_k3 hsl hb27 (by cases h : ks.testBit (kdOf t L (sk t L a_)); exact absurd h hb55; rfl))⟩⟩
                        | exact ⟨rfl, ((hX.tr (hereP hhA136 hhB136)).up 29 _ (by decide)).up 30 _ (by decide), Or.inl ⟨1, _, _, _, _, by decide, by decide, by rw [up2_off (by decide), up2_at], up2_at, hr3.then (pS_no h44 hb157)⟩⟩
                        | exact ⟨rfl, (hX.tr (hereP hhA136 hhB136)).up 26 _ (by decide), Or.inr ⟨sk t L a3 + 1, _, _, ac3, hPS3.at (fun k hk => by rw [up2_ne hk]; exact hhA136 k hk) (fun i a _ _ => by rw [up2_off a]; exact hhB136 i a) up2_at (by have := isS_l hb157; omega), hr3.then (pS_sc h44 hb157), by have := @sk_ge t L (sk t L a3 + 1); omega⟩⟩
                        | (refine ⟨rfl, hX, Or.inl ?_⟩
                           rcases hI with ⟨hg, a1, ac1, hm, hPS1, _⟩ | h | ⟨_, a1, ac1, hPS1, _⟩
                           · exact absurd hPS1.zf hb131
                           · exact h
                           · exact absurd hPS1.zf hb131)
                    · rw [b32_n, decide_eq_true_eq] at hb157
                      have hb157 := want_1 (by decide) hb157
                      have hI154 := want_f hW154 hb157
                      subst hI154
                      refine r_aload_n C 0 (dk oX10_takeClause 84 rfl) rfl ?_
                      refine r_dup C (dk oX10_takeClause 85 rfl) rfl ?_
                      refine r_getI C (dk oX10_takeClause 86 rfl) fl_X10_142 rfl (km hn rfl) ?_
                      rw [hh136]
                      refine r_iconst C (dk oX10_takeClause 87 rfl) (v := nI 1) (by decide) ?_
                      refine r_iadd C (dk oX10_takeClause 88 rfl) ?_
                      rw [nI_add]
                      refine r_putI C (dk oX10_takeClause 89 rfl) fl_X10_142 ft_10_26 rfl (km hn rfl) ?_
                      refine hret (dk oX10_takeClause 90 rfl) ?_
                      first
                        | exact ⟨rfl, ((hf1.P).up 29 _ (by decide)).up 30 _ (by decide), Or.inl ⟨1, _, ks, k0, ac, by decide, by decide, by rw [up2_off (by decide), up2_at], up2_at, rchP.one (pS_k0 hsl (Classical.not_not.mp hb27))⟩⟩
                        | exact ⟨rfl, ((hf1.P).up 29 _ (by decide)).up 30 _ (by decide), Or.inl ⟨3, _, ks, k0, ac, by decide, by decide, by rw [up2_off (by decide), up2_at], up2_at, rchP.one (pS_k3 hsl hb27 (by cases h : ks.testBit (kdOf t L (sk t L a_)); exact absurd h hb55; rfl))⟩⟩
                        | exact ⟨rfl, ((hX.tr (hereP hhA136 hhB136)).up 29 _ (by decide)).up 30 _ (by decide), Or.inl ⟨1, _, _, _, _, by decide, by decide, by rw [up2_off (by decide), up2_at], up2_at, hr3.then (pS_no h44 hb157)⟩⟩
                        | exact ⟨rfl, (hX.tr (hereP hhA136 hhB136)).up 26 _ (by decide), Or.inr ⟨sk t L a3 + 1, _, _, ac3, hPS3.at (fun k hk => by rw [up2_ne hk]; exact hhA136 k hk) (fun i a _ _ => by rw [up2_off a]; exact hhB136 i a) up2_at (by have := isS_l hb157; omega), hr3.then (pS_sc h44 hb157), by have := @sk_ge t L (sk t L a3 + 1); omega⟩⟩
                        | (refine ⟨rfl, hX, Or.inl ?_⟩
                           rcases hI with ⟨hg, a1, ac1, hm, hPS1, _⟩ | h | ⟨_, a1, ac1, hPS1, _⟩
                           · exact absurd hPS1.zf hb131
                           · exact h
                           · exact absurd hPS1.zf hb131)
                  · rw [hr_c (fun h => (hPS3.1.2.2 _ h).1) (by decide)] at hb141
                    refine r_iconst C (dk oX10_takeClause 76 rfl) (v := nI 1) (by decide) ?_
                    refine r_topI (show nI 1 = b32 (decide (isS t L (sk t L a3) 59 = true)) from b32_dt hb141) ?_
                    refine r_goto (tgt := 149) C (dk oX10_takeClause 77 rfl) (by decide) ?_
                    refine r_iconst C (dk oX10_takeClause 79 rfl) (v := nI 1) (by decide) ?_
                    refine r_aload_n C 0 (dk oX10_takeClause 80 rfl) rfl ?_
                    refine r_getI C (dk oX10_takeClause 81 rfl) fl_X10_142 rfl (km hn rfl) ?_
                    rw [hh136]
                    refine r_ivi C Z (dk oX10_takeClause 82 rfl) cl_X10_173 ci_X10_want rfl (km hn rfl) (c_X10_want hn I136 J (decide (isS t L (sk t L a3) 59 = true)) (nI 1) (nI (sk t L a3)) (nI 0) ((hhB136 29 (by decide)).trans hPS3.2.2.2.1)) rfl rfl (Nat.le_of_ble_eq_true rfl) ⟨Nat.le_of_ble_eq_true rfl, Nat.le_of_ble_eq_true rfl⟩ ⟨Nat.zero_le _, Nat.zero_le _⟩ (fun r154 I154 J154 h154 => ?_)
                    obtain ⟨e1_, hW154, e2_⟩ := h154
                    have e1_ := e1_.symm
                    have e2_ := e2_.symm
                    subst e1_
                    subst e2_
                    refine r_if_eq (tgt := 170) C (dk oX10_takeClause 83 rfl) (by decide) (fun hb157 => ?_) (fun hb157 => ?_)
                    · rw [b32_0, decide_eq_false_iff_not] at hb157
                      have hb157 := want_0 hb157
                      have hI154 := want_t hW154 hb157
                      subst hI154
                      refine hret (dk oX10_takeClause 90 rfl) ?_
                      first
                        | exact ⟨rfl, ((hf1.P).up 29 _ (by decide)).up 30 _ (by decide), Or.inl ⟨1, _, ks, k0, ac, by decide, by decide, by rw [up2_off (by decide), up2_at], up2_at, rchP.one (pS_k0 hsl (Classical.not_not.mp hb27))⟩⟩
                        | exact ⟨rfl, ((hf1.P).up 29 _ (by decide)).up 30 _ (by decide), Or.inl ⟨3, _, ks, k0, ac, by decide, by decide, by rw [up2_off (by decide), up2_at], up2_at, rchP.one (pS_k3 hsl hb27 (by cases h : ks.testBit (kdOf t L (sk t L a_)); exact absurd h hb55; rfl))⟩⟩
                        | exact ⟨rfl, ((hX.tr (hereP hhA136 hhB136)).up 29 _ (by decide)).up 30 _ (by decide), Or.inl ⟨1, _, _, _, _, by decide, by decide, by rw [up2_off (by decide), up2_at], up2_at, hr3.then (pS_no h44 hb157)⟩⟩
                        | exact ⟨rfl, (hX.tr (hereP hhA136 hhB136)).up 26 _ (by decide), Or.inr ⟨sk t L a3 + 1, _, _, ac3, hPS3.at (fun k hk => by rw [up2_ne hk]; exact hhA136 k hk) (fun i a _ _ => by rw [up2_off a]; exact hhB136 i a) up2_at (by have := isS_l hb157; omega), hr3.then (pS_sc h44 hb157), by have := @sk_ge t L (sk t L a3 + 1); omega⟩⟩
                        | (refine ⟨rfl, hX, Or.inl ?_⟩
                           rcases hI with ⟨hg, a1, ac1, hm, hPS1, _⟩ | h | ⟨_, a1, ac1, hPS1, _⟩
                           · exact absurd hPS1.zf hb131
                           · exact h
                           · exact absurd hPS1.zf hb131)
                    · rw [b32_n, decide_eq_true_eq] at hb157
                      have hb157 := want_1 (by decide) hb157
                      have hI154 := want_f hW154 hb157
                      subst hI154
                      refine r_aload_n C 0 (dk oX10_takeClause 84 rfl) rfl ?_
                      refine r_dup C (dk oX10_takeClause 85 rfl) rfl ?_
                      refine r_getI C (dk oX10_takeClause 86 rfl) fl_X10_142 rfl (km hn rfl) ?_
                      rw [hh136]
                      refine r_iconst C (dk oX10_takeClause 87 rfl) (v := nI 1) (by decide) ?_
                      refine r_iadd C (dk oX10_takeClause 88 rfl) ?_
                      rw [nI_add]
                      refine r_putI C (dk oX10_takeClause 89 rfl) fl_X10_142 ft_10_26 rfl (km hn rfl) ?_
                      refine hret (dk oX10_takeClause 90 rfl) ?_
                      first
                        | exact ⟨rfl, ((hf1.P).up 29 _ (by decide)).up 30 _ (by decide), Or.inl ⟨1, _, ks, k0, ac, by decide, by decide, by rw [up2_off (by decide), up2_at], up2_at, rchP.one (pS_k0 hsl (Classical.not_not.mp hb27))⟩⟩
                        | exact ⟨rfl, ((hf1.P).up 29 _ (by decide)).up 30 _ (by decide), Or.inl ⟨3, _, ks, k0, ac, by decide, by decide, by rw [up2_off (by decide), up2_at], up2_at, rchP.one (pS_k3 hsl hb27 (by cases h : ks.testBit (kdOf t L (sk t L a_)); exact absurd h hb55; rfl))⟩⟩
                        | exact ⟨rfl, ((hX.tr (hereP hhA136 hhB136)).up 29 _ (by decide)).up 30 _ (by decide), Or.inl ⟨1, _, _, _, _, by decide, by decide, by rw [up2_off (by decide), up2_at], up2_at, hr3.then (pS_no h44 hb157)⟩⟩
                        | exact ⟨rfl, (hX.tr (hereP hhA136 hhB136)).up 26 _ (by decide), Or.inr ⟨sk t L a3 + 1, _, _, ac3, hPS3.at (fun k hk => by rw [up2_ne hk]; exact hhA136 k hk) (fun i a _ _ => by rw [up2_off a]; exact hhB136 i a) up2_at (by have := isS_l hb157; omega), hr3.then (pS_sc h44 hb157), by have := @sk_ge t L (sk t L a3 + 1); omega⟩⟩
                        | (refine ⟨rfl, hX, Or.inl ?_⟩
                           rcases hI with ⟨hg, a1, ac1, hm, hPS1, _⟩ | h | ⟨_, a1, ac1, hPS1, _⟩
                           · exact absurd hPS1.zf hb131
                           · exact h
                           · exact absurd hPS1.zf hb131)
              · refine r_aload_n C 0 (dk oX10_takeClause 42 rfl) rfl ?_
                refine r_getI C (dk oX10_takeClause 43 rfl) fl_X10_145 rfl (km hn rfl) ?_
                refine r_if_ne (tgt := 127) C (dk oX10_takeClause 44 rfl) (by decide) (fun hb80 => ?_) (fun hb80 => ?_)
                · refine r_aload_n C 0 (dk oX10_takeClause 68 rfl) rfl ?_
                  refine r_getI C (dk oX10_takeClause 69 rfl) fl_X10_145 rfl (km hn rfl) ?_
                  refine r_if_ne (tgt := 170) C (dk oX10_takeClause 70 rfl) (by decide) (fun hb131 => ?_) (fun hb131 => ?_)
                  · skip
                    refine hret (dk oX10_takeClause 90 rfl) ?_
                    first
                      | exact ⟨rfl, ((hf1.P).up 29 _ (by decide)).up 30 _ (by decide), Or.inl ⟨1, _, ks, k0, ac, by decide, by decide, by rw [up2_off (by decide), up2_at], up2_at, rchP.one (pS_k0 hsl (Classical.not_not.mp hb27))⟩⟩
                      | exact ⟨rfl, ((hf1.P).up 29 _ (by decide)).up 30 _ (by decide), Or.inl ⟨3, _, ks, k0, ac, by decide, by decide, by rw [up2_off (by decide), up2_at], up2_at, rchP.one (pS_k3 hsl hb27 (by cases h : ks.testBit (kdOf t L (sk t L a_)); exact absurd h hb55; rfl))⟩⟩
                      | exact ⟨rfl, ((hX.tr (hereP hhA136 hhB136)).up 29 _ (by decide)).up 30 _ (by decide), Or.inl ⟨1, _, _, _, _, by decide, by decide, by rw [up2_off (by decide), up2_at], up2_at, hr3.then (pS_no h44 hb157)⟩⟩
                      | exact ⟨rfl, (hX.tr (hereP hhA136 hhB136)).up 26 _ (by decide), Or.inr ⟨sk t L a3 + 1, _, _, ac3, hPS3.at (fun k hk => by rw [up2_ne hk]; exact hhA136 k hk) (fun i a _ _ => by rw [up2_off a]; exact hhB136 i a) up2_at (by have := isS_l hb157; omega), hr3.then (pS_sc h44 hb157), by have := @sk_ge t L (sk t L a3 + 1); omega⟩⟩
                      | (refine ⟨rfl, hX, Or.inl ?_⟩
                         rcases hI with ⟨hg, a1, ac1, hm, hPS1, _⟩ | h | ⟨_, a1, ac1, hPS1, _⟩
                         · exact absurd hPS1.zf hb131
                         · exact h
                         · exact absurd hPS1.zf hb131)
                  · obtain ⟨a3, ac3, hPS3, hr3, h44, hlt3⟩ : ∃ a1 ac1, mPS Ia t L p_ a1 (ks ||| 2 ^ (kdOf t L (sk t L a_))) ac1 ∧ rchP (stpP t L p_ Φ) (0, sk t L a_, ks, k0, ac) (2, sk t L a1, (ks ||| 2 ^ (kdOf t L (sk t L a_))), (kdOf t L (sk t L a_)), ac1) ∧ isS t L (sk t L a1) 44 = false ∧ (sk t L a_) < sk t L a1 := by
                      rcases hI with ⟨hg, a1, ac1, hm, hPS1, _⟩ | h | ⟨_, h⟩
                      · exfalso
                        first
                          | (rw [hg] at hb73; exact absurd hb73 (by decide))
                          | exact hb80 hPS1.zf
                      · exact absurd hb131 h.nz
                      · exact h
                    have hs3 : sk t L a3 ≤ L := sk_le hPS3.2.2.1
                    refine r_aload_n C 0 (dk oX10_takeClause 71 rfl) rfl ?_
                    refine r_aload_n C 0 (dk oX10_takeClause 72 rfl) rfl ?_
                    refine r_ivi C Z (dk oX10_takeClause 73 rfl) cl_X10_148 ci_X10_here rfl (km hn rfl) (c_X10_here hn Ia J t L (hPS3.1) (a3) (hPS3.2.1) (hPS3.2.2.1)) rfl rfl (Nat.le_of_ble_eq_true rfl) ⟨Nat.le_of_ble_eq_true rfl, Nat.le_of_ble_eq_true rfl⟩ ⟨Nat.zero_le _, Nat.zero_le _⟩ (fun r136 I136 J136 h136 => ?_)
                    obtain ⟨e1_, hh136, hhA136, hhB136, e2_⟩ := h136
                    have e1_ := e1_.symm
                    have e2_ := e2_.symm
                    subst e1_
                    subst e2_
                    refine r_bipush C (dk oX10_takeClause 74 rfl) (v := nI 59) (by decide) ?_
                    refine r_icmp_ne (tgt := 148) C (dk oX10_takeClause 75 rfl) (by decide) (fun hb141 => ?_) (fun hb141 => ?_)
                    · rw [hr_c (fun h => (hPS3.1.2.2 _ h).1) (by decide)] at hb141
                      refine r_iconst C (dk oX10_takeClause 78 rfl) (v := nI 0) (by decide) ?_
                      refine r_topI (show nI 0 = b32 (decide (isS t L (sk t L a3) 59 = true)) from b32_df hb141) ?_
                      refine r_iconst C (dk oX10_takeClause 79 rfl) (v := nI 1) (by decide) ?_
                      refine r_aload_n C 0 (dk oX10_takeClause 80 rfl) rfl ?_
                      refine r_getI C (dk oX10_takeClause 81 rfl) fl_X10_142 rfl (km hn rfl) ?_
                      rw [hh136]
                      refine r_ivi C Z (dk oX10_takeClause 82 rfl) cl_X10_173 ci_X10_want rfl (km hn rfl) (c_X10_want hn I136 J (decide (isS t L (sk t L a3) 59 = true)) (nI 1) (nI (sk t L a3)) (nI 0) ((hhB136 29 (by decide)).trans hPS3.2.2.2.1)) rfl rfl (Nat.le_of_ble_eq_true rfl) ⟨Nat.le_of_ble_eq_true rfl, Nat.le_of_ble_eq_true rfl⟩ ⟨Nat.zero_le _, Nat.zero_le _⟩ (fun r154 I154 J154 h154 => ?_)
                      obtain ⟨e1_, hW154, e2_⟩ := h154
                      have e1_ := e1_.symm
                      have e2_ := e2_.symm
                      subst e1_
                      subst e2_
                      refine r_if_eq (tgt := 170) C (dk oX10_takeClause 83 rfl) (by decide) (fun hb157 => ?_) (fun hb157 => ?_)
                      · rw [b32_0, decide_eq_false_iff_not] at hb157
                        have hb157 := want_0 hb157
                        have hI154 := want_t hW154 hb157
                        subst hI154
                        refine hret (dk oX10_takeClause 90 rfl) ?_
                        first
                          | exact ⟨rfl, ((hf1.P).up 29 _ (by decide)).up 30 _ (by decide), Or.inl ⟨1, _, ks, k0, ac, by decide, by decide, by rw [up2_off (by decide), up2_at], up2_at, rchP.one (pS_k0 hsl (Classical.not_not.mp hb27))⟩⟩
                          | exact ⟨rfl, ((hf1.P).up 29 _ (by decide)).up 30 _ (by decide), Or.inl ⟨3, _, ks, k0, ac, by decide, by decide, by rw [up2_off (by decide), up2_at], up2_at, rchP.one (pS_k3 hsl hb27 (by cases h : ks.testBit (kdOf t L (sk t L a_)); exact absurd h hb55; rfl))⟩⟩
                          | exact ⟨rfl, ((hX.tr (hereP hhA136 hhB136)).up 29 _ (by decide)).up 30 _ (by decide), Or.inl ⟨1, _, _, _, _, by decide, by decide, by rw [up2_off (by decide), up2_at], up2_at, hr3.then (pS_no h44 hb157)⟩⟩
                          | exact ⟨rfl, (hX.tr (hereP hhA136 hhB136)).up 26 _ (by decide), Or.inr ⟨sk t L a3 + 1, _, _, ac3, hPS3.at (fun k hk => by rw [up2_ne hk]; exact hhA136 k hk) (fun i a _ _ => by rw [up2_off a]; exact hhB136 i a) up2_at (by have := isS_l hb157; omega), hr3.then (pS_sc h44 hb157), by have := @sk_ge t L (sk t L a3 + 1); omega⟩⟩
                          | (refine ⟨rfl, hX, Or.inl ?_⟩
                             rcases hI with ⟨hg, a1, ac1, hm, hPS1, _⟩ | h | ⟨_, a1, ac1, hPS1, _⟩
                             · exact absurd hPS1.zf hb131
                             · exact h
                             · exact absurd hPS1.zf hb131)
                      · rw [b32_n, decide_eq_true_eq] at hb157
                        have hb157 := want_1 (by decide) hb157
                        have hI154 := want_f hW154 hb157
                        subst hI154
                        refine r_aload_n C 0 (dk oX10_takeClause 84 rfl) rfl ?_
                        refine r_dup C (dk oX10_takeClause 85 rfl) rfl ?_
                        refine r_getI C (dk oX10_takeClause 86 rfl) fl_X10_142 rfl (km hn rfl) ?_
                        rw [hh136]
                        refine r_iconst C (dk oX10_takeClause 87 rfl) (v := nI 1) (by decide) ?_
                        refine r_iadd C (dk oX10_takeClause 88 rfl) ?_
                        rw [nI_add]
                        refine r_putI C (dk oX10_takeClause 89 rfl) fl_X10_142 ft_10_26 rfl (km hn rfl) ?_
                        refine hret (dk oX10_takeClause 90 rfl) ?_
                        first
                          | exact ⟨rfl, ((hf1.P).up 29 _ (by decide)).up 30 _ (by decide), Or.inl ⟨1, _, ks, k0, ac, by decide, by decide, by rw [up2_off (by decide), up2_at], up2_at, rchP.one (pS_k0 hsl (Classical.not_not.mp hb27))⟩⟩
                          | exact ⟨rfl, ((hf1.P).up 29 _ (by decide)).up 30 _ (by decide), Or.inl ⟨3, _, ks, k0, ac, by decide, by decide, by rw [up2_off (by decide), up2_at], up2_at, rchP.one (pS_k3 hsl hb27 (by cases h : ks.testBit (kdOf t L (sk t L a_)); exact absurd h hb55; rfl))⟩⟩
                          | exact ⟨rfl, ((hX.tr (hereP hhA136 hhB136)).up 29 _ (by decide)).up 30 _ (by decide), Or.inl ⟨1, _, _, _, _, by decide, by decide, by rw [up2_off (by decide), up2_at], up2_at, hr3.then (pS_no h44 hb157)⟩⟩
                          | exact ⟨rfl, (hX.tr (hereP hhA136 hhB136)).up 26 _ (by decide), Or.inr ⟨sk t L a3 + 1, _, _, ac3, hPS3.at (fun k hk => by rw [up2_ne hk]; exact hhA136 k hk) (fun i a _ _ => by rw [up2_off a]; exact hhB136 i a) up2_at (by have := isS_l hb157; omega), hr3.then (pS_sc h44 hb157), by have := @sk_ge t L (sk t L a3 + 1); omega⟩⟩
                          | (refine ⟨rfl, hX, Or.inl ?_⟩
                             rcases hI with ⟨hg, a1, ac1, hm, hPS1, _⟩ | h | ⟨_, a1, ac1, hPS1, _⟩
                             · exact absurd hPS1.zf hb131
                             · exact h
                             · exact absurd hPS1.zf hb131)
                    · rw [hr_c (fun h => (hPS3.1.2.2 _ h).1) (by decide)] at hb141
                      refine r_iconst C (dk oX10_takeClause 76 rfl) (v := nI 1) (by decide) ?_
                      refine r_topI (show nI 1 = b32 (decide (isS t L (sk t L a3) 59 = true)) from b32_dt hb141) ?_
                      refine r_goto (tgt := 149) C (dk oX10_takeClause 77 rfl) (by decide) ?_
                      refine r_iconst C (dk oX10_takeClause 79 rfl) (v := nI 1) (by decide) ?_
                      refine r_aload_n C 0 (dk oX10_takeClause 80 rfl) rfl ?_
                      refine r_getI C (dk oX10_takeClause 81 rfl) fl_X10_142 rfl (km hn rfl) ?_
                      rw [hh136]
                      refine r_ivi C Z (dk oX10_takeClause 82 rfl) cl_X10_173 ci_X10_want rfl (km hn rfl) (c_X10_want hn I136 J (decide (isS t L (sk t L a3) 59 = true)) (nI 1) (nI (sk t L a3)) (nI 0) ((hhB136 29 (by decide)).trans hPS3.2.2.2.1)) rfl rfl (Nat.le_of_ble_eq_true rfl) ⟨Nat.le_of_ble_eq_true rfl, Nat.le_of_ble_eq_true rfl⟩ ⟨Nat.zero_le _, Nat.zero_le _⟩ (fun r154 I154 J154 h154 => ?_)
                      obtain ⟨e1_, hW154, e2_⟩ := h154
                      have e1_ := e1_.symm
                      have e2_ := e2_.symm
                      subst e1_
                      subst e2_
                      refine r_if_eq (tgt := 170) C (dk oX10_takeClause 83 rfl) (by decide) (fun hb157 => ?_) (fun hb157 => ?_)
                      · rw [b32_0, decide_eq_false_iff_not] at hb157
                        have hb157 := want_0 hb157
                        have hI154 := want_t hW154 hb157
                        subst hI154
                        refine hret (dk oX10_takeClause 90 rfl) ?_
                        first
                          | exact ⟨rfl, ((hf1.P).up 29 _ (by decide)).up 30 _ (by decide), Or.inl ⟨1, _, ks, k0, ac, by decide, by decide, by rw [up2_off (by decide), up2_at], up2_at, rchP.one (pS_k0 hsl (Classical.not_not.mp hb27))⟩⟩
                          | exact ⟨rfl, ((hf1.P).up 29 _ (by decide)).up 30 _ (by decide), Or.inl ⟨3, _, ks, k0, ac, by decide, by decide, by rw [up2_off (by decide), up2_at], up2_at, rchP.one (pS_k3 hsl hb27 (by cases h : ks.testBit (kdOf t L (sk t L a_)); exact absurd h hb55; rfl))⟩⟩
                          | exact ⟨rfl, ((hX.tr (hereP hhA136 hhB136)).up 29 _ (by decide)).up 30 _ (by decide), Or.inl ⟨1, _, _, _, _, by decide, by decide, by rw [up2_off (by decide), up2_at], up2_at, hr3.then (pS_no h44 hb157)⟩⟩
                          | exact ⟨rfl, (hX.tr (hereP hhA136 hhB136)).up 26 _ (by decide), Or.inr ⟨sk t L a3 + 1, _, _, ac3, hPS3.at (fun k hk => by rw [up2_ne hk]; exact hhA136 k hk) (fun i a _ _ => by rw [up2_off a]; exact hhB136 i a) up2_at (by have := isS_l hb157; omega), hr3.then (pS_sc h44 hb157), by have := @sk_ge t L (sk t L a3 + 1); omega⟩⟩
                          | (refine ⟨rfl, hX, Or.inl ?_⟩
                             rcases hI with ⟨hg, a1, ac1, hm, hPS1, _⟩ | h | ⟨_, a1, ac1, hPS1, _⟩
                             · exact absurd hPS1.zf hb131
                             · exact h
                             · exact absurd hPS1.zf hb131)
                      · rw [b32_n, decide_eq_true_eq] at hb157
                        have hb157 := want_1 (by decide) hb157
                        have hI154 := want_f hW154 hb157
                        subst hI154
                        refine r_aload_n C 0 (dk oX10_takeClause 84 rfl) rfl ?_
                        refine r_dup C (dk oX10_takeClause 85 rfl) rfl ?_
                        refine r_getI C (dk oX10_takeClause 86 rfl) fl_X10_142 rfl (km hn rfl) ?_
                        rw [hh136]
                        refine r_iconst C (dk oX10_takeClause 87 rfl) (v := nI 1) (by decide) ?_
                        refine r_iadd C (dk oX10_takeClause 88 rfl) ?_
                        rw [nI_add]
                        refine r_putI C (dk oX10_takeClause 89 rfl) fl_X10_142 ft_10_26 rfl (km hn rfl) ?_
                        refine hret (dk oX10_takeClause 90 rfl) ?_
                        first
                          | exact ⟨rfl, ((hf1.P).up 29 _ (by decide)).up 30 _ (by decide), Or.inl ⟨1, _, ks, k0, ac, by decide, by decide, by rw [up2_off (by decide), up2_at], up2_at, rchP.one (pS_k0 hsl (Classical.not_not.mp hb27))⟩⟩
                          | exact ⟨rfl, ((hf1.P).up 29 _ (by decide)).up 30 _ (by decide), Or.inl ⟨3, _, ks, k0, ac, by decide, by decide, by rw [up2_off (by decide), up2_at], up2_at, rchP.one (pS_k3 hsl hb27 (by cases h : ks.testBit (kdOf t L (sk t L a_)); exact absurd h hb55; rfl))⟩⟩
                          | exact ⟨rfl, ((hX.tr (hereP hhA136 hhB136)).up 29 _ (by decide)).up 30 _ (by decide), Or.inl ⟨1, _, _, _, _, by decide, by decide, by rw [up2_off (by decide), up2_at], up2_at, hr3.then (pS_no h44 hb157)⟩⟩
                          | exact ⟨rfl, (hX.tr (hereP hhA136 hhB136)).up 26 _ (by decide), Or.inr ⟨sk t L a3 + 1, _, _, ac3, hPS3.at (fun k hk => by rw [up2_ne hk]; exact hhA136 k hk) (fun i a _ _ => by rw [up2_off a]; exact hhB136 i a) up2_at (by have := isS_l hb157; omega), hr3.then (pS_sc h44 hb157), by have := @sk_ge t L (sk t L a3 + 1); omega⟩⟩
                          | (refine ⟨rfl, hX, Or.inl ?_⟩
                             rcases hI with ⟨hg, a1, ac1, hm, hPS1, _⟩ | h | ⟨_, a1, ac1, hPS1, _⟩
                             · exact absurd hPS1.zf hb131
                             · exact h
                             · exact absurd hPS1.zf hb131)
                · obtain ⟨a1, ac1, hm, hPS1, hr, hlt⟩ : ∃ a1 ac1, m_ = L + 2 - sk t L a1 ∧ mPS Ia t L p_ a1 (ks ||| 2 ^ (kdOf t L (sk t L a_))) ac1 ∧ rchP (stpP t L p_ Φ) (0, sk t L a_, ks, k0, ac) (1, sk t L a1, (ks ||| 2 ^ (kdOf t L (sk t L a_))), (kdOf t L (sk t L a_)), ac1) ∧ (sk t L a_) < sk t L a1 := by
                    rcases hI with ⟨_, h⟩ | h | ⟨h, _⟩
                    · exact h
                    · exact absurd hb80 h.nz
                    · rw [h] at hb73
                      exact absurd rfl hb73
                  refine r_aload_n C 0 (dk oX10_takeClause 45 rfl) rfl ?_
                  refine r_iload_n C 2 (dk oX10_takeClause 46 rfl) rfl ?_
                  refine r_iload_n C 1 (dk oX10_takeClause 47 rfl) rfl ?_
                  refine r_ivv C Z (dk oX10_takeClause 48 rfl) cl_X10_241 ci_X10_takeItem rfl (km hn rfl) (c_X10_takeItem hn Ia J t L p_ a1 (ks ||| 2 ^ (kdOf t L (sk t L a_))) (kdOf t L (sk t L a_)) ac1 hp ⟨Nat.pos_of_ne_zero hb27, hkd⟩ Φ (hM.P hX) hok hPS1) rfl rfl (Nat.le_of_ble_eq_true rfl) ⟨Nat.le_of_ble_eq_true rfl, Nat.le_of_ble_eq_true rfl⟩ ⟨Nat.zero_le _, Nat.zero_le _⟩ (fun I86 J86 h86 => ?_)
                  obtain ⟨e2_, hX86, ho86⟩ := h86
                  have e2_ := e2_.symm
                  subst e2_
                  refine r_aload_n C 0 (dk oX10_takeClause 49 rfl) rfl ?_
                  refine r_getI C (dk oX10_takeClause 50 rfl) fl_X10_145 rfl (km hn rfl) ?_
                  refine r_if_ne (tgt := 109) C (dk oX10_takeClause 51 rfl) (by decide) (fun hb93 => ?_) (fun hb93 => ?_)
                  · have hbd : mPB t L p_ Φ (0, sk t L a_, ks, k0, ac) I86 := by
                      rcases ho86 with h | ⟨a2, ac2, h, _⟩
                      · exact h.to hr
                      · exact absurd h.zf hb93
                    refine r_iconst C (dk oX10_takeClause 58 rfl) (v := nI 0) (by decide) ?_
                    refine r_topI (show nI 0 = b32 false from rfl) ?_
                    refine r_istore_n (lo' := [(3, _), (0, _), (1, _), (2, _)]) C (dk oX10_takeClause 59 rfl) rfl (by decide) rfl ?_
                    refine r_aload_n C 1 (dk oX10_takeClause 60 rfl) rfl ?_
                    refine r_dup C (dk oX10_takeClause 61 rfl) rfl ?_
                    refine r_getI C (dk oX10_takeClause 62 rfl) fl_X10_142 rfl (km hn rfl) ?_
                    first
                      | rw [hh97]
                      | skip
                    refine r_iload_n C 0 (dk oX10_takeClause 63 rfl) rfl ?_
                    refine r_isi C Z (dk oX10_takeClause 64 rfl) cl_X10_109 st_X10_one (c_X10_one _ J _) rfl rfl (Nat.le_of_ble_eq_true rfl) ⟨Nat.le_of_ble_eq_true rfl, Nat.le_of_ble_eq_true rfl⟩ ⟨Nat.zero_le _, Nat.zero_le _⟩ (fun r117 I117 J117 h117 => ?_)
                    obtain ⟨h117, e1_, e2_⟩ := h117
                    have e1_ := e1_.symm
                    have e2_ := e2_.symm
                    subst e1_
                    subst e2_
                    subst h117
                    refine r_iadd C (dk oX10_takeClause 65 rfl) ?_
                    first
                      | rw [show b32 true = nI 1 from rfl, nI_add]
                      | rw [show b32 false = nI 0 from rfl, nI_add, Nat.add_zero]
                      | skip
                    refine r_putI C (dk oX10_takeClause 66 rfl) fl_X10_142 ft_10_26 rfl (km hn rfl) ?_
                    refine r_goto (tgt := 72) C (dk oX10_takeClause 67 rfl) (by decide) ?_
                    refine V.sub [1, 2, 3, 0] rfl ?_
                    have hs1 : sk t L a1 ≤ L := sk_le hPS1.2.2.1
                    first
                      | exact ih false 0 _ (by omega) ((hX.tr hX86).up 26 _ (by decide)) (Or.inr (Or.inl (by
                          obtain ⟨f, s', ks', k', a', q1, q2, q3, q4, q5⟩ := hbd
                          exact ⟨f, s', ks', k', a', q1, q2, by rw [up2_off (by decide)]; exact q3, by rw [up2_off (by decide)]; exact q4, q5⟩)))
                      | exact ih true (L + 2 - sk t L (sk t L a2 + 1)) _ (by have := isS_l hb102; have := @sk_ge t L (sk t L a2 + 1); omega) (((hX.tr hX86).tr (hereP hhA97 hhB97)).up 26 _ (by decide)) (Or.inl ⟨rfl, sk t L a2 + 1, ac2, rfl, hPS2.at (fun k hk => by rw [up2_ne hk]; exact hhA97 k hk) (fun i a _ _ => by rw [up2_off a]; exact hhB97 i a) up2_at (by have := isS_l hb102; omega), (hr.trans hr2).then (pS_cm hb102), by have := @sk_ge t L (sk t L a2 + 1); omega⟩)
                      | exact ih false 0 _ (by omega) (((hX.tr hX86).tr (hereP hhA97 hhB97)).up 26 _ (by decide)) (Or.inr (Or.inr ⟨rfl, sk t L a2, ac2, hPS2.at (fun k hk => by rw [up2_ne hk]; exact hhA97 k hk) (fun i a _ _ => by rw [up2_off a]; exact hhB97 i a) up2_at (sk_le hPS2.2.2.1), by rw [sk_sk]; exact hr.trans hr2, by rw [sk_sk]; exact hb102, by rw [sk_sk]; omega⟩))
                  · obtain ⟨a2, ac2, hPS2, hr2, hlt2⟩ : ∃ a2 ac2, mPS I86 t L p_ a2 (ks ||| 2 ^ (kdOf t L (sk t L a_))) ac2 ∧ rchP (stpP t L p_ Φ) (1, sk t L a1, (ks ||| 2 ^ (kdOf t L (sk t L a_))), (kdOf t L (sk t L a_)), ac1) (2, sk t L a2, (ks ||| 2 ^ (kdOf t L (sk t L a_))), (kdOf t L (sk t L a_)), ac2) ∧ sk t L a1 < sk t L a2 := by
                      rcases ho86 with h | h
                      · exact absurd hb93 h.nz
                      · exact h
                    refine r_aload_n C 0 (dk oX10_takeClause 52 rfl) rfl ?_
                    refine r_ivi C Z (dk oX10_takeClause 53 rfl) cl_X10_148 ci_X10_here rfl (km hn rfl) (c_X10_here hn I86 J t L (hPS2.1) (a2) (hPS2.2.1) (hPS2.2.2.1)) rfl rfl (Nat.le_of_ble_eq_true rfl) ⟨Nat.le_of_ble_eq_true rfl, Nat.le_of_ble_eq_true rfl⟩ ⟨Nat.zero_le _, Nat.zero_le _⟩ (fun r97 I97 J97 h97 => ?_)
                    obtain ⟨e1_, hh97, hhA97, hhB97, e2_⟩ := h97
                    have e1_ := e1_.symm
                    have e2_ := e2_.symm
                    subst e1_
                    subst e2_
                    refine r_bipush C (dk oX10_takeClause 54 rfl) (v := nI 44) (by decide) ?_
                    refine r_icmp_ne (tgt := 109) C (dk oX10_takeClause 55 rfl) (by decide) (fun hb102 => ?_) (fun hb102 => ?_)
                    · rw [hr_c (fun h => (hPS2.1.2.2 _ h).1) (by decide)] at hb102
                      have hb102 := nbf hb102
                      refine r_iconst C (dk oX10_takeClause 58 rfl) (v := nI 0) (by decide) ?_
                      refine r_topI (show nI 0 = b32 false from rfl) ?_
                      refine r_istore_n (lo' := [(3, _), (0, _), (1, _), (2, _)]) C (dk oX10_takeClause 59 rfl) rfl (by decide) rfl ?_
                      refine r_aload_n C 1 (dk oX10_takeClause 60 rfl) rfl ?_
                      refine r_dup C (dk oX10_takeClause 61 rfl) rfl ?_
                      refine r_getI C (dk oX10_takeClause 62 rfl) fl_X10_142 rfl (km hn rfl) ?_
                      first
                        | rw [hh97]
                        | skip
                      refine r_iload_n C 0 (dk oX10_takeClause 63 rfl) rfl ?_
                      refine r_isi C Z (dk oX10_takeClause 64 rfl) cl_X10_109 st_X10_one (c_X10_one _ J _) rfl rfl (Nat.le_of_ble_eq_true rfl) ⟨Nat.le_of_ble_eq_true rfl, Nat.le_of_ble_eq_true rfl⟩ ⟨Nat.zero_le _, Nat.zero_le _⟩ (fun r117 I117 J117 h117 => ?_)
                      obtain ⟨h117, e1_, e2_⟩ := h117
                      have e1_ := e1_.symm
                      have e2_ := e2_.symm
                      subst e1_
                      subst e2_
                      subst h117
                      refine r_iadd C (dk oX10_takeClause 65 rfl) ?_
                      first
                        | rw [show b32 true = nI 1 from rfl, nI_add]
                        | rw [show b32 false = nI 0 from rfl, nI_add, Nat.add_zero]
                        | skip
                      refine r_putI C (dk oX10_takeClause 66 rfl) fl_X10_142 ft_10_26 rfl (km hn rfl) ?_
                      refine r_goto (tgt := 72) C (dk oX10_takeClause 67 rfl) (by decide) ?_
                      refine V.sub [1, 2, 3, 0] rfl ?_
                      have hs1 : sk t L a1 ≤ L := sk_le hPS1.2.2.1
                      first
                        | exact ih false 0 _ (by omega) ((hX.tr hX86).up 26 _ (by decide)) (Or.inr (Or.inl (by
                            obtain ⟨f, s', ks', k', a', q1, q2, q3, q4, q5⟩ := hbd
                            exact ⟨f, s', ks', k', a', q1, q2, by rw [up2_off (by decide)]; exact q3, by rw [up2_off (by decide)]; exact q4, q5⟩)))
                        | exact ih true (L + 2 - sk t L (sk t L a2 + 1)) _ (by have := isS_l hb102; have := @sk_ge t L (sk t L a2 + 1); omega) (((hX.tr hX86).tr (hereP hhA97 hhB97)).up 26 _ (by decide)) (Or.inl ⟨rfl, sk t L a2 + 1, ac2, rfl, hPS2.at (fun k hk => by rw [up2_ne hk]; exact hhA97 k hk) (fun i a _ _ => by rw [up2_off a]; exact hhB97 i a) up2_at (by have := isS_l hb102; omega), (hr.trans hr2).then (pS_cm hb102), by have := @sk_ge t L (sk t L a2 + 1); omega⟩)
                        | exact ih false 0 _ (by omega) (((hX.tr hX86).tr (hereP hhA97 hhB97)).up 26 _ (by decide)) (Or.inr (Or.inr ⟨rfl, sk t L a2, ac2, hPS2.at (fun k hk => by rw [up2_ne hk]; exact hhA97 k hk) (fun i a _ _ => by rw [up2_off a]; exact hhB97 i a) up2_at (sk_le hPS2.2.2.1), by rw [sk_sk]; exact hr.trans hr2, by rw [sk_sk]; exact hb102, by rw [sk_sk]; omega⟩))
                    · rw [hr_c (fun h => (hPS2.1.2.2 _ h).1) (by decide)] at hb102
                      refine r_iconst C (dk oX10_takeClause 56 rfl) (v := nI 1) (by decide) ?_
                      refine r_topI (show nI 1 = b32 true from rfl) ?_
                      refine r_goto (tgt := 110) C (dk oX10_takeClause 57 rfl) (by decide) ?_
                      refine r_istore_n (lo' := [(3, _), (0, _), (1, _), (2, _)]) C (dk oX10_takeClause 59 rfl) rfl (by decide) rfl ?_
                      refine r_aload_n C 1 (dk oX10_takeClause 60 rfl) rfl ?_
                      refine r_dup C (dk oX10_takeClause 61 rfl) rfl ?_
                      refine r_getI C (dk oX10_takeClause 62 rfl) fl_X10_142 rfl (km hn rfl) ?_
                      first
                        | rw [hh97]
                        | skip
                      refine r_iload_n C 0 (dk oX10_takeClause 63 rfl) rfl ?_
                      refine r_isi C Z (dk oX10_takeClause 64 rfl) cl_X10_109 st_X10_one (c_X10_one _ J _) rfl rfl (Nat.le_of_ble_eq_true rfl) ⟨Nat.le_of_ble_eq_true rfl, Nat.le_of_ble_eq_true rfl⟩ ⟨Nat.zero_le _, Nat.zero_le _⟩ (fun r117 I117 J117 h117 => ?_)
                      obtain ⟨h117, e1_, e2_⟩ := h117
                      have e1_ := e1_.symm
                      have e2_ := e2_.symm
                      subst e1_
                      subst e2_
                      subst h117
                      refine r_iadd C (dk oX10_takeClause 65 rfl) ?_
                      first
                        | rw [show b32 true = nI 1 from rfl, nI_add]
                        | rw [show b32 false = nI 0 from rfl, nI_add, Nat.add_zero]
                        | skip
                      refine r_putI C (dk oX10_takeClause 66 rfl) fl_X10_142 ft_10_26 rfl (km hn rfl) ?_
                      refine r_goto (tgt := 72) C (dk oX10_takeClause 67 rfl) (by decide) ?_
                      refine V.sub [1, 2, 3, 0] rfl ?_
                      have hs1 : sk t L a1 ≤ L := sk_le hPS1.2.2.1
                      first
                        | exact ih false 0 _ (by omega) ((hX.tr hX86).up 26 _ (by decide)) (Or.inr (Or.inl (by
                            obtain ⟨f, s', ks', k', a', q1, q2, q3, q4, q5⟩ := hbd
                            exact ⟨f, s', ks', k', a', q1, q2, by rw [up2_off (by decide)]; exact q3, by rw [up2_off (by decide)]; exact q4, q5⟩)))
                        | exact ih true (L + 2 - sk t L (sk t L a2 + 1)) _ (by have := isS_l hb102; have := @sk_ge t L (sk t L a2 + 1); omega) (((hX.tr hX86).tr (hereP hhA97 hhB97)).up 26 _ (by decide)) (Or.inl ⟨rfl, sk t L a2 + 1, ac2, rfl, hPS2.at (fun k hk => by rw [up2_ne hk]; exact hhA97 k hk) (fun i a _ _ => by rw [up2_off a]; exact hhB97 i a) up2_at (by have := isS_l hb102; omega), (hr.trans hr2).then (pS_cm hb102), by have := @sk_ge t L (sk t L a2 + 1); omega⟩)
                        | exact ih false 0 _ (by omega) (((hX.tr hX86).tr (hereP hhA97 hhB97)).up 26 _ (by decide)) (Or.inr (Or.inr ⟨rfl, sk t L a2, ac2, hPS2.at (fun k hk => by rw [up2_ne hk]; exact hhA97 k hk) (fun i a _ _ => by rw [up2_off a]; exact hhB97 i a) up2_at (sk_le hPS2.2.2.1), by rw [sk_sk]; exact hr.trans hr2, by rw [sk_sk]; exact hb102, by rw [sk_sk]; omega⟩))
          refine V.sub [2, 3, 1, 0] rfl ?_
          have hwl : wE t L (sk t L a_) ≤ L := wE_le hsL
          have hX52 : mPX p_ I (up2 I52 117 36 (nI (ks ||| 2 ^ (kdOf t L (sk t L a_))))) := (hf1.P).up 36 _ (by decide)
          have hnx := wE_in (t := t) (L := L) hkw.1 hkw.2
          have hge := @wE_ge t L (sk t L a_ + 1)
          have hge2 := @sk_ge t L (wE t L (sk t L a_))
          refine L72 (L + 2 - sk t L (wE t L (sk t L a_)) + 1) true (L + 2 - sk t L (wE t L (sk t L a_))) _ (by omega) hX52 (Or.inl ⟨rfl, wE t L (sk t L a_), ac, rfl, ⟨hT.of (by rw [up2_off (by decide)]; exact hf1.2 25 (by decide) (by decide) (by decide)) (by rw [up2_ne (by decide)]; exact hf1.1 141 (by decide)), by rw [up2_off (by decide)]; exact h26a, hwl, by rw [up2_off (by decide)]; exact (hf1.2 29 (by decide) (by decide) (by decide)).trans h29, by rw [up2_off (by decide)]; exact (hf1.2 30 (by decide) (by decide) (by decide)).trans h30, up2_at, or_lt128 hks hkd, by rw [up2_off (by decide)]; exact (hf1.2 37 (by decide) (by decide) (by decide)).trans h37, fun f hf => by rw [up2_ne (by decide), hf1.1 125 (by decide)]; exact hac f hf, hac6⟩, rchP.one (pS_k hsl hb27 hb55), by omega⟩)

end MOD22
