section MOD20
variable {l : Launch} {n : Nat} {ad : Nat → Nat} {cA : Nat → ClassId} {D : va_G} {z : Zw}
theorem PR_1 {t : Nat → Nat} {L : Nat} (h : ¬ (cOwe t L = true ∨ cPay t L = true)) : PR t L 1 (sk t L 0) [] := by
  have e : cHd t L = (1, sk t L 0) := by unfold cHd; rw [if_neg h]
  exact ⟨by decide, by rw [e, if_neg (show ¬ (1 : Nat) = 0 by decide)]; exact ⟨rfl, rfl⟩⟩
theorem PR_2 {t : Nat → Nat} {L : Nat} (h : cOwe t L = true ∨ cPay t L = true) (h2 : ¬ nmF t L (cP1 t L) 1 999 = 0) : PR t L (nmF t L (cP1 t L) 1 999) (cP1 t L) [] := by
  have e : cHd t L = (nmF t L (cP1 t L) 1 999, cP1 t L) := by unfold cHd; rw [if_pos h, if_neg h2]
  refine ⟨Nat.lt_of_lt_of_le nmF_lt (by decide), ?_⟩
  rw [e]
  show if nmF t L (cP1 t L) 1 999 = 0 then _ else _
  rw [if_neg h2]
  exact ⟨rfl, rfl⟩
theorem PR_3 {t : Nat → Nat} {L : Nat} (h : cOwe t L = true ∨ cPay t L = true) (h2 : nmF t L (cP1 t L) 1 999 = 0) (h3 : ¬ isW t L (cP2 t L) (sWd 2) = true) : PR t L 1 (cP2 t L) [] := by
  have e : cHd t L = (1, cP2 t L) := by unfold cHd; rw [if_pos h, if_pos h2, if_neg h3]
  exact ⟨by decide, by rw [e, if_neg (show ¬ (1 : Nat) = 0 by decide)]; exact ⟨rfl, rfl⟩⟩
theorem PR_4 {t : Nat → Nat} {L f pl : Nat} {C : List Nat} (h : cOwe t L = true ∨ cPay t L = true) (h2 : nmF t L (cP1 t L) 1 999 = 0) (h3 : isW t L (cP2 t L) (sWd 2) = true) (hf : f < 4) (h0 : f = 0 → ∃ q, rch t L (0, sk t L (cP2 t L + 2), [], []) (2, q, [], C)) (h1 : f ≠ 0 → ∃ W C', rch t L (0, sk t L (cP2 t L + 2), [], []) (10 + f, pl, W, C')) : PR t L f pl C := by
  have e : cHd t L = (0, sk t L (cP2 t L + 2)) := by unfold cHd; rw [if_pos h, if_pos h2, if_pos h3]
  refine ⟨hf, ?_⟩
  rw [e, if_pos rfl]
  by_cases z : f = 0
  · rw [if_pos z]; exact h0 z
  · rw [if_neg z]; exact h1 z
theorem cPw {t : Nat → Nat} {L : Nat} (h : cOwe t L = true ∨ cPay t L = true) : wE t L (sk t L 0) = sk t L 0 + 3 := by
  rcases h with h | h
  · exact wd_end (w := sWd 0) h
  · exact wd_end (w := sWd 1) h
/-- a reading's memory: what the state needs of it -/
def rdM (I I' : MI) : Prop := (∀ k, k ≠ 117 → k ≠ 142 → k ≠ 143 → I' k = I k) ∧ ∀ i, i = 17 ∨ i = 25 → I' 117 i = I 117 i
theorem rdX.m {I I' : MI} (h : rdX I I') : rdM I I' := ⟨h.1, fun i a => h.2 i (by omega) (by omega) (by omega) (by omega) (by omega) (by omega) (by omega) (by omega)⟩
theorem rdM.tr {I I1 I2 : MI} (h1 : rdM I I1) (h2 : rdM I1 I2) : rdM I I2 := ⟨fun k a b c => (h2.1 k a b c).trans (h1.1 k a b c), fun i a => (h2.2 i a).trans (h1.2 i a)⟩
theorem MM.rc {I I' : MI} {τ : St} {f pl : Nat} (h : MM I τ) (hm : rdM I I') (h30 : I' 117 30 = if f = 0 then -1 else nI pl) : MM (up2 I' 117 25 (nI 0)) (rdS τ f pl) := by
  have hc : ∀ k, 117 < k → k < 135 → up2 I' 117 25 (nI 0) k = I k := fun k a b => by rw [up2_ne (by omega)]; exact hm.1 k (by omega) (by omega) (by omega)
  exact h.rd (h.1.r (fun k a b => hc k a (by omega))) (lo0.id (fun k a b => hc k a (by omega))) (by rw [up2_off (by decide)]; exact hm.2 17 (Or.inl rfl)) (by rw [hc 132 (by decide) (by decide)]) (hc 134 (by decide) (by decide)) up2_at (by rw [up2_off (by decide)]; exact h30) (by unfold MZs; rw [hc 124 (by decide) (by decide), hc 131 (by decide) (by decide)]; exact h.2.2.2.2.2)
theorem MM.cl {I I' : MI} {τ : St} {x : Int32} {C : List Nat} (h : MM I τ) (hnc : (sCl τ).1 < 6) (hx : coOK x) (hC : cdOK C) (hF : ∀ k, k < 118 ∨ 121 < k → I' k = I k) (h18 : I' 118 = fun j => if j = 0 then nI ((sCl τ).1 + 1) else I 118 j) (h19 : I' 119 = fun j => if j = (sCl τ).1 then x else I 119 j) (h21 : I' 121 = fun j => if j = (sCl τ).1 then nI C.length else I 121 j) (h20 : ∀ j, I' 120 j = if 120 * (sCl τ).1 ≤ j ∧ j < 120 * (sCl τ).1 + C.length then nI (enc (C.getD (j - 120 * (sCl τ).1) 0)) else I 120 j) : MM I' (stC τ (adC (sCl τ) x C)) := by
  have hlen := hC.1
  have h0 := h.1.1
  refine MM.mk (σ := (adC (sCl τ) x C, τ.1.2)) h ⟨⟨by show (sCl τ).1 + 1 ≤ 6; omega, by rw [h18]; rfl, fun c hc => ?_⟩, h.1.2.1.st (fun k a b => hF k (by omega)), h.1.2.2.1.st (fun k a b => hF k (by omega)), by rw [hF 133 (by decide)]; exact h.1.2.2.2.1, h.1.2.2.2.2.1, h.1.2.2.2.2.2⟩ (fun k a b j hj => ?_) (h.2.1.u (by rw [hF 117 (by decide)]) (by rw [hF 132 (by decide)]) rfl rfl) (hF 134 (by decide)) (by rw [hF 117 (by decide)]) (by rw [hF 117 (by decide)]) (hF 141 (by decide)) (by unfold MZs; rw [hF 124 (by decide), hF 131 (by decide)]; exact h.2.2.2.2.2)
  · have hc2 : c < (sCl τ).1 + 1 := hc
    show I' 119 (6 * 0 + c) = (if c = (sCl τ).1 then x else (sCl τ).2.1 c) ∧ coOK (if c = (sCl τ).1 then x else (sCl τ).2.1 c) ∧ I' 121 (6 * 0 + c) = nI (if c = (sCl τ).1 then C else (sCl τ).2.2 c).length ∧ (∀ k, k < (if c = (sCl τ).1 then C else (sCl τ).2.2 c).length → I' 120 (720 * 0 + (120 * c + k)) = nI (enc ((if c = (sCl τ).1 then C else (sCl τ).2.2 c).getD k 0))) ∧ cdOK (if c = (sCl τ).1 then C else (sCl τ).2.2 c)
    rw [z_add, h19, h21]
    show (if c = (sCl τ).1 then x else I 119 c) = _ ∧ _ ∧ (if c = (sCl τ).1 then nI C.length else I 121 c) = _ ∧ _
    by_cases e : c = (sCl τ).1
    · subst e
      simp only [if_pos]
      refine ⟨trivial, hx, trivial, fun k hk => ?_, hC⟩
      rw [z_add, h20, if_pos (by omega), show 120 * (sCl τ).1 + k - 120 * (sCl τ).1 = k by omega]
    · simp only [if_neg e]
      have q := h0.2.2 c (by show c < (sCl τ).1; omega)
      rw [z_add] at q
      refine ⟨q.1, q.2.1, q.2.2.1, fun k hk => ?_, q.2.2.2.2⟩
      have hl2 : ((sCl τ).2.2 c).length ≤ 120 := q.2.2.2.2.1
      rw [h20, if_neg (by omega)]
      exact q.2.2.2.1 k hk
  · rcases (by omega : k = 118 ∨ k = 119 ∨ k = 120 ∨ k = 121 ∨ (121 < k)) with e | e | e | e | e
    · subst e
      have hj : 1 ≤ j := hj
      rw [h18]
      exact if_neg (by omega)
    · subst e
      have hj : 6 ≤ j := hj
      rw [h19]
      exact if_neg (by omega)
    · subst e
      have hj : 720 ≤ j := hj
      rw [h20, if_neg (by omega)]
    · subst e
      have hj : 6 ≤ j := hj
      rw [h21]
      exact if_neg (by omega)
    · rw [hF k (by omega)]
theorem rdM.rf (I : MI) : rdM I I := ⟨fun _ _ _ _ => rfl, fun _ _ => rfl⟩
theorem rdM.up {I I1 : MI} (h : rdM I I1) (i : Nat) (v : Int32) (hi : i ≠ 17 ∧ i ≠ 25) : rdM I (up2 I1 117 i v) := ⟨fun k a b c => by rw [up2_ne a]; exact h.1 k a b c, fun q a => by rw [up2_off (by omega)]; exact h.2 q a⟩
/-- what is known where reading ends -/
def clE (τ : St) (I1 I' : MI) (f pl : Nat) (C : List Nat) : Prop := PR (sT τ) (sL τ) f pl C ∧ rdM I1 I' ∧ I' 117 29 = nI f ∧ I' 117 30 = (if f = 0 then -1 else nI pl) ∧ (f = 0 → mQ I' [] C)
set_option maxHeartbeats 1000000 in
set_option maxRecDepth 100000 in
theorem c_X10_claim (hn : 148 ≤ n) (I : MI) (J : MJ) (τ : St) (hMM : MM I τ) : Ci l n ad cA D z 5 yX10_claim cX10_claim 5 .int I J [.ref (ad 117)] (fun r I' J' => ∃ τ', q_claim τ r τ' ∧ MM I' τ' ∧ (∀ k, k < 117 → I' k = I k) ∧ J' = J) := by
  refine Ci.of (by decide) (Nat.le_of_ble_eq_true rfl) ?_
  intro p e s m args below meth c A C hin Z Q hret
  have hC0 := hMM.c0
  have hK0 := hMM.k0
  have hP0 := hMM.pap.zz
  have hok := hMM.ok
  have hnc : (sCl τ).1 ≤ 6 := hC0.1
  have hnp : (sPp τ).1 ≤ 10 := hP0.1
  have hnk : (sPk τ).1 ≤ 16 := hK0.1
  have hMT := hMM.2.2.2.1
  have hL := hMT.1
  have hop := @opN_lt (sPhi τ)
  have hB : brQ (sPk τ) < 65536 := brN_16 hnk
  refine r_aload_n C 0 (dk oX10_claim_0 0 rfl) rfl ?_
  refine r_ivv C Z (dk oX10_claim_0 1 rfl) cl_X10_218 ci_X10_begin rfl (km hn rfl) (c_X10_begin hn I J) rfl rfl (Nat.le_of_ble_eq_true rfl) ⟨Nat.le_of_ble_eq_true rfl, Nat.le_of_ble_eq_true rfl⟩ ⟨Nat.zero_le _, Nat.zero_le _⟩ (fun I1 J1 h1 => ?_)
  obtain ⟨g1, g2, g3, g4, g5, g6, e2_⟩ := h1
  have e2_ := e2_.symm
  subst e2_
  have hbg : bgP I I1 := ⟨g1, g2, g3, g4, g5, g6⟩
  obtain ⟨hMM1, hdu1, hbe1⟩ := hMM.bg hbg
  have hF1 : ∀ k, k < 117 → I1 k = I k := fun k hk => g1 k (by omega) (by omega)
  refine r_aload_n C 0 (dk oX10_claim_0 2 rfl) rfl ?_
  refine r_getI C (dk oX10_claim_0 3 rfl) fl_X10_136 rfl (km hn rfl) ?_
  rw [show I1 117 25 = nI (sL τ) from hMM1.2.2.2.1.2.1]
  refine r_bipush C (dk oX10_claim_0 4 rfl) (v := nI 120) (by decide) ?_
  refine r_icmp_le (tgt := 16) C (dk oX10_claim_0 5 rfl) (by decide) (fun hb10 => ?_) (fun hb10 => ?_)
  · simp (disch := omega) only [nI_leI, nI_ltI, nI_eq, nI_eq0] at hb10
    refine r_aload_n C 0 (dk oX10_claim_0 8 rfl) rfl ?_
    refine r_getR C (dk oX10_claim_0 9 rfl) fl_X10_7 rfl (km hn rfl) ?_
    refine r_iconst C (dk oX10_claim_0 10 rfl) (v := nI 0) (by decide) ?_
    refine r_iald C 0 (dk oX10_claim_0 11 rfl) rfl (km hn rfl) rfl (by decide) (by decide) ?_
    rw [hMM1.c0.2.1]
    refine r_bipush C (dk oX10_claim_0 12 rfl) (v := nI 6) (by decide) ?_
    refine r_icmp_ne (tgt := 30) C (dk oX10_claim_0 13 rfl) (by decide) (fun hb24 => ?_) (fun hb24 => ?_)
    · simp (disch := omega) only [nI_leI, nI_ltI, nI_eq, nI_eq0] at hb24
      refine r_aload_n C 0 (dk oX10_claim_0 16 rfl) rfl ?_
      refine r_ivv C Z (dk oX10_claim_0 17 rfl) cl_X10_222 ci_X10_beginReading rfl (km hn rfl) (c_X10_beginReading hn I1 J) rfl rfl (Nat.le_of_ble_eq_true rfl) ⟨Nat.le_of_ble_eq_true rfl, Nat.le_of_ble_eq_true rfl⟩ ⟨Nat.zero_le _, Nat.zero_le _⟩ (fun I31 J31 h31 => ?_)
      obtain ⟨e1_, e2_⟩ := h31
      have e2_ := e2_.symm
      subst e2_
      have hB26 : I31 117 26 = nI 0 := by rw [e1_, up2_off (by decide), up2_off (by decide), up2_at]
      have hB29 : I31 117 29 = nI 0 := by rw [e1_, up2_off (by decide), up2_at]
      have hB30 : I31 117 30 = -1 := by rw [e1_, up2_at]
      have hBm : rdM I1 I31 := by rw [e1_]; exact (((rdM.rf I1).up 26 _ (by decide)).up 29 _ (by decide)).up 30 _ (by decide)
      have hTB : MTx I31 (sT τ) (sL τ) := hMM1.2.2.2.1.of (hBm.2 25 (Or.inr rfl)) (hBm.1 141 (by decide) (by decide) (by decide))
      have hL12 : sL τ ≤ 120 := by omega
      refine r_aload_n C 0 (dk oX10_claim_0 18 rfl) rfl ?_
      refine r_ivv C Z (dk oX10_claim_0 19 rfl) cl_X10_162 ci_X10_takeWord rfl (km hn rfl) (c_X10_takeWord hn I31 J (sT τ) (sL τ) hTB 0 hB26 (Nat.zero_le _)) rfl rfl (Nat.le_of_ble_eq_true rfl) ⟨Nat.le_of_ble_eq_true rfl, Nat.le_of_ble_eq_true rfl⟩ ⟨Nat.zero_le _, Nat.zero_le _⟩ (fun I35 J35 h35 => ?_)
      obtain ⟨h26a, h27a, h28a, hfa, e2_⟩ := h35
      have e2_ := e2_.symm
      subst e2_
      have hs0L : (sk (sT τ) (sL τ) 0) ≤ sL τ := sk_le (Nat.zero_le _)
      refine r_aload_n C 0 (dk oX10_claim_0 20 rfl) rfl ?_
      refine r_iconst C (dk oX10_claim_0 21 rfl) (v := nI 3) (by decide) ?_
      refine r_bipush C (dk oX10_claim_0 22 rfl) (v := nI 111) (by decide) ?_
      refine r_bipush C (dk oX10_claim_0 23 rfl) (v := nI 119) (by decide) ?_
      refine r_bipush C (dk oX10_claim_0 24 rfl) (v := nI 101) (by decide) ?_
      refine r_iconst C (dk oX10_claim_0 25 rfl) (v := nI 0) (by decide) ?_
      refine r_iconst C (dk oX10_claim_0 26 rfl) (v := nI 0) (by decide) ?_
      refine r_ivi C Z (dk oX10_claim_0 27 rfl) cl_X10_165 ci_X10_isWord rfl (km hn rfl) (c_X10_isWord hn I35 J (sT τ) (sL τ) (hTB.tk hfa) (sk (sT τ) (sL τ) 0) h27a hs0L h28a 3 111 119 101 0 0 (by decide) (by decide) (sWd 0) (by decide)) rfl rfl (Nat.le_of_ble_eq_true rfl) ⟨Nat.le_of_ble_eq_true rfl, Nat.le_of_ble_eq_true rfl⟩ ⟨Nat.zero_le _, Nat.zero_le _⟩ (fun r48 I48 J48 h48 => ?_)
      obtain ⟨h48, e1_, e2_⟩ := h48
      have e1_ := e1_.symm
      have e2_ := e2_.symm
      subst e1_
      subst e2_
      subst h48
      refine r_topI (show b32 (isW (sT τ) (sL τ) (sk (sT τ) (sL τ) 0) (sWd 0)) = b32 (cOwe (sT τ) (sL τ)) from rfl) ?_
      refine r_istore_n (lo' := [(1, _), (0, _)]) C (dk oX10_claim_0 28 rfl) rfl (by decide) rfl ?_
      refine r_aload_n C 1 (dk oX10_claim_0 29 rfl) rfl ?_
      refine r_iload_n C 0 (dk oX10_claim_0 30 rfl) rfl ?_
      refine r_if_ne (tgt := 73) C (dk oX10_claim_0 31 rfl) (by decide) (fun hb54 => ?_) (fun hb54 => ?_)
      · rw [b32_n] at hb54
        refine r_iconst C (dk oX10_claim_0 41 rfl) (v := nI 1) (by decide) ?_
        refine r_topI (show nI 1 = b32 (decide (cOwe (sT τ) (sL τ) = true ∨ cPay (sT τ) (sL τ) = true)) from by
          first
            | exact b32_dt (Or.inl hb54)
            | exact b32_dt (Or.inr hb70)) ?_
        refine r_goto (tgt := 78) C (dk oX10_claim_0 42 rfl) (by decide) ?_
        refine r_iconst C (dk oX10_claim_0 44 rfl) (v := nI 1) (by decide) ?_
        refine r_aload_n C 1 (dk oX10_claim_0 45 rfl) rfl ?_
        refine r_getI C (dk oX10_claim_0 46 rfl) fl_X10_152 rfl (km hn rfl) ?_
        rw [h27a]
        refine r_ivi C Z (dk oX10_claim_0 47 rfl) cl_X10_173 ci_X10_want rfl (km hn rfl) (c_X10_want hn I35 J (decide ((cOwe (sT τ) (sL τ) = true ∨ cPay (sT τ) (sL τ) = true))) (nI 1) (nI (sk (sT τ) (sL τ) 0)) (nI 0) ((hfa.2 29 (by decide) (by decide) (by decide)).trans hB29)) rfl rfl (Nat.le_of_ble_eq_true rfl) ⟨Nat.le_of_ble_eq_true rfl, Nat.le_of_ble_eq_true rfl⟩ ⟨Nat.zero_le _, Nat.zero_le _⟩ (fun r83 I83 J83 h83 => ?_)
        obtain ⟨e1_, hW83, e2_⟩ := h83
        have e1_ := e1_.symm
        have e2_ := e2_.symm
        subst e1_
        subst e2_
        refine r_if_eq (tgt := 100) C (dk oX10_claim_0 48 rfl) (by decide) (fun hb86 => ?_) (fun hb86 => ?_)
        · rw [b32_0, decide_eq_false_iff_not] at hb86
          have hb86 := want_0 hb86
          have hI83 := want_t hW83 hb86
          subst hI83
          refine r_iconst C (dk oX10_claim_0 54 rfl) (v := nI 0) (by decide) ?_
          refine r_istore_n (lo' := [(2, _), (1, _), (0, _)]) C (dk oX10_claim_0 55 rfl) rfl (by decide) rfl ?_
          refine r_aload_n C 2 (dk oX10_claim_0 56 rfl) rfl ?_
          refine r_getI C (dk oX10_claim_0 57 rfl) fl_X10_145 rfl (km hn rfl) ?_
          first
            | rw [hn1]
            | rw [up2_off (by decide), up2_at]
          refine r_if_ne (tgt := 141) C (dk oX10_claim_0 58 rfl) (by decide) (fun hb106 => ?_) (fun hb106 => ?_)
          · first
              | (fail)
              | obtain ⟨Ie, hIe⟩ : ∃ X, X = up2 (up2 I35 117 29 (nI 1)) 117 30 (nI (sk (sT τ) (sL τ) 0)) := ⟨_, rfl⟩
                have hE : ∃ fn pl Cc, clE τ I1 (up2 (up2 I35 117 29 (nI 1)) 117 30 (nI (sk (sT τ) (sL τ) 0))) fn pl Cc ∧ fn ≠ 0 := ⟨1, (sk (sT τ) (sL τ) 0), [], ⟨PR_1 hb86, ((hBm.tr hfa.X.m).up 29 _ (by decide)).up 30 _ (by decide), by rw [up2_off (by decide), up2_at], by rw [up2_at, if_neg (by decide)], fun e => absurd e (by decide)⟩, by decide⟩
                rw [← hIe] at hE
                rw [← hIe]
                clear hIe
                obtain ⟨fn, pl, Cc, hE1, hne0⟩ := hE
                obtain ⟨hPR, hmE, h29e, h30e, hqE⟩ := hE1
                have hfn := hPR.1
                have hMr := hMM1.rc (f := fn) (pl := pl) hmE h30e
                refine r_aload_n C 2 (dk oX10_claim_1 17 rfl) rfl ?_
                refine r_iconst C (dk oX10_claim_1 18 rfl) (v := nI 0) (by decide) ?_
                refine r_putI C (dk oX10_claim_1 19 rfl) fl_X10_136 ft_10_25 rfl (km hn rfl) ?_
                refine r_aload_n C 2 (dk oX10_claim_1 20 rfl) rfl ?_
                refine r_getI C (dk oX10_claim_1 21 rfl) fl_X10_145 rfl (km hn rfl) ?_
                rw [up2_off (by decide), h29e]
                refine r_if_le (tgt := 161) C (dk oX10_claim_1 22 rfl) (by decide) (fun hb150 => ?_) (fun hb150 => ?_)
                · first
                    | (exfalso; rw [show (0 : Int32) = nI 0 from rfl, nI_leI (by omega) (by omega)] at hb150; omega)
                    | rw [show (0 : Int32) = nI 0 from rfl, nI_leI (by omega) (by omega)] at hb150
                      have hf0 : fn = 0 := by omega
                      subst hf0
                      have hq0 := hqE rfl
                      have hPRok := hPR.ok hL12
                      have hlen : Cc.length ≤ 120 := hPRok.1.1
                      refine r_aload_n C 2 (dk oX10_claim_1 28 rfl) rfl ?_
                      refine r_getR C (dk oX10_claim_1 29 rfl) fl_X10_7 rfl (km hn rfl) ?_
                      refine r_iconst C (dk oX10_claim_1 30 rfl) (v := nI 0) (by decide) ?_
                      refine r_iald C 0 (dk oX10_claim_1 31 rfl) rfl (km hn rfl) rfl (by decide) (by decide) ?_
                      rw [show up2 Ie 117 25 (nI 0) 118 0 = nI (sCl τ).1 from hMr.c0.2.1]
                      refine r_istore_n (lo' := [(3, _), (2, _), (1, _), (0, _)]) C (dk oX10_claim_1 32 rfl) rfl (by decide) rfl ?_
                      refine r_aload_n C 3 (dk oX10_claim_1 33 rfl) rfl ?_
                      refine r_getR C (dk oX10_claim_1 34 rfl) fl_X10_13 rfl (km hn rfl) ?_
                      refine r_iload_n C 0 (dk oX10_claim_1 35 rfl) rfl ?_
                      refine r_iload_n C 2 (dk oX10_claim_1 36 rfl) rfl ?_
                      refine r_if_eq (tgt := 182) C (dk oX10_claim_1 37 rfl) (by decide) (fun hb174 => ?_) (fun hb174 => ?_)
                      · rw [b32_0] at hb174
                        refine r_iload_n C 1 (dk oX10_claim_1 41 rfl) rfl ?_
                        refine r_topI (show nI (nmV (sT τ) (sL τ) (cP1 (sT τ) (sL τ))) = cCo (sT τ) (sL τ) from by unfold cCo; rw [hb174, if_neg (by decide)]) ?_
                        refine r_iast C _ (dk oX10_claim_1 42 rfl) rfl (km hn rfl) rfl (by omega) (by decide) ?_
                        refine r_aload_n C 3 (dk oX10_claim_1 43 rfl) rfl ?_
                        refine r_getR C (dk oX10_claim_1 44 rfl) fl_X10_19 rfl (km hn rfl) ?_
                        refine r_iload_n C 0 (dk oX10_claim_1 45 rfl) rfl ?_
                        refine r_aload_n C 3 (dk oX10_claim_1 46 rfl) rfl ?_
                        refine r_getI C (dk oX10_claim_1 47 rfl) fl_X10_178 rfl (km hn rfl) ?_
                        rw [up2_ne (by decide), up2_off (by decide), hq0.2.2.1]
                        refine r_iast C _ (dk oX10_claim_1 48 rfl) rfl (km hn rfl) rfl (by omega) (by decide) ?_
                        refine r_iconst C (dk oX10_claim_1 49 rfl) (v := nI 0) (by decide) ?_
                        refine r_istore (lo' := [(4, _), (3, _), (2, _), (1, _), (0, _)]) C (dk oX10_claim_1 50 rfl) (by decide) rfl ?_
                        have L197 : ∀ (d_ : Nat) (k_ : Nat) (I3 : MI), Cc.length - k_ < d_ → k_ ≤ Cc.length → (∀ q, q ≠ 120 → I3 q = (up2 (up2 (up2 Ie 117 25 (nI 0)) 119 (sCl τ).1 (cCo (sT τ) (sL τ))) 121 (sCl τ).1 (nI Cc.length)) q) → (∀ j, I3 120 j = if 120 * (sCl τ).1 ≤ j ∧ j < 120 * (sCl τ).1 + k_ then nI (enc (Cc.getD (j - 120 * (sCl τ).1) 0)) else (up2 (up2 (up2 Ie 117 25 (nI 0)) 119 (sCl τ).1 (cCo (sT τ) (sL τ))) 121 (sCl τ).1 (nI Cc.length)) 120 j) → V p l e (rmL 5) s m args below meth c Q D A 5 0 0 n ad (mE cA ad I3 J) 197 [(0, .ref (ad 117)), (3, .int (nI (sCl τ).1)), (4, .int (nI k_))] [] := by
                          intro d_
                          induction d_ with
                          | zero => intros; exact absurd (by assumption) (Nat.not_lt_zero _)
                          | succ d_ ih => 
                            intro k_ I3 hd_ hk hFc hcp
                            refine r_iload C 2 (dk oX10_claim_1 51 rfl) rfl ?_
                            refine r_aload_n C 0 (dk oX10_claim_1 52 rfl) rfl ?_
                            refine r_getI C (dk oX10_claim_1 53 rfl) fl_X10_178 rfl (km hn rfl) ?_
                            rw [hFc 117 (by decide), up2_ne (by decide), up2_ne (by decide), up2_off (by decide), hq0.2.2.1]
                            refine r_icmp_ge (tgt := 231) C (dk oX10_claim_1 54 rfl) (by decide) (fun hb203 => ?_) (fun hb203 => ?_)
                            · simp (disch := omega) only [nI_leI, nI_ltI, nI_eq, nI_eq0] at hb203
                              refine r_aload_n C 0 (dk oX10_claim_2 9 rfl) rfl ?_
                              refine r_getR C (dk oX10_claim_2 10 rfl) fl_X10_7 rfl (km hn rfl) ?_
                              refine r_iconst C (dk oX10_claim_2 11 rfl) (v := nI 0) (by decide) ?_
                              refine r_dup2 C (dk oX10_claim_2 12 rfl) rfl rfl ?_
                              refine r_iald C 0 (dk oX10_claim_2 13 rfl) rfl (km hn rfl) rfl (by decide) (by decide) ?_
                              rw [hFc 118 (by decide), up2_ne (by decide), up2_ne (by decide), show up2 Ie 117 25 (nI 0) 118 0 = nI (sCl τ).1 from hMr.c0.2.1]
                              refine r_iconst C (dk oX10_claim_2 14 rfl) (v := nI 1) (by decide) ?_
                              refine r_iadd C (dk oX10_claim_2 15 rfl) ?_
                              rw [nI_add]
                              refine r_iast C 0 (dk oX10_claim_2 16 rfl) rfl (km hn rfl) rfl (by decide) (by decide) ?_
                              refine r_iload_n C 1 (dk oX10_claim_2 17 rfl) rfl ?_
                              refine hret (dk oX10_claim_2 18 rfl) rfl ?_
                              refine ⟨stC (rdS τ 0 pl) (adC (sCl τ) (cCo (sT τ) (sL τ)) Cc), (by unfold q_claim; rw [if_neg (by omega), if_neg (by omega)]; exact ⟨0, pl, Cc, hPR, by rw [if_pos rfl]; exact ⟨rfl, rfl⟩⟩), MM.cl (τ := rdS τ 0 pl) (x := cCo (sT τ) (sL τ)) (C := Cc) hMr (by show (sCl τ).1 < 6; omega) hPRok.2 hPRok.1 (fun k hk => ?_) ?_ ?_ ?_ (fun j => ?_), fun k hk => ?_, rfl⟩
                              · rw [up2_ne (by omega), hFc k (by omega), up2_ne (by omega), up2_ne (by omega)]
                              · funext j
                                rw [up2_eq]
                                show (if j = 0 then _ else I3 118 j) = _
                                rw [hFc 118 (by decide), up2_ne (by decide), up2_ne (by decide)]
                                rfl
                              · rw [up2_ne (by decide), hFc 119 (by decide), up2_ne (by decide), up2_eq]
                                rfl
                              · rw [up2_ne (by decide), hFc 121 (by decide), up2_eq]
                                funext j
                                show (if j = (sCl τ).1 then _ else _) = _
                                rw [up2_ne (by decide)]
                                rfl
                              · rw [up2_ne (by decide), hcp j, show k_ = Cc.length by omega, up2_ne (by decide), up2_ne (by decide)]
                                rfl
                              · rw [up2_ne (by omega), hFc k (by omega), up2_ne (by omega), up2_ne (by omega), up2_ne (by omega), hmE.1 k (by omega) (by omega) (by omega)]
                                exact hF1 k hk
                            · simp (disch := omega) only [nI_leI, nI_ltI, nI_eq, nI_eq0] at hb203
                              have hb203 : k_ < Cc.length := by omega
                              refine r_aload_n C 0 (dk oX10_claim_1 55 rfl) rfl ?_
                              refine r_getR C (dk oX10_claim_1 56 rfl) fl_X10_16 rfl (km hn rfl) ?_
                              refine r_bipush C (dk oX10_claim_1 57 rfl) (v := nI 120) (by decide) ?_
                              refine r_iload_n C 1 (dk oX10_claim_1 58 rfl) rfl ?_
                              refine r_imul C (dk oX10_claim_1 59 rfl) ?_
                              rw [pk_mul]
                              refine r_iload C 2 (dk oX10_claim_2 0 rfl) rfl ?_
                              refine r_iadd C (dk oX10_claim_2 1 rfl) ?_
                              rw [nI_add]
                              refine r_aload_n C 0 (dk oX10_claim_2 2 rfl) rfl ?_
                              refine r_getR C (dk oX10_claim_2 3 rfl) fl_X10_90 rfl (km hn rfl) ?_
                              refine r_iload C 2 (dk oX10_claim_2 4 rfl) rfl ?_
                              refine r_iald C _ (dk oX10_claim_2 5 rfl) rfl (km hn rfl) rfl (by omega) (by decide) ?_
                              rw [hFc 143 (by decide), up2_ne (by decide), up2_ne (by decide), up2_ne (by decide), hq0.2.2.2 k_ hb203]
                              refine r_iast C _ (dk oX10_claim_2 6 rfl) rfl (km hn rfl) rfl (by omega) (by decide) ?_
                              refine r_iinc (lo' := [(4, _), (0, _), (3, _)]) C 2 (dk oX10_claim_2 7 rfl) rfl (by first | exact nI_inc _ | rfl) (by decide) rfl ?_
                              refine r_goto (tgt := 197) C (dk oX10_claim_2 8 rfl) (by decide) ?_
                              refine V.sub [1, 2, 0] rfl ?_
                              refine ih (k_ + 1) _ (by omega) (by omega) (fun q hq => by rw [up2_ne hq]; exact hFc q hq) (fun j => ?_)
                              by_cases e : j = 120 * (sCl τ).1 + k_
                              · rw [e, up2_at, if_pos (by omega), show 120 * (sCl τ).1 + k_ - 120 * (sCl τ).1 = k_ by omega]
                              · rw [up2_off e, hcp j]
                                by_cases e2 : 120 * (sCl τ).1 ≤ j ∧ j < 120 * (sCl τ).1 + k_
                                · rw [if_pos e2, if_pos (by omega)]
                                · rw [if_neg e2, if_neg (by omega)]
                        refine V.sub [4, 1, 0] rfl ?_
                        exact L197 (Cc.length + 1) 0 _ (by omega) (Nat.zero_le _) (fun _ _ => rfl) (fun j => (if_neg (by omega)).symm)
                      · rw [b32_n] at hb174
                        refine r_iload_n C 1 (dk oX10_claim_1 38 rfl) rfl ?_
                        refine r_ineg C (dk oX10_claim_1 39 rfl) ?_
                        refine r_topI (show -(nI (nmV (sT τ) (sL τ) (cP1 (sT τ) (sL τ)))) = cCo (sT τ) (sL τ) from by unfold cCo; rw [hb174, if_pos rfl]) ?_
                        refine r_goto (tgt := 183) C (dk oX10_claim_1 40 rfl) (by decide) ?_
                        refine r_iast C _ (dk oX10_claim_1 42 rfl) rfl (km hn rfl) rfl (by omega) (by decide) ?_
                        refine r_aload_n C 3 (dk oX10_claim_1 43 rfl) rfl ?_
                        refine r_getR C (dk oX10_claim_1 44 rfl) fl_X10_19 rfl (km hn rfl) ?_
                        refine r_iload_n C 0 (dk oX10_claim_1 45 rfl) rfl ?_
                        refine r_aload_n C 3 (dk oX10_claim_1 46 rfl) rfl ?_
                        refine r_getI C (dk oX10_claim_1 47 rfl) fl_X10_178 rfl (km hn rfl) ?_
                        rw [up2_ne (by decide), up2_off (by decide), hq0.2.2.1]
                        refine r_iast C _ (dk oX10_claim_1 48 rfl) rfl (km hn rfl) rfl (by omega) (by decide) ?_
                        refine r_iconst C (dk oX10_claim_1 49 rfl) (v := nI 0) (by decide) ?_
                        refine r_istore (lo' := [(4, _), (3, _), (2, _), (1, _), (0, _)]) C (dk oX10_claim_1 50 rfl) (by decide) rfl ?_
                        have L197 : ∀ (d_ : Nat) (k_ : Nat) (I3 : MI), Cc.length - k_ < d_ → k_ ≤ Cc.length → (∀ q, q ≠ 120 → I3 q = (up2 (up2 (up2 Ie 117 25 (nI 0)) 119 (sCl τ).1 (cCo (sT τ) (sL τ))) 121 (sCl τ).1 (nI Cc.length)) q) → (∀ j, I3 120 j = if 120 * (sCl τ).1 ≤ j ∧ j < 120 * (sCl τ).1 + k_ then nI (enc (Cc.getD (j - 120 * (sCl τ).1) 0)) else (up2 (up2 (up2 Ie 117 25 (nI 0)) 119 (sCl τ).1 (cCo (sT τ) (sL τ))) 121 (sCl τ).1 (nI Cc.length)) 120 j) → V p l e (rmL 5) s m args below meth c Q D A 5 0 0 n ad (mE cA ad I3 J) 197 [(0, .ref (ad 117)), (3, .int (nI (sCl τ).1)), (4, .int (nI k_))] [] := by
                          intro d_
                          induction d_ with
                          | zero => intros; exact absurd (by assumption) (Nat.not_lt_zero _)
                          | succ d_ ih => 
                            intro k_ I3 hd_ hk hFc hcp
                            refine r_iload C 2 (dk oX10_claim_1 51 rfl) rfl ?_
                            refine r_aload_n C 0 (dk oX10_claim_1 52 rfl) rfl ?_
                            refine r_getI C (dk oX10_claim_1 53 rfl) fl_X10_178 rfl (km hn rfl) ?_
                            rw [hFc 117 (by decide), up2_ne (by decide), up2_ne (by decide), up2_off (by decide), hq0.2.2.1]
                            refine r_icmp_ge (tgt := 231) C (dk oX10_claim_1 54 rfl) (by decide) (fun hb203 => ?_) (fun hb203 => ?_)
                            · simp (disch := omega) only [nI_leI, nI_ltI, nI_eq, nI_eq0] at hb203
                              refine r_aload_n C 0 (dk oX10_claim_2 9 rfl) rfl ?_
                              refine r_getR C (dk oX10_claim_2 10 rfl) fl_X10_7 rfl (km hn rfl) ?_
                              refine r_iconst C (dk oX10_claim_2 11 rfl) (v := nI 0) (by decide) ?_
                              refine r_dup2 C (dk oX10_claim_2 12 rfl) rfl rfl ?_
                              refine r_iald C 0 (dk oX10_claim_2 13 rfl) rfl (km hn rfl) rfl (by decide) (by decide) ?_
                              rw [hFc 118 (by decide), up2_ne (by decide), up2_ne (by decide), show up2 Ie 117 25 (nI 0) 118 0 = nI (sCl τ).1 from hMr.c0.2.1]
                              refine r_iconst C (dk oX10_claim_2 14 rfl) (v := nI 1) (by decide) ?_
                              refine r_iadd C (dk oX10_claim_2 15 rfl) ?_
                              rw [nI_add]
                              refine r_iast C 0 (dk oX10_claim_2 16 rfl) rfl (km hn rfl) rfl (by decide) (by decide) ?_
                              refine r_iload_n C 1 (dk oX10_claim_2 17 rfl) rfl ?_
                              refine hret (dk oX10_claim_2 18 rfl) rfl ?_
                              refine ⟨stC (rdS τ 0 pl) (adC (sCl τ) (cCo (sT τ) (sL τ)) Cc), (by unfold q_claim; rw [if_neg (by omega), if_neg (by omega)]; exact ⟨0, pl, Cc, hPR, by rw [if_pos rfl]; exact ⟨rfl, rfl⟩⟩), MM.cl (τ := rdS τ 0 pl) (x := cCo (sT τ) (sL τ)) (C := Cc) hMr (by show (sCl τ).1 < 6; omega) hPRok.2 hPRok.1 (fun k hk => ?_) ?_ ?_ ?_ (fun j => ?_), fun k hk => ?_, rfl⟩
                              · rw [up2_ne (by omega), hFc k (by omega), up2_ne (by omega), up2_ne (by omega)]
                              · funext j
                                rw [up2_eq]
                                show (if j = 0 then _ else I3 118 j) = _
                                rw [hFc 118 (by decide), up2_ne (by decide), up2_ne (by decide)]
                                rfl
                              · rw [up2_ne (by decide), hFc 119 (by decide), up2_ne (by decide), up2_eq]
                                rfl
                              · rw [up2_ne (by decide), hFc 121 (by decide), up2_eq]
                                funext j
                                show (if j = (sCl τ).1 then _ else _) = _
                                rw [up2_ne (by decide)]
                                rfl
                              · rw [up2_ne (by decide), hcp j, show k_ = Cc.length by omega, up2_ne (by decide), up2_ne (by decide)]
                                rfl
                              · rw [up2_ne (by omega), hFc k (by omega), up2_ne (by omega), up2_ne (by omega), up2_ne (by omega), hmE.1 k (by omega) (by omega) (by omega)]
                                exact hF1 k hk
                            · simp (disch := omega) only [nI_leI, nI_ltI, nI_eq, nI_eq0] at hb203
                              have hb203 : k_ < Cc.length := by omega
                              refine r_aload_n C 0 (dk oX10_claim_1 55 rfl) rfl ?_
                              refine r_getR C (dk oX10_claim_1 56 rfl) fl_X10_16 rfl (km hn rfl) ?_
                              refine r_bipush C (dk oX10_claim_1 57 rfl) (v := nI 120) (by decide) ?_
                              refine r_iload_n C 1 (dk oX10_claim_1 58 rfl) rfl ?_
                              refine r_imul C (dk oX10_claim_1 59 rfl) ?_
                              rw [pk_mul]
                              refine r_iload C 2 (dk oX10_claim_2 0 rfl) rfl ?_
                              refine r_iadd C (dk oX10_claim_2 1 rfl) ?_
                              rw [nI_add]
                              refine r_aload_n C 0 (dk oX10_claim_2 2 rfl) rfl ?_
                              refine r_getR C (dk oX10_claim_2 3 rfl) fl_X10_90 rfl (km hn rfl) ?_
                              refine r_iload C 2 (dk oX10_claim_2 4 rfl) rfl ?_
                              refine r_iald C _ (dk oX10_claim_2 5 rfl) rfl (km hn rfl) rfl (by omega) (by decide) ?_
                              rw [hFc 143 (by decide), up2_ne (by decide), up2_ne (by decide), up2_ne (by decide), hq0.2.2.2 k_ hb203]
                              refine r_iast C _ (dk oX10_claim_2 6 rfl) rfl (km hn rfl) rfl (by omega) (by decide) ?_
                              refine r_iinc (lo' := [(4, _), (0, _), (3, _)]) C 2 (dk oX10_claim_2 7 rfl) rfl (by first | exact nI_inc _ | rfl) (by decide) rfl ?_
                              refine r_goto (tgt := 197) C (dk oX10_claim_2 8 rfl) (by decide) ?_
                              refine V.sub [1, 2, 0] rfl ?_
                              refine ih (k_ + 1) _ (by omega) (by omega) (fun q hq => by rw [up2_ne hq]; exact hFc q hq) (fun j => ?_)
                              by_cases e : j = 120 * (sCl τ).1 + k_
                              · rw [e, up2_at, if_pos (by omega), show 120 * (sCl τ).1 + k_ - 120 * (sCl τ).1 = k_ by omega]
                              · rw [up2_off e, hcp j]
                                by_cases e2 : 120 * (sCl τ).1 ≤ j ∧ j < 120 * (sCl τ).1 + k_
                                · rw [if_pos e2, if_pos (by omega)]
                                · rw [if_neg e2, if_neg (by omega)]
                        refine V.sub [4, 1, 0] rfl ?_
                        exact L197 (Cc.length + 1) 0 _ (by omega) (Nat.zero_le _) (fun _ _ => rfl) (fun j => (if_neg (by omega)).symm)
                · rw [show (0 : Int32) = nI 0 from rfl, nI_leI (by omega) (by omega)] at hb150
                  have hf0 : ¬ fn = 0 := by omega
                  refine r_bipush C (dk oX10_claim_1 23 rfl) (v := -10) (by decide) ?_
                  refine r_aload_n C 2 (dk oX10_claim_1 24 rfl) rfl ?_
                  refine r_getI C (dk oX10_claim_1 25 rfl) fl_X10_145 rfl (km hn rfl) ?_
                  rw [up2_off (by decide), h29e]
                  refine r_isub C (dk oX10_claim_1 26 rfl) ?_
                  refine hret (dk oX10_claim_1 27 rfl) rfl ?_
                  exact ⟨rdS τ fn pl, (by unfold q_claim; rw [if_neg (by omega), if_neg (by omega)]; exact ⟨fn, pl, Cc, hPR, by rw [if_neg hf0]; exact ⟨rfl, rfl⟩⟩), hMr, fun k hk => by rw [up2_ne (by omega), hmE.1 k (by omega) (by omega) (by omega)]; exact hF1 k hk, rfl⟩
          · first
              | (exact absurd hb106 (by decide))
              | have hz106 : (nmF (sT τ) (sL τ) (cP1 (sT τ) (sL τ)) 1 999) = 0 := by
                  have := @nmF_lt (sT τ) (sL τ) (cP1 (sT τ) (sL τ)) 1 999
                  rw [nI_eq0 (by omega)] at hb106
                  exact hb106
                obtain ⟨hrv, h26v⟩ := hn4 hz106
                have hrv := hrv.symm
                subst hrv
                refine r_aload_n C 2 (dk oX10_claim_0 59 rfl) rfl ?_
                refine r_ivv C Z (dk oX10_claim_1 0 rfl) cl_X10_162 ci_X10_takeWord rfl (km hn rfl) (c_X10_takeWord hn I94 J (sT τ) (sL τ) hT94 (nE (sT τ) (sL τ) (cP1 (sT τ) (sL τ))) h26v (nE_le hP1L)) rfl rfl (Nat.le_of_ble_eq_true rfl) ⟨Nat.le_of_ble_eq_true rfl, Nat.le_of_ble_eq_true rfl⟩ ⟨Nat.zero_le _, Nat.zero_le _⟩ (fun I110 J110 h110 => ?_)
                obtain ⟨h26b, h27b, h28b, hfb, e2_⟩ := h110
                rw [show sk (sT τ) (sL τ) (nE (sT τ) (sL τ) (cP1 (sT τ) (sL τ))) = (cP2 (sT τ) (sL τ)) from rfl] at h26b h27b h28b
                have e2_ := e2_.symm
                subst e2_
                have hP2L : (cP2 (sT τ) (sL τ)) ≤ sL τ := sk_le (nE_le hP1L)
                refine r_aload_n C 2 (dk oX10_claim_1 1 rfl) rfl ?_
                refine r_aload_n C 2 (dk oX10_claim_1 2 rfl) rfl ?_
                refine r_iconst C (dk oX10_claim_1 3 rfl) (v := nI 2) (by decide) ?_
                refine r_bipush C (dk oX10_claim_1 4 rfl) (v := nI 105) (by decide) ?_
                refine r_bipush C (dk oX10_claim_1 5 rfl) (v := nI 102) (by decide) ?_
                refine r_iconst C (dk oX10_claim_1 6 rfl) (v := nI 0) (by decide) ?_
                refine r_iconst C (dk oX10_claim_1 7 rfl) (v := nI 0) (by decide) ?_
                refine r_iconst C (dk oX10_claim_1 8 rfl) (v := nI 0) (by decide) ?_
                refine r_ivi C Z (dk oX10_claim_1 9 rfl) cl_X10_165 ci_X10_isWord rfl (km hn rfl) (c_X10_isWord hn I110 J (sT τ) (sL τ) (hT94.tk hfb) (cP2 (sT τ) (sL τ)) h27b hP2L h28b 2 105 102 0 0 0 (by decide) (by decide) (sWd 2) (by decide)) rfl rfl (Nat.le_of_ble_eq_true rfl) ⟨Nat.le_of_ble_eq_true rfl, Nat.le_of_ble_eq_true rfl⟩ ⟨Nat.zero_le _, Nat.zero_le _⟩ (fun r123 I123 J123 h123 => ?_)
                obtain ⟨h123, e1_, e2_⟩ := h123
                have e1_ := e1_.symm
                have e2_ := e2_.symm
                subst e1_
                subst e2_
                subst h123
                refine r_topI (show b32 (isW (sT τ) (sL τ) (cP2 (sT τ) (sL τ)) (sWd 2)) = b32 (decide (isW (sT τ) (sL τ) (cP2 (sT τ) (sL τ)) (sWd 2) = true)) from by cases isW (sT τ) (sL τ) (cP2 (sT τ) (sL τ)) (sWd 2) <;> rfl) ?_
                refine r_iconst C (dk oX10_claim_1 10 rfl) (v := nI 1) (by decide) ?_
                refine r_aload_n C 2 (dk oX10_claim_1 11 rfl) rfl ?_
                refine r_getI C (dk oX10_claim_1 12 rfl) fl_X10_152 rfl (km hn rfl) ?_
                rw [h27b]
                refine r_ivi C Z (dk oX10_claim_1 13 rfl) cl_X10_173 ci_X10_want rfl (km hn rfl) (c_X10_want hn I110 J (decide (isW (sT τ) (sL τ) (cP2 (sT τ) (sL τ)) (sWd 2) = true)) (nI 1) (nI (cP2 (sT τ) (sL τ))) (nI 0) ((hfb.2 29 (by decide) (by decide) (by decide)).trans (by rw [hn1, hz106]))) rfl rfl (Nat.le_of_ble_eq_true rfl) ⟨Nat.le_of_ble_eq_true rfl, Nat.le_of_ble_eq_true rfl⟩ ⟨Nat.zero_le _, Nat.zero_le _⟩ (fun r131 I131 J131 h131 => ?_)
                obtain ⟨e1_, hW131, e2_⟩ := h131
                have e1_ := e1_.symm
                have e2_ := e2_.symm
                subst e1_
                subst e2_
                refine r_if_eq (tgt := 141) C (dk oX10_claim_1 14 rfl) (by decide) (fun hb134 => ?_) (fun hb134 => ?_)
                · rw [b32_0, decide_eq_false_iff_not] at hb134
                  have hb134 := want_0 hb134
                  have hI131 := want_t hW131 hb134
                  subst hI131
                  obtain ⟨Ie, hIe⟩ : ∃ X, X = up2 (up2 I110 117 29 (nI 1)) 117 30 (nI (cP2 (sT τ) (sL τ))) := ⟨_, rfl⟩
                  have hE : ∃ fn pl Cc, clE τ I1 (up2 (up2 I110 117 29 (nI 1)) 117 30 (nI (cP2 (sT τ) (sL τ)))) fn pl Cc ∧ fn ≠ 0 := ⟨1, (cP2 (sT τ) (sL τ)), [], ⟨PR_3 hb86 hz106 hb134, ((hBm.tr (hfa.X.m.tr (hnf.X.m.tr hfb.X.m))).up 29 _ (by decide)).up 30 _ (by decide), by rw [up2_off (by decide), up2_at], by rw [up2_at, if_neg (by decide)], fun e => absurd e (by decide)⟩, by decide⟩
                  rw [← hIe] at hE
                  rw [← hIe]
                  clear hIe
                  obtain ⟨fn, pl, Cc, hE1, hne0⟩ := hE
                  obtain ⟨hPR, hmE, h29e, h30e, hqE⟩ := hE1
                  have hfn := hPR.1
                  have hMr := hMM1.rc (f := fn) (pl := pl) hmE h30e
                  refine r_aload_n C 2 (dk oX10_claim_1 17 rfl) rfl ?_
                  refine r_iconst C (dk oX10_claim_1 18 rfl) (v := nI 0) (by decide) ?_
                  refine r_putI C (dk oX10_claim_1 19 rfl) fl_X10_136 ft_10_25 rfl (km hn rfl) ?_
                  refine r_aload_n C 2 (dk oX10_claim_1 20 rfl) rfl ?_
                  refine r_getI C (dk oX10_claim_1 21 rfl) fl_X10_145 rfl (km hn rfl) ?_
                  rw [up2_off (by decide), h29e]
                  refine r_if_le (tgt := 161) C (dk oX10_claim_1 22 rfl) (by decide) (fun hb150 => ?_) (fun hb150 => ?_)
                  · first
                      | (exfalso; rw [show (0 : Int32) = nI 0 from rfl, nI_leI (by omega) (by omega)] at hb150; omega)
                      | rw [show (0 : Int32) = nI 0 from rfl, nI_leI (by omega) (by omega)] at hb150
                        have hf0 : fn = 0 := by omega
                        subst hf0
                        have hq0 := hqE rfl
                        have hPRok := hPR.ok hL12
                        have hlen : Cc.length ≤ 120 := hPRok.1.1
                        refine r_aload_n C 2 (dk oX10_claim_1 28 rfl) rfl ?_
                        refine r_getR C (dk oX10_claim_1 29 rfl) fl_X10_7 rfl (km hn rfl) ?_
                        refine r_iconst C (dk oX10_claim_1 30 rfl) (v := nI 0) (by decide) ?_
                        refine r_iald C 0 (dk oX10_claim_1 31 rfl) rfl (km hn rfl) rfl (by decide) (by decide) ?_
                        rw [show up2 Ie 117 25 (nI 0) 118 0 = nI (sCl τ).1 from hMr.c0.2.1]
                        refine r_istore_n (lo' := [(3, _), (2, _), (1, _), (0, _)]) C (dk oX10_claim_1 32 rfl) rfl (by decide) rfl ?_
                        refine r_aload_n C 3 (dk oX10_claim_1 33 rfl) rfl ?_
                        refine r_getR C (dk oX10_claim_1 34 rfl) fl_X10_13 rfl (km hn rfl) ?_
                        refine r_iload_n C 0 (dk oX10_claim_1 35 rfl) rfl ?_
                        refine r_iload_n C 2 (dk oX10_claim_1 36 rfl) rfl ?_
                        refine r_if_eq (tgt := 182) C (dk oX10_claim_1 37 rfl) (by decide) (fun hb174 => ?_) (fun hb174 => ?_)
                        · rw [b32_0] at hb174
                          refine r_iload_n C 1 (dk oX10_claim_1 41 rfl) rfl ?_
                          refine r_topI (show nI (nmV (sT τ) (sL τ) (cP1 (sT τ) (sL τ))) = cCo (sT τ) (sL τ) from by unfold cCo; rw [hb174, if_neg (by decide)]) ?_
                          refine r_iast C _ (dk oX10_claim_1 42 rfl) rfl (km hn rfl) rfl (by omega) (by decide) ?_
                          refine r_aload_n C 3 (dk oX10_claim_1 43 rfl) rfl ?_
                          refine r_getR C (dk oX10_claim_1 44 rfl) fl_X10_19 rfl (km hn rfl) ?_
                          refine r_iload_n C 0 (dk oX10_claim_1 45 rfl) rfl ?_
                          refine r_aload_n C 3 (dk oX10_claim_1 46 rfl) rfl ?_
                          refine r_getI C (dk oX10_claim_1 47 rfl) fl_X10_178 rfl (km hn rfl) ?_
                          rw [up2_ne (by decide), up2_off (by decide), hq0.2.2.1]
                          refine r_iast C _ (dk oX10_claim_1 48 rfl) rfl (km hn rfl) rfl (by omega) (by decide) ?_
                          refine r_iconst C (dk oX10_claim_1 49 rfl) (v := nI 0) (by decide) ?_
                          refine r_istore (lo' := [(4, _), (3, _), (2, _), (1, _), (0, _)]) C (dk oX10_claim_1 50 rfl) (by decide) rfl ?_
                          have L197 : ∀ (d_ : Nat) (k_ : Nat) (I3 : MI), Cc.length - k_ < d_ → k_ ≤ Cc.length → (∀ q, q ≠ 120 → I3 q = (up2 (up2 (up2 Ie 117 25 (nI 0)) 119 (sCl τ).1 (cCo (sT τ) (sL τ))) 121 (sCl τ).1 (nI Cc.length)) q) → (∀ j, I3 120 j = if 120 * (sCl τ).1 ≤ j ∧ j < 120 * (sCl τ).1 + k_ then nI (enc (Cc.getD (j - 120 * (sCl τ).1) 0)) else (up2 (up2 (up2 Ie 117 25 (nI 0)) 119 (sCl τ).1 (cCo (sT τ) (sL τ))) 121 (sCl τ).1 (nI Cc.length)) 120 j) → V p l e (rmL 5) s m args below meth c Q D A 5 0 0 n ad (mE cA ad I3 J) 197 [(0, .ref (ad 117)), (3, .int (nI (sCl τ).1)), (4, .int (nI k_))] [] := by
                            intro d_
                            induction d_ with
                            | zero => intros; exact absurd (by assumption) (Nat.not_lt_zero _)
                            | succ d_ ih => 
                              intro k_ I3 hd_ hk hFc hcp
                              refine r_iload C 2 (dk oX10_claim_1 51 rfl) rfl ?_
                              refine r_aload_n C 0 (dk oX10_claim_1 52 rfl) rfl ?_
                              refine r_getI C (dk oX10_claim_1 53 rfl) fl_X10_178 rfl (km hn rfl) ?_
                              rw [hFc 117 (by decide), up2_ne (by decide), up2_ne (by decide), up2_off (by decide), hq0.2.2.1]
                              refine r_icmp_ge (tgt := 231) C (dk oX10_claim_1 54 rfl) (by decide) (fun hb203 => ?_) (fun hb203 => ?_)
                              · simp (disch := omega) only [nI_leI, nI_ltI, nI_eq, nI_eq0] at hb203
                                refine r_aload_n C 0 (dk oX10_claim_2 9 rfl) rfl ?_
                                refine r_getR C (dk oX10_claim_2 10 rfl) fl_X10_7 rfl (km hn rfl) ?_
                                refine r_iconst C (dk oX10_claim_2 11 rfl) (v := nI 0) (by decide) ?_
                                refine r_dup2 C (dk oX10_claim_2 12 rfl) rfl rfl ?_
                                refine r_iald C 0 (dk oX10_claim_2 13 rfl) rfl (km hn rfl) rfl (by decide) (by decide) ?_
                                rw [hFc 118 (by decide), up2_ne (by decide), up2_ne (by decide), show up2 Ie 117 25 (nI 0) 118 0 = nI (sCl τ).1 from hMr.c0.2.1]
                                refine r_iconst C (dk oX10_claim_2 14 rfl) (v := nI 1) (by decide) ?_
                                refine r_iadd C (dk oX10_claim_2 15 rfl) ?_
                                rw [nI_add]
                                refine r_iast C 0 (dk oX10_claim_2 16 rfl) rfl (km hn rfl) rfl (by decide) (by decide) ?_
                                refine r_iload_n C 1 (dk oX10_claim_2 17 rfl) rfl ?_
                                refine hret (dk oX10_claim_2 18 rfl) rfl ?_
                                refine ⟨stC (rdS τ 0 pl) (adC (sCl τ) (cCo (sT τ) (sL τ)) Cc), (by unfold q_claim; rw [if_neg (by omega), if_neg (by omega)]; exact ⟨0, pl, Cc, hPR, by rw [if_pos rfl]; exact ⟨rfl, rfl⟩⟩), MM.cl (τ := rdS τ 0 pl) (x := cCo (sT τ) (sL τ)) (C := Cc) hMr (by show (sCl τ).1 < 6; omega) hPRok.2 hPRok.1 (fun k hk => ?_) ?_ ?_ ?_ (fun j => ?_), fun k hk => ?_, rfl⟩
                                · rw [up2_ne (by omega), hFc k (by omega), up2_ne (by omega), up2_ne (by omega)]
                                · funext j
                                  rw [up2_eq]
                                  show (if j = 0 then _ else I3 118 j) = _
                                  rw [hFc 118 (by decide), up2_ne (by decide), up2_ne (by decide)]
                                  rfl
                                · rw [up2_ne (by decide), hFc 119 (by decide), up2_ne (by decide), up2_eq]
                                  rfl
                                · rw [up2_ne (by decide), hFc 121 (by decide), up2_eq]
                                  funext j
                                  show (if j = (sCl τ).1 then _ else _) = _
                                  rw [up2_ne (by decide)]
                                  rfl
                                · rw [up2_ne (by decide), hcp j, show k_ = Cc.length by omega, up2_ne (by decide), up2_ne (by decide)]
                                  rfl
                                · rw [up2_ne (by omega), hFc k (by omega), up2_ne (by omega), up2_ne (by omega), up2_ne (by omega), hmE.1 k (by omega) (by omega) (by omega)]
                                  exact hF1 k hk
                              · simp (disch := omega) only [nI_leI, nI_ltI, nI_eq, nI_eq0] at hb203
                                have hb203 : k_ < Cc.length := by omega
                                refine r_aload_n C 0 (dk oX10_claim_1 55 rfl) rfl ?_
                                refine r_getR C (dk oX10_claim_1 56 rfl) fl_X10_16 rfl (km hn rfl) ?_
                                refine r_bipush C (dk oX10_claim_1 57 rfl) (v := nI 120) (by decide) ?_
                                refine r_iload_n C 1 (dk oX10_claim_1 58 rfl) rfl ?_
                                refine r_imul C (dk oX10_claim_1 59 rfl) ?_
                                rw [pk_mul]
                                refine r_iload C 2 (dk oX10_claim_2 0 rfl) rfl ?_
                                refine r_iadd C (dk oX10_claim_2 1 rfl) ?_
                                rw [nI_add]
                                refine r_aload_n C 0 (dk oX10_claim_2 2 rfl) rfl ?_
                                refine r_getR C (dk oX10_claim_2 3 rfl) fl_X10_90 rfl (km hn rfl) ?_
                                refine r_iload C 2 (dk oX10_claim_2 4 rfl) rfl ?_
                                refine r_iald C _ (dk oX10_claim_2 5 rfl) rfl (km hn rfl) rfl (by omega) (by decide) ?_
                                rw [hFc 143 (by decide), up2_ne (by decide), up2_ne (by decide), up2_ne (by decide), hq0.2.2.2 k_ hb203]
                                refine r_iast C _ (dk oX10_claim_2 6 rfl) rfl (km hn rfl) rfl (by omega) (by decide) ?_
                                refine r_iinc (lo' := [(4, _), (0, _), (3, _)]) C 2 (dk oX10_claim_2 7 rfl) rfl (by first | exact nI_inc _ | rfl) (by decide) rfl ?_
                                refine r_goto (tgt := 197) C (dk oX10_claim_2 8 rfl) (by decide) ?_
                                refine V.sub [1, 2, 0] rfl ?_
                                refine ih (k_ + 1) _ (by omega) (by omega) (fun q hq => by rw [up2_ne hq]; exact hFc q hq) (fun j => ?_)
                                by_cases e : j = 120 * (sCl τ).1 + k_
                                · rw [e, up2_at, if_pos (by omega), show 120 * (sCl τ).1 + k_ - 120 * (sCl τ).1 = k_ by omega]
                                · rw [up2_off e, hcp j]
                                  by_cases e2 : 120 * (sCl τ).1 ≤ j ∧ j < 120 * (sCl τ).1 + k_
                                  · rw [if_pos e2, if_pos (by omega)]
                                  · rw [if_neg e2, if_neg (by omega)]
                          refine V.sub [4, 1, 0] rfl ?_
                          exact L197 (Cc.length + 1) 0 _ (by omega) (Nat.zero_le _) (fun _ _ => rfl) (fun j => (if_neg (by omega)).symm)
                        · rw [b32_n] at hb174
                          refine r_iload_n C 1 (dk oX10_claim_1 38 rfl) rfl ?_
                          refine r_ineg C (dk oX10_claim_1 39 rfl) ?_
                          refine r_topI (show -(nI (nmV (sT τ) (sL τ) (cP1 (sT τ) (sL τ)))) = cCo (sT τ) (sL τ) from by unfold cCo; rw [hb174, if_pos rfl]) ?_
                          refine r_goto (tgt := 183) C (dk oX10_claim_1 40 rfl) (by decide) ?_
                          refine r_iast C _ (dk oX10_claim_1 42 rfl) rfl (km hn rfl) rfl (by omega) (by decide) ?_
                          refine r_aload_n C 3 (dk oX10_claim_1 43 rfl) rfl ?_
                          refine r_getR C (dk oX10_claim_1 44 rfl) fl_X10_19 rfl (km hn rfl) ?_
                          refine r_iload_n C 0 (dk oX10_claim_1 45 rfl) rfl ?_
                          refine r_aload_n C 3 (dk oX10_claim_1 46 rfl) rfl ?_
                          refine r_getI C (dk oX10_claim_1 47 rfl) fl_X10_178 rfl (km hn rfl) ?_
                          rw [up2_ne (by decide), up2_off (by decide), hq0.2.2.1]
                          refine r_iast C _ (dk oX10_claim_1 48 rfl) rfl (km hn rfl) rfl (by omega) (by decide) ?_
                          refine r_iconst C (dk oX10_claim_1 49 rfl) (v := nI 0) (by decide) ?_
                          refine r_istore (lo' := [(4, _), (3, _), (2, _), (1, _), (0, _)]) C (dk oX10_claim_1 50 rfl) (by decide) rfl ?_
                          have L197 : ∀ (d_ : Nat) (k_ : Nat) (I3 : MI), Cc.length - k_ < d_ → k_ ≤ Cc.length → (∀ q, q ≠ 120 → I3 q = (up2 (up2 (up2 Ie 117 25 (nI 0)) 119 (sCl τ).1 (cCo (sT τ) (sL τ))) 121 (sCl τ).1 (nI Cc.length)) q) → (∀ j, I3 120 j = if 120 * (sCl τ).1 ≤ j ∧ j < 120 * (sCl τ).1 + k_ then nI (enc (Cc.getD (j - 120 * (sCl τ).1) 0)) else (up2 (up2 (up2 Ie 117 25 (nI 0)) 119 (sCl τ).1 (cCo (sT τ) (sL τ))) 121 (sCl τ).1 (nI Cc.length)) 120 j) → V p l e (rmL 5) s m args below meth c Q D A 5 0 0 n ad (mE cA ad I3 J) 197 [(0, .ref (ad 117)), (3, .int (nI (sCl τ).1)), (4, .int (nI k_))] [] := by
                            intro d_
                            induction d_ with
                            | zero => intros; exact absurd (by assumption) (Nat.not_lt_zero _)
                            | succ d_ ih => 
                              intro k_ I3 hd_ hk hFc hcp
                              refine r_iload C 2 (dk oX10_claim_1 51 rfl) rfl ?_
                              refine r_aload_n C 0 (dk oX10_claim_1 52 rfl) rfl ?_
                              refine r_getI C (dk oX10_claim_1 53 rfl) fl_X10_178 rfl (km hn rfl) ?_
                              rw [hFc 117 (by decide), up2_ne (by decide), up2_ne (by decide), up2_off (by decide), hq0.2.2.1]
                              refine r_icmp_ge (tgt := 231) C (dk oX10_claim_1 54 rfl) (by decide) (fun hb203 => ?_) (fun hb203 => ?_)
                              · simp (disch := omega) only [nI_leI, nI_ltI, nI_eq, nI_eq0] at hb203
                                refine r_aload_n C 0 (dk oX10_claim_2 9 rfl) rfl ?_
                                refine r_getR C (dk oX10_claim_2 10 rfl) fl_X10_7 rfl (km hn rfl) ?_
                                refine r_iconst C (dk oX10_claim_2 11 rfl) (v := nI 0) (by decide) ?_
                                refine r_dup2 C (dk oX10_claim_2 12 rfl) rfl rfl ?_
                                refine r_iald C 0 (dk oX10_claim_2 13 rfl) rfl (km hn rfl) rfl (by decide) (by decide) ?_
                                rw [hFc 118 (by decide), up2_ne (by decide), up2_ne (by decide), show up2 Ie 117 25 (nI 0) 118 0 = nI (sCl τ).1 from hMr.c0.2.1]
                                refine r_iconst C (dk oX10_claim_2 14 rfl) (v := nI 1) (by decide) ?_
                                refine r_iadd C (dk oX10_claim_2 15 rfl) ?_
                                rw [nI_add]
                                refine r_iast C 0 (dk oX10_claim_2 16 rfl) rfl (km hn rfl) rfl (by decide) (by decide) ?_
                                refine r_iload_n C 1 (dk oX10_claim_2 17 rfl) rfl ?_
                                refine hret (dk oX10_claim_2 18 rfl) rfl ?_
                                refine ⟨stC (rdS τ 0 pl) (adC (sCl τ) (cCo (sT τ) (sL τ)) Cc), (by unfold q_claim; rw [if_neg (by omega), if_neg (by omega)]; exact ⟨0, pl, Cc, hPR, by rw [if_pos rfl]; exact ⟨rfl, rfl⟩⟩), MM.cl (τ := rdS τ 0 pl) (x := cCo (sT τ) (sL τ)) (C := Cc) hMr (by show (sCl τ).1 < 6; omega) hPRok.2 hPRok.1 (fun k hk => ?_) ?_ ?_ ?_ (fun j => ?_), fun k hk => ?_, rfl⟩
                                · rw [up2_ne (by omega), hFc k (by omega), up2_ne (by omega), up2_ne (by omega)]
                                · funext j
                                  rw [up2_eq]
                                  show (if j = 0 then _ else I3 118 j) = _
                                  rw [hFc 118 (by decide), up2_ne (by decide), up2_ne (by decide)]
                                  rfl
                                · rw [up2_ne (by decide), hFc 119 (by decide), up2_ne (by decide), up2_eq]
                                  rfl
                                · rw [up2_ne (by decide), hFc 121 (by decide), up2_eq]
                                  funext j
                                  show (if j = (sCl τ).1 then _ else _) = _
                                  rw [up2_ne (by decide)]
                                  rfl
                                · rw [up2_ne (by decide), hcp j, show k_ = Cc.length by omega, up2_ne (by decide), up2_ne (by decide)]
                                  rfl
                                · rw [up2_ne (by omega), hFc k (by omega), up2_ne (by omega), up2_ne (by omega), up2_ne (by omega), hmE.1 k (by omega) (by omega) (by omega)]
                                  exact hF1 k hk
                              · simp (disch := omega) only [nI_leI, nI_ltI, nI_eq, nI_eq0] at hb203
                                have hb203 : k_ < Cc.length := by omega
                                refine r_aload_n C 0 (dk oX10_claim_1 55 rfl) rfl ?_
                                refine r_getR C (dk oX10_claim_1 56 rfl) fl_X10_16 rfl (km hn rfl) ?_
                                refine r_bipush C (dk oX10_claim_1 57 rfl) (v := nI 120) (by decide) ?_
                                refine r_iload_n C 1 (dk oX10_claim_1 58 rfl) rfl ?_
                                refine r_imul C (dk oX10_claim_1 59 rfl) ?_
                                rw [pk_mul]
                                refine r_iload C 2 (dk oX10_claim_2 0 rfl) rfl ?_
                                refine r_iadd C (dk oX10_claim_2 1 rfl) ?_
                                rw [nI_add]
                                refine r_aload_n C 0 (dk oX10_claim_2 2 rfl) rfl ?_
                                refine r_getR C (dk oX10_claim_2 3 rfl) fl_X10_90 rfl (km hn rfl) ?_
                                refine r_iload C 2 (dk oX10_claim_2 4 rfl) rfl ?_
                                refine r_iald C _ (dk oX10_claim_2 5 rfl) rfl (km hn rfl) rfl (by omega) (by decide) ?_
                                rw [hFc 143 (by decide), up2_ne (by decide), up2_ne (by decide), up2_ne (by decide), hq0.2.2.2 k_ hb203]
                                refine r_iast C _ (dk oX10_claim_2 6 rfl) rfl (km hn rfl) rfl (by omega) (by decide) ?_
                                refine r_iinc (lo' := [(4, _), (0, _), (3, _)]) C 2 (dk oX10_claim_2 7 rfl) rfl (by first | exact nI_inc _ | rfl) (by decide) rfl ?_
                                refine r_goto (tgt := 197) C (dk oX10_claim_2 8 rfl) (by decide) ?_
                                refine V.sub [1, 2, 0] rfl ?_
                                refine ih (k_ + 1) _ (by omega) (by omega) (fun q hq => by rw [up2_ne hq]; exact hFc q hq) (fun j => ?_)
                                by_cases e : j = 120 * (sCl τ).1 + k_
                                · rw [e, up2_at, if_pos (by omega), show 120 * (sCl τ).1 + k_ - 120 * (sCl τ).1 = k_ by omega]
                                · rw [up2_off e, hcp j]
                                  by_cases e2 : 120 * (sCl τ).1 ≤ j ∧ j < 120 * (sCl τ).1 + k_
                                  · rw [if_pos e2, if_pos (by omega)]
                                  · rw [if_neg e2, if_neg (by omega)]
                          refine V.sub [4, 1, 0] rfl ?_
                          exact L197 (Cc.length + 1) 0 _ (by omega) (Nat.zero_le _) (fun _ _ => rfl) (fun j => (if_neg (by omega)).symm)
                  · rw [show (0 : Int32) = nI 0 from rfl, nI_leI (by omega) (by omega)] at hb150
                    have hf0 : ¬ fn = 0 := by omega
                    refine r_bipush C (dk oX10_claim_1 23 rfl) (v := -10) (by decide) ?_
                    refine r_aload_n C 2 (dk oX10_claim_1 24 rfl) rfl ?_
                    refine r_getI C (dk oX10_claim_1 25 rfl) fl_X10_145 rfl (km hn rfl) ?_
                    rw [up2_off (by decide), h29e]
                    refine r_isub C (dk oX10_claim_1 26 rfl) ?_
                    refine hret (dk oX10_claim_1 27 rfl) rfl ?_
                    exact ⟨rdS τ fn pl, (by unfold q_claim; rw [if_neg (by omega), if_neg (by omega)]; exact ⟨fn, pl, Cc, hPR, by rw [if_neg hf0]; exact ⟨rfl, rfl⟩⟩), hMr, fun k hk => by rw [up2_ne (by omega), hmE.1 k (by omega) (by omega) (by omega)]; exact hF1 k hk, rfl⟩
                · rw [b32_n, decide_eq_true_eq] at hb134
                  have hb134 := want_1 (by decide) hb134
                  have hI131 := want_f hW131 hb134
                  subst hI131
                  refine r_aload_n C 2 (dk oX10_claim_1 15 rfl) rfl ?_
                  refine r_ivv C Z (dk oX10_claim_1 16 rfl) cl_X10_225 ci_X10_takeCase rfl (km hn rfl) (c_X10_takeCase hn I131 J (sT τ) (sL τ) ((cP2 (sT τ) (sL τ)) + 2) hL12 (hT94.tk hfb) (by rw [h26b, wd_end hb134]; rfl) (isW_lt (w := sWd 2) hP2L hb134) ((hfb.2 29 (by decide) (by decide) (by decide)).trans (by rw [hn1, hz106])) ((hfb.2 30 (by decide) (by decide) (by decide)).trans (by rw [hn2, if_pos hz106]; exact (hfa.2 30 (by decide) (by decide) (by decide)).trans hB30))) rfl rfl (Nat.le_of_ble_eq_true rfl) ⟨Nat.le_of_ble_eq_true rfl, Nat.le_of_ble_eq_true rfl⟩ ⟨Nat.zero_le _, Nat.zero_le _⟩ (fun I138 J138 h138 => ?_)
                  obtain ⟨e2_, hX138, f1, p1, C1, hf1, hr0, hq0c, hr1, h29c, h30c⟩ := h138
                  have e2_ := e2_.symm
                  subst e2_
                  obtain ⟨Ie, hIe⟩ : ∃ X, X = I138 := ⟨_, rfl⟩
                  have hE : ∃ fn pl Cc, clE τ I1 (I138) fn pl Cc := ⟨f1, p1, C1, PR_4 hb86 hz106 hb134 hf1 hr0 hr1, (hBm.tr (hfa.X.m.tr (hnf.X.m.tr hfb.X.m))).tr hX138.m, h29c, h30c, hq0c⟩
                  rw [← hIe] at hE
                  rw [← hIe]
                  clear hIe
                  obtain ⟨fn, pl, Cc, hE1⟩ := hE
                  obtain ⟨hPR, hmE, h29e, h30e, hqE⟩ := hE1
                  have hfn := hPR.1
                  have hMr := hMM1.rc (f := fn) (pl := pl) hmE h30e
                  refine r_aload_n C 2 (dk oX10_claim_1 17 rfl) rfl ?_
                  refine r_iconst C (dk oX10_claim_1 18 rfl) (v := nI 0) (by decide) ?_
                  refine r_putI C (dk oX10_claim_1 19 rfl) fl_X10_136 ft_10_25 rfl (km hn rfl) ?_
                  refine r_aload_n C 2 (dk oX10_claim_1 20 rfl) rfl ?_
                  refine r_getI C (dk oX10_claim_1 21 rfl) fl_X10_145 rfl (km hn rfl) ?_
                  rw [up2_off (by decide), h29e]
                  refine r_if_le (tgt := 161) C (dk oX10_claim_1 22 rfl) (by decide) (fun hb150 => ?_) (fun hb150 => ?_)
                  · first
                      | (exfalso; rw [show (0 : Int32) = nI 0 from rfl, nI_leI (by omega) (by omega)] at hb150; omega)
                      | rw [show (0 : Int32) = nI 0 from rfl, nI_leI (by omega) (by omega)] at hb150
                        have hf0 : fn = 0 := by omega
                        subst hf0
                        have hq0 := hqE rfl
                        have hPRok := hPR.ok hL12
                        have hlen : Cc.length ≤ 120 := hPRok.1.1
                        refine r_aload_n C 2 (dk oX10_claim_1 28 rfl) rfl ?_
                        refine r_getR C (dk oX10_claim_1 29 rfl) fl_X10_7 rfl (km hn rfl) ?_
                        refine r_iconst C (dk oX10_claim_1 30 rfl) (v := nI 0) (by decide) ?_
                        refine r_iald C 0 (dk oX10_claim_1 31 rfl) rfl (km hn rfl) rfl (by decide) (by decide) ?_
                        rw [show up2 Ie 117 25 (nI 0) 118 0 = nI (sCl τ).1 from hMr.c0.2.1]
                        refine r_istore_n (lo' := [(3, _), (2, _), (1, _), (0, _)]) C (dk oX10_claim_1 32 rfl) rfl (by decide) rfl ?_
                        refine r_aload_n C 3 (dk oX10_claim_1 33 rfl) rfl ?_
                        refine r_getR C (dk oX10_claim_1 34 rfl) fl_X10_13 rfl (km hn rfl) ?_
                        refine r_iload_n C 0 (dk oX10_claim_1 35 rfl) rfl ?_
                        refine r_iload_n C 2 (dk oX10_claim_1 36 rfl) rfl ?_
                        refine r_if_eq (tgt := 182) C (dk oX10_claim_1 37 rfl) (by decide) (fun hb174 => ?_) (fun hb174 => ?_)
                        · rw [b32_0] at hb174
                          refine r_iload_n C 1 (dk oX10_claim_1 41 rfl) rfl ?_
                          refine r_topI (show nI (nmV (sT τ) (sL τ) (cP1 (sT τ) (sL τ))) = cCo (sT τ) (sL τ) from by unfold cCo; rw [hb174, if_neg (by decide)]) ?_
                          refine r_iast C _ (dk oX10_claim_1 42 rfl) rfl (km hn rfl) rfl (by omega) (by decide) ?_
                          refine r_aload_n C 3 (dk oX10_claim_1 43 rfl) rfl ?_
                          refine r_getR C (dk oX10_claim_1 44 rfl) fl_X10_19 rfl (km hn rfl) ?_
                          refine r_iload_n C 0 (dk oX10_claim_1 45 rfl) rfl ?_
                          refine r_aload_n C 3 (dk oX10_claim_1 46 rfl) rfl ?_
                          refine r_getI C (dk oX10_claim_1 47 rfl) fl_X10_178 rfl (km hn rfl) ?_
                          rw [up2_ne (by decide), up2_off (by decide), hq0.2.2.1]
                          refine r_iast C _ (dk oX10_claim_1 48 rfl) rfl (km hn rfl) rfl (by omega) (by decide) ?_
                          refine r_iconst C (dk oX10_claim_1 49 rfl) (v := nI 0) (by decide) ?_
                          refine r_istore (lo' := [(4, _), (3, _), (2, _), (1, _), (0, _)]) C (dk oX10_claim_1 50 rfl) (by decide) rfl ?_
                          have L197 : ∀ (d_ : Nat) (k_ : Nat) (I3 : MI), Cc.length - k_ < d_ → k_ ≤ Cc.length → (∀ q, q ≠ 120 → I3 q = (up2 (up2 (up2 Ie 117 25 (nI 0)) 119 (sCl τ).1 (cCo (sT τ) (sL τ))) 121 (sCl τ).1 (nI Cc.length)) q) → (∀ j, I3 120 j = if 120 * (sCl τ).1 ≤ j ∧ j < 120 * (sCl τ).1 + k_ then nI (enc (Cc.getD (j - 120 * (sCl τ).1) 0)) else (up2 (up2 (up2 Ie 117 25 (nI 0)) 119 (sCl τ).1 (cCo (sT τ) (sL τ))) 121 (sCl τ).1 (nI Cc.length)) 120 j) → V p l e (rmL 5) s m args below meth c Q D A 5 0 0 n ad (mE cA ad I3 J) 197 [(0, .ref (ad 117)), (3, .int (nI (sCl τ).1)), (4, .int (nI k_))] [] := by
                            intro d_
                            induction d_ with
                            | zero => intros; exact absurd (by assumption) (Nat.not_lt_zero _)
                            | succ d_ ih => 
                              intro k_ I3 hd_ hk hFc hcp
                              refine r_iload C 2 (dk oX10_claim_1 51 rfl) rfl ?_
                              refine r_aload_n C 0 (dk oX10_claim_1 52 rfl) rfl ?_
                              refine r_getI C (dk oX10_claim_1 53 rfl) fl_X10_178 rfl (km hn rfl) ?_
                              rw [hFc 117 (by decide), up2_ne (by decide), up2_ne (by decide), up2_off (by decide), hq0.2.2.1]
                              refine r_icmp_ge (tgt := 231) C (dk oX10_claim_1 54 rfl) (by decide) (fun hb203 => ?_) (fun hb203 => ?_)
                              · simp (disch := omega) only [nI_leI, nI_ltI, nI_eq, nI_eq0] at hb203
                                refine r_aload_n C 0 (dk oX10_claim_2 9 rfl) rfl ?_
                                refine r_getR C (dk oX10_claim_2 10 rfl) fl_X10_7 rfl (km hn rfl) ?_
                                refine r_iconst C (dk oX10_claim_2 11 rfl) (v := nI 0) (by decide) ?_
                                refine r_dup2 C (dk oX10_claim_2 12 rfl) rfl rfl ?_
                                refine r_iald C 0 (dk oX10_claim_2 13 rfl) rfl (km hn rfl) rfl (by decide) (by decide) ?_
                                rw [hFc 118 (by decide), up2_ne (by decide), up2_ne (by decide), show up2 Ie 117 25 (nI 0) 118 0 = nI (sCl τ).1 from hMr.c0.2.1]
                                refine r_iconst C (dk oX10_claim_2 14 rfl) (v := nI 1) (by decide) ?_
                                refine r_iadd C (dk oX10_claim_2 15 rfl) ?_
                                rw [nI_add]
                                refine r_iast C 0 (dk oX10_claim_2 16 rfl) rfl (km hn rfl) rfl (by decide) (by decide) ?_
                                refine r_iload_n C 1 (dk oX10_claim_2 17 rfl) rfl ?_
                                refine hret (dk oX10_claim_2 18 rfl) rfl ?_
                                refine ⟨stC (rdS τ 0 pl) (adC (sCl τ) (cCo (sT τ) (sL τ)) Cc), (by unfold q_claim; rw [if_neg (by omega), if_neg (by omega)]; exact ⟨0, pl, Cc, hPR, by rw [if_pos rfl]; exact ⟨rfl, rfl⟩⟩), MM.cl (τ := rdS τ 0 pl) (x := cCo (sT τ) (sL τ)) (C := Cc) hMr (by show (sCl τ).1 < 6; omega) hPRok.2 hPRok.1 (fun k hk => ?_) ?_ ?_ ?_ (fun j => ?_), fun k hk => ?_, rfl⟩
                                · rw [up2_ne (by omega), hFc k (by omega), up2_ne (by omega), up2_ne (by omega)]
                                · funext j
                                  rw [up2_eq]
                                  show (if j = 0 then _ else I3 118 j) = _
                                  rw [hFc 118 (by decide), up2_ne (by decide), up2_ne (by decide)]
                                  rfl
                                · rw [up2_ne (by decide), hFc 119 (by decide), up2_ne (by decide), up2_eq]
                                  rfl
                                · rw [up2_ne (by decide), hFc 121 (by decide), up2_eq]
                                  funext j
                                  show (if j = (sCl τ).1 then _ else _) = _
                                  rw [up2_ne (by decide)]
                                  rfl
                                · rw [up2_ne (by decide), hcp j, show k_ = Cc.length by omega, up2_ne (by decide), up2_ne (by decide)]
                                  rfl
                                · rw [up2_ne (by omega), hFc k (by omega), up2_ne (by omega), up2_ne (by omega), up2_ne (by omega), hmE.1 k (by omega) (by omega) (by omega)]
                                  exact hF1 k hk
                              · simp (disch := omega) only [nI_leI, nI_ltI, nI_eq, nI_eq0] at hb203
                                have hb203 : k_ < Cc.length := by omega
                                refine r_aload_n C 0 (dk oX10_claim_1 55 rfl) rfl ?_
                                refine r_getR C (dk oX10_claim_1 56 rfl) fl_X10_16 rfl (km hn rfl) ?_
                                refine r_bipush C (dk oX10_claim_1 57 rfl) (v := nI 120) (by decide) ?_
                                refine r_iload_n C 1 (dk oX10_claim_1 58 rfl) rfl ?_
                                refine r_imul C (dk oX10_claim_1 59 rfl) ?_
                                rw [pk_mul]
                                refine r_iload C 2 (dk oX10_claim_2 0 rfl) rfl ?_
                                refine r_iadd C (dk oX10_claim_2 1 rfl) ?_
                                rw [nI_add]
                                refine r_aload_n C 0 (dk oX10_claim_2 2 rfl) rfl ?_
                                refine r_getR C (dk oX10_claim_2 3 rfl) fl_X10_90 rfl (km hn rfl) ?_
                                refine r_iload C 2 (dk oX10_claim_2 4 rfl) rfl ?_
                                refine r_iald C _ (dk oX10_claim_2 5 rfl) rfl (km hn rfl) rfl (by omega) (by decide) ?_
                                rw [hFc 143 (by decide), up2_ne (by decide), up2_ne (by decide), up2_ne (by decide), hq0.2.2.2 k_ hb203]
                                refine r_iast C _ (dk oX10_claim_2 6 rfl) rfl (km hn rfl) rfl (by omega) (by decide) ?_
                                refine r_iinc (lo' := [(4, _), (0, _), (3, _)]) C 2 (dk oX10_claim_2 7 rfl) rfl (by first | exact nI_inc _ | rfl) (by decide) rfl ?_
                                refine r_goto (tgt := 197) C (dk oX10_claim_2 8 rfl) (by decide) ?_
                                refine V.sub [1, 2, 0] rfl ?_
                                refine ih (k_ + 1) _ (by omega) (by omega) (fun q hq => by rw [up2_ne hq]; exact hFc q hq) (fun j => ?_)
                                by_cases e : j = 120 * (sCl τ).1 + k_
                                · rw [e, up2_at, if_pos (by omega), show 120 * (sCl τ).1 + k_ - 120 * (sCl τ).1 = k_ by omega]
                                · rw [up2_off e, hcp j]
                                  by_cases e2 : 120 * (sCl τ).1 ≤ j ∧ j < 120 * (sCl τ).1 + k_
                                  · rw [if_pos e2, if_pos (by omega)]
                                  · rw [if_neg e2, if_neg (by omega)]
                          refine V.sub [4, 1, 0] rfl ?_
                          exact L197 (Cc.length + 1) 0 _ (by omega) (Nat.zero_le _) (fun _ _ => rfl) (fun j => (if_neg (by omega)).symm)
                        · rw [b32_n] at hb174
                          refine r_iload_n C 1 (dk oX10_claim_1 38 rfl) rfl ?_
                          refine r_ineg C (dk oX10_claim_1 39 rfl) ?_
                          refine r_topI (show -(nI (nmV (sT τ) (sL τ) (cP1 (sT τ) (sL τ)))) = cCo (sT τ) (sL τ) from by unfold cCo; rw [hb174, if_pos rfl]) ?_
                          refine r_goto (tgt := 183) C (dk oX10_claim_1 40 rfl) (by decide) ?_
                          refine r_iast C _ (dk oX10_claim_1 42 rfl) rfl (km hn rfl) rfl (by omega) (by decide) ?_
                          refine r_aload_n C 3 (dk oX10_claim_1 43 rfl) rfl ?_
                          refine r_getR C (dk oX10_claim_1 44 rfl) fl_X10_19 rfl (km hn rfl) ?_
                          refine r_iload_n C 0 (dk oX10_claim_1 45 rfl) rfl ?_
                          refine r_aload_n C 3 (dk oX10_claim_1 46 rfl) rfl ?_
                          refine r_getI C (dk oX10_claim_1 47 rfl) fl_X10_178 rfl (km hn rfl) ?_
                          rw [up2_ne (by decide), up2_off (by decide), hq0.2.2.1]
                          refine r_iast C _ (dk oX10_claim_1 48 rfl) rfl (km hn rfl) rfl (by omega) (by decide) ?_
                          refine r_iconst C (dk oX10_claim_1 49 rfl) (v := nI 0) (by decide) ?_
                          refine r_istore (lo' := [(4, _), (3, _), (2, _), (1, _), (0, _)]) C (dk oX10_claim_1 50 rfl) (by decide) rfl ?_
                          have L197 : ∀ (d_ : Nat) (k_ : Nat) (I3 : MI), Cc.length - k_ < d_ → k_ ≤ Cc.length → (∀ q, q ≠ 120 → I3 q = (up2 (up2 (up2 Ie 117 25 (nI 0)) 119 (sCl τ).1 (cCo (sT τ) (sL τ))) 121 (sCl τ).1 (nI Cc.length)) q) → (∀ j, I3 120 j = if 120 * (sCl τ).1 ≤ j ∧ j < 120 * (sCl τ).1 + k_ then nI (enc (Cc.getD (j - 120 * (sCl τ).1) 0)) else (up2 (up2 (up2 Ie 117 25 (nI 0)) 119 (sCl τ).1 (cCo (sT τ) (sL τ))) 121 (sCl τ).1 (nI Cc.length)) 120 j) → V p l e (rmL 5) s m args below meth c Q D A 5 0 0 n ad (mE cA ad I3 J) 197 [(0, .ref (ad 117)), (3, .int (nI (sCl τ).1)), (4, .int (nI k_))] [] := by
                            intro d_
                            induction d_ with
                            | zero => intros; exact absurd (by assumption) (Nat.not_lt_zero _)
                            | succ d_ ih => 
                              intro k_ I3 hd_ hk hFc hcp
                              refine r_iload C 2 (dk oX10_claim_1 51 rfl) rfl ?_
                              refine r_aload_n C 0 (dk oX10_claim_1 52 rfl) rfl ?_
                              refine r_getI C (dk oX10_claim_1 53 rfl) fl_X10_178 rfl (km hn rfl) ?_
                              rw [hFc 117 (by decide), up2_ne (by decide), up2_ne (by decide), up2_off (by decide), hq0.2.2.1]
                              refine r_icmp_ge (tgt := 231) C (dk oX10_claim_1 54 rfl) (by decide) (fun hb203 => ?_) (fun hb203 => ?_)
                              · simp (disch := omega) only [nI_leI, nI_ltI, nI_eq, nI_eq0] at hb203
                                refine r_aload_n C 0 (dk oX10_claim_2 9 rfl) rfl ?_
                                refine r_getR C (dk oX10_claim_2 10 rfl) fl_X10_7 rfl (km hn rfl) ?_
                                refine r_iconst C (dk oX10_claim_2 11 rfl) (v := nI 0) (by decide) ?_
                                refine r_dup2 C (dk oX10_claim_2 12 rfl) rfl rfl ?_
                                refine r_iald C 0 (dk oX10_claim_2 13 rfl) rfl (km hn rfl) rfl (by decide) (by decide) ?_
                                rw [hFc 118 (by decide), up2_ne (by decide), up2_ne (by decide), show up2 Ie 117 25 (nI 0) 118 0 = nI (sCl τ).1 from hMr.c0.2.1]
                                refine r_iconst C (dk oX10_claim_2 14 rfl) (v := nI 1) (by decide) ?_
                                refine r_iadd C (dk oX10_claim_2 15 rfl) ?_
                                rw [nI_add]
                                refine r_iast C 0 (dk oX10_claim_2 16 rfl) rfl (km hn rfl) rfl (by decide) (by decide) ?_
                                refine r_iload_n C 1 (dk oX10_claim_2 17 rfl) rfl ?_
                                refine hret (dk oX10_claim_2 18 rfl) rfl ?_
                                refine ⟨stC (rdS τ 0 pl) (adC (sCl τ) (cCo (sT τ) (sL τ)) Cc), (by unfold q_claim; rw [if_neg (by omega), if_neg (by omega)]; exact ⟨0, pl, Cc, hPR, by rw [if_pos rfl]; exact ⟨rfl, rfl⟩⟩), MM.cl (τ := rdS τ 0 pl) (x := cCo (sT τ) (sL τ)) (C := Cc) hMr (by show (sCl τ).1 < 6; omega) hPRok.2 hPRok.1 (fun k hk => ?_) ?_ ?_ ?_ (fun j => ?_), fun k hk => ?_, rfl⟩
                                · rw [up2_ne (by omega), hFc k (by omega), up2_ne (by omega), up2_ne (by omega)]
                                · funext j
                                  rw [up2_eq]
                                  show (if j = 0 then _ else I3 118 j) = _
                                  rw [hFc 118 (by decide), up2_ne (by decide), up2_ne (by decide)]
                                  rfl
                                · rw [up2_ne (by decide), hFc 119 (by decide), up2_ne (by decide), up2_eq]
                                  rfl
                                · rw [up2_ne (by decide), hFc 121 (by decide), up2_eq]
                                  funext j
                                  show (if j = (sCl τ).1 then _ else _) = _
                                  rw [up2_ne (by decide)]
                                  rfl
                                · rw [up2_ne (by decide), hcp j, show k_ = Cc.length by omega, up2_ne (by decide), up2_ne (by decide)]
                                  rfl
                                · rw [up2_ne (by omega), hFc k (by omega), up2_ne (by omega), up2_ne (by omega), up2_ne (by omega), hmE.1 k (by omega) (by omega) (by omega)]
                                  exact hF1 k hk
                              · simp (disch := omega) only [nI_leI, nI_ltI, nI_eq, nI_eq0] at hb203
                                have hb203 : k_ < Cc.length := by omega
                                refine r_aload_n C 0 (dk oX10_claim_1 55 rfl) rfl ?_
                                refine r_getR C (dk oX10_claim_1 56 rfl) fl_X10_16 rfl (km hn rfl) ?_
                                refine r_bipush C (dk oX10_claim_1 57 rfl) (v := nI 120) (by decide) ?_
                                refine r_iload_n C 1 (dk oX10_claim_1 58 rfl) rfl ?_
                                refine r_imul C (dk oX10_claim_1 59 rfl) ?_
                                rw [pk_mul]
                                refine r_iload C 2 (dk oX10_claim_2 0 rfl) rfl ?_
                                refine r_iadd C (dk oX10_claim_2 1 rfl) ?_
                                rw [nI_add]
                                refine r_aload_n C 0 (dk oX10_claim_2 2 rfl) rfl ?_
                                refine r_getR C (dk oX10_claim_2 3 rfl) fl_X10_90 rfl (km hn rfl) ?_
                                refine r_iload C 2 (dk oX10_claim_2 4 rfl) rfl ?_
                                refine r_iald C _ (dk oX10_claim_2 5 rfl) rfl (km hn rfl) rfl (by omega) (by decide) ?_
                                rw [hFc 143 (by decide), up2_ne (by decide), up2_ne (by decide), up2_ne (by decide), hq0.2.2.2 k_ hb203]
                                refine r_iast C _ (dk oX10_claim_2 6 rfl) rfl (km hn rfl) rfl (by omega) (by decide) ?_
                                refine r_iinc (lo' := [(4, _), (0, _), (3, _)]) C 2 (dk oX10_claim_2 7 rfl) rfl (by first | exact nI_inc _ | rfl) (by decide) rfl ?_
                                refine r_goto (tgt := 197) C (dk oX10_claim_2 8 rfl) (by decide) ?_
                                refine V.sub [1, 2, 0] rfl ?_
                                refine ih (k_ + 1) _ (by omega) (by omega) (fun q hq => by rw [up2_ne hq]; exact hFc q hq) (fun j => ?_)
                                by_cases e : j = 120 * (sCl τ).1 + k_
                                · rw [e, up2_at, if_pos (by omega), show 120 * (sCl τ).1 + k_ - 120 * (sCl τ).1 = k_ by omega]
                                · rw [up2_off e, hcp j]
                                  by_cases e2 : 120 * (sCl τ).1 ≤ j ∧ j < 120 * (sCl τ).1 + k_
                                  · rw [if_pos e2, if_pos (by omega)]
                                  · rw [if_neg e2, if_neg (by omega)]
                          refine V.sub [4, 1, 0] rfl ?_
                          exact L197 (Cc.length + 1) 0 _ (by omega) (Nat.zero_le _) (fun _ _ => rfl) (fun j => (if_neg (by omega)).symm)
                  · rw [show (0 : Int32) = nI 0 from rfl, nI_leI (by omega) (by omega)] at hb150
                    have hf0 : ¬ fn = 0 := by omega
                    refine r_bipush C (dk oX10_claim_1 23 rfl) (v := -10) (by decide) ?_
                    refine r_aload_n C 2 (dk oX10_claim_1 24 rfl) rfl ?_
                    refine r_getI C (dk oX10_claim_1 25 rfl) fl_X10_145 rfl (km hn rfl) ?_
                    rw [up2_off (by decide), h29e]
                    refine r_isub C (dk oX10_claim_1 26 rfl) ?_
                    refine hret (dk oX10_claim_1 27 rfl) rfl ?_
                    exact ⟨rdS τ fn pl, (by unfold q_claim; rw [if_neg (by omega), if_neg (by omega)]; exact ⟨fn, pl, Cc, hPR, by rw [if_neg hf0]; exact ⟨rfl, rfl⟩⟩), hMr, fun k hk => by rw [up2_ne (by omega), hmE.1 k (by omega) (by omega) (by omega)]; exact hF1 k hk, rfl⟩
        · rw [b32_n, decide_eq_true_eq] at hb86
          have hb86 := want_1 (by decide) hb86
          have hI83 := want_f hW83 hb86
          subst hI83
          have hs3L : (sk (sT τ) (sL τ) 0) + 3 ≤ sL τ := by
            rcases hb86 with h | h
            · exact isW_lt (w := sWd 0) hs0L h
            · exact isW_lt (w := sWd 1) hs0L h
          refine r_aload_n C 1 (dk oX10_claim_0 49 rfl) rfl ?_
          refine r_iconst C (dk oX10_claim_0 50 rfl) (v := nI 1) (by decide) ?_
          refine r_sipush C (dk oX10_claim_0 51 rfl) (v := nI 999) (by decide) ?_
          refine r_ivi C Z (dk oX10_claim_0 52 rfl) cl_X10_204 ci_X10_takeNumber rfl (km hn rfl) (c_X10_takeNumber hn I83 J (sT τ) (sL τ) (hTB.tk hfa) ((sk (sT τ) (sL τ) 0) + 3) (by rw [h26a, cPw hb86]) hs3L ((hfa.2 29 (by decide) (by decide) (by decide)).trans hB29) 1 999 (by decide) (by decide)) rfl rfl (Nat.le_of_ble_eq_true rfl) ⟨Nat.le_of_ble_eq_true rfl, Nat.le_of_ble_eq_true rfl⟩ ⟨Nat.zero_le _, Nat.zero_le _⟩ (fun r94 I94 J94 h94 => ?_)
          obtain ⟨hn1, hn2, hn3, hn4, hn5, hnf, e2_⟩ := h94
          rw [show sk (sT τ) (sL τ) ((sk (sT τ) (sL τ) 0) + 3) = (cP1 (sT τ) (sL τ)) from rfl] at hn1 hn2 hn3 hn4
          have e2_ := e2_.symm
          subst e2_
          have hP1L : (cP1 (sT τ) (sL τ)) ≤ sL τ := sk_le hs3L
          have hT94 : MTx I94 (sT τ) (sL τ) := (hTB.tk hfa).of (hnf.2 25 (by decide) (by decide) (by decide) (by decide)) (hnf.1 141 (by decide))
          refine r_goto (tgt := 101) C (dk oX10_claim_0 53 rfl) (by decide) ?_
          refine r_istore_n (lo' := [(2, _), (1, _), (0, _)]) C (dk oX10_claim_0 55 rfl) rfl (by decide) rfl ?_
          refine r_aload_n C 2 (dk oX10_claim_0 56 rfl) rfl ?_
          refine r_getI C (dk oX10_claim_0 57 rfl) fl_X10_145 rfl (km hn rfl) ?_
          first
            | rw [hn1]
            | rw [up2_off (by decide), up2_at]
          refine r_if_ne (tgt := 141) C (dk oX10_claim_0 58 rfl) (by decide) (fun hb106 => ?_) (fun hb106 => ?_)
          · first
              | (fail)
              | have hz106 : ¬ (nmF (sT τ) (sL τ) (cP1 (sT τ) (sL τ)) 1 999) = 0 := by
                  have := @nmF_lt (sT τ) (sL τ) (cP1 (sT τ) (sL τ)) 1 999
                  rw [nI_eq0 (by omega)] at hb106
                  exact hb106
                obtain ⟨Ie, hIe⟩ : ∃ X, X = I94 := ⟨_, rfl⟩
                have hE : ∃ fn pl Cc, clE τ I1 (I94) fn pl Cc ∧ fn ≠ 0 := ⟨(nmF (sT τ) (sL τ) (cP1 (sT τ) (sL τ)) 1 999), (cP1 (sT τ) (sL τ)), [], ⟨PR_2 hb86 hz106, (hBm.tr hfa.X.m).tr hnf.X.m, hn1, by rw [hn2, if_neg hz106, if_neg hz106], fun e => absurd e hz106⟩, hz106⟩
                rw [← hIe] at hE
                rw [← hIe]
                clear hIe
                obtain ⟨fn, pl, Cc, hE1, hne0⟩ := hE
                obtain ⟨hPR, hmE, h29e, h30e, hqE⟩ := hE1
                have hfn := hPR.1
                have hMr := hMM1.rc (f := fn) (pl := pl) hmE h30e
                refine r_aload_n C 2 (dk oX10_claim_1 17 rfl) rfl ?_
                refine r_iconst C (dk oX10_claim_1 18 rfl) (v := nI 0) (by decide) ?_
                refine r_putI C (dk oX10_claim_1 19 rfl) fl_X10_136 ft_10_25 rfl (km hn rfl) ?_
                refine r_aload_n C 2 (dk oX10_claim_1 20 rfl) rfl ?_
                refine r_getI C (dk oX10_claim_1 21 rfl) fl_X10_145 rfl (km hn rfl) ?_
                rw [up2_off (by decide), h29e]
                refine r_if_le (tgt := 161) C (dk oX10_claim_1 22 rfl) (by decide) (fun hb150 => ?_) (fun hb150 => ?_)
                · first
                    | (exfalso; rw [show (0 : Int32) = nI 0 from rfl, nI_leI (by omega) (by omega)] at hb150; omega)
                    | rw [show (0 : Int32) = nI 0 from rfl, nI_leI (by omega) (by omega)] at hb150
                      have hf0 : fn = 0 := by omega
                      subst hf0
                      have hq0 := hqE rfl
                      have hPRok := hPR.ok hL12
                      have hlen : Cc.length ≤ 120 := hPRok.1.1
                      refine r_aload_n C 2 (dk oX10_claim_1 28 rfl) rfl ?_
                      refine r_getR C (dk oX10_claim_1 29 rfl) fl_X10_7 rfl (km hn rfl) ?_
                      refine r_iconst C (dk oX10_claim_1 30 rfl) (v := nI 0) (by decide) ?_
                      refine r_iald C 0 (dk oX10_claim_1 31 rfl) rfl (km hn rfl) rfl (by decide) (by decide) ?_
                      rw [show up2 Ie 117 25 (nI 0) 118 0 = nI (sCl τ).1 from hMr.c0.2.1]
                      refine r_istore_n (lo' := [(3, _), (2, _), (1, _), (0, _)]) C (dk oX10_claim_1 32 rfl) rfl (by decide) rfl ?_
                      refine r_aload_n C 3 (dk oX10_claim_1 33 rfl) rfl ?_
                      refine r_getR C (dk oX10_claim_1 34 rfl) fl_X10_13 rfl (km hn rfl) ?_
                      refine r_iload_n C 0 (dk oX10_claim_1 35 rfl) rfl ?_
                      refine r_iload_n C 2 (dk oX10_claim_1 36 rfl) rfl ?_
                      refine r_if_eq (tgt := 182) C (dk oX10_claim_1 37 rfl) (by decide) (fun hb174 => ?_) (fun hb174 => ?_)
                      · rw [b32_0] at hb174
                        refine r_iload_n C 1 (dk oX10_claim_1 41 rfl) rfl ?_
                        refine r_topI (show nI (nmV (sT τ) (sL τ) (cP1 (sT τ) (sL τ))) = cCo (sT τ) (sL τ) from by unfold cCo; rw [hb174, if_neg (by decide)]) ?_
                        refine r_iast C _ (dk oX10_claim_1 42 rfl) rfl (km hn rfl) rfl (by omega) (by decide) ?_
                        refine r_aload_n C 3 (dk oX10_claim_1 43 rfl) rfl ?_
                        refine r_getR C (dk oX10_claim_1 44 rfl) fl_X10_19 rfl (km hn rfl) ?_
                        refine r_iload_n C 0 (dk oX10_claim_1 45 rfl) rfl ?_
                        refine r_aload_n C 3 (dk oX10_claim_1 46 rfl) rfl ?_
                        refine r_getI C (dk oX10_claim_1 47 rfl) fl_X10_178 rfl (km hn rfl) ?_
                        rw [up2_ne (by decide), up2_off (by decide), hq0.2.2.1]
                        refine r_iast C _ (dk oX10_claim_1 48 rfl) rfl (km hn rfl) rfl (by omega) (by decide) ?_
                        refine r_iconst C (dk oX10_claim_1 49 rfl) (v := nI 0) (by decide) ?_
                        refine r_istore (lo' := [(4, _), (3, _), (2, _), (1, _), (0, _)]) C (dk oX10_claim_1 50 rfl) (by decide) rfl ?_
                        have L197 : ∀ (d_ : Nat) (k_ : Nat) (I3 : MI), Cc.length - k_ < d_ → k_ ≤ Cc.length → (∀ q, q ≠ 120 → I3 q = (up2 (up2 (up2 Ie 117 25 (nI 0)) 119 (sCl τ).1 (cCo (sT τ) (sL τ))) 121 (sCl τ).1 (nI Cc.length)) q) → (∀ j, I3 120 j = if 120 * (sCl τ).1 ≤ j ∧ j < 120 * (sCl τ).1 + k_ then nI (enc (Cc.getD (j - 120 * (sCl τ).1) 0)) else (up2 (up2 (up2 Ie 117 25 (nI 0)) 119 (sCl τ).1 (cCo (sT τ) (sL τ))) 121 (sCl τ).1 (nI Cc.length)) 120 j) → V p l e (rmL 5) s m args below meth c Q D A 5 0 0 n ad (mE cA ad I3 J) 197 [(0, .ref (ad 117)), (3, .int (nI (sCl τ).1)), (4, .int (nI k_))] [] := by
                          intro d_
                          induction d_ with
                          | zero => intros; exact absurd (by assumption) (Nat.not_lt_zero _)
                          | succ d_ ih => 
                            intro k_ I3 hd_ hk hFc hcp
                            refine r_iload C 2 (dk oX10_claim_1 51 rfl) rfl ?_
                            refine r_aload_n C 0 (dk oX10_claim_1 52 rfl) rfl ?_
                            refine r_getI C (dk oX10_claim_1 53 rfl) fl_X10_178 rfl (km hn rfl) ?_
                            rw [hFc 117 (by decide), up2_ne (by decide), up2_ne (by decide), up2_off (by decide), hq0.2.2.1]
                            refine r_icmp_ge (tgt := 231) C (dk oX10_claim_1 54 rfl) (by decide) (fun hb203 => ?_) (fun hb203 => ?_)
                            · simp (disch := omega) only [nI_leI, nI_ltI, nI_eq, nI_eq0] at hb203
                              refine r_aload_n C 0 (dk oX10_claim_2 9 rfl) rfl ?_
                              refine r_getR C (dk oX10_claim_2 10 rfl) fl_X10_7 rfl (km hn rfl) ?_
                              refine r_iconst C (dk oX10_claim_2 11 rfl) (v := nI 0) (by decide) ?_
                              refine r_dup2 C (dk oX10_claim_2 12 rfl) rfl rfl ?_
                              refine r_iald C 0 (dk oX10_claim_2 13 rfl) rfl (km hn rfl) rfl (by decide) (by decide) ?_
                              rw [hFc 118 (by decide), up2_ne (by decide), up2_ne (by decide), show up2 Ie 117 25 (nI 0) 118 0 = nI (sCl τ).1 from hMr.c0.2.1]
                              refine r_iconst C (dk oX10_claim_2 14 rfl) (v := nI 1) (by decide) ?_
                              refine r_iadd C (dk oX10_claim_2 15 rfl) ?_
                              rw [nI_add]
                              refine r_iast C 0 (dk oX10_claim_2 16 rfl) rfl (km hn rfl) rfl (by decide) (by decide) ?_
                              refine r_iload_n C 1 (dk oX10_claim_2 17 rfl) rfl ?_
                              refine hret (dk oX10_claim_2 18 rfl) rfl ?_
                              refine ⟨stC (rdS τ 0 pl) (adC (sCl τ) (cCo (sT τ) (sL τ)) Cc), (by unfold q_claim; rw [if_neg (by omega), if_neg (by omega)]; exact ⟨0, pl, Cc, hPR, by rw [if_pos rfl]; exact ⟨rfl, rfl⟩⟩), MM.cl (τ := rdS τ 0 pl) (x := cCo (sT τ) (sL τ)) (C := Cc) hMr (by show (sCl τ).1 < 6; omega) hPRok.2 hPRok.1 (fun k hk => ?_) ?_ ?_ ?_ (fun j => ?_), fun k hk => ?_, rfl⟩
                              · rw [up2_ne (by omega), hFc k (by omega), up2_ne (by omega), up2_ne (by omega)]
                              · funext j
                                rw [up2_eq]
                                show (if j = 0 then _ else I3 118 j) = _
                                rw [hFc 118 (by decide), up2_ne (by decide), up2_ne (by decide)]
                                rfl
                              · rw [up2_ne (by decide), hFc 119 (by decide), up2_ne (by decide), up2_eq]
                                rfl
                              · rw [up2_ne (by decide), hFc 121 (by decide), up2_eq]
                                funext j
                                show (if j = (sCl τ).1 then _ else _) = _
                                rw [up2_ne (by decide)]
                                rfl
                              · rw [up2_ne (by decide), hcp j, show k_ = Cc.length by omega, up2_ne (by decide), up2_ne (by decide)]
                                rfl
                              · rw [up2_ne (by omega), hFc k (by omega), up2_ne (by omega), up2_ne (by omega), up2_ne (by omega), hmE.1 k (by omega) (by omega) (by omega)]
                                exact hF1 k hk
                            · simp (disch := omega) only [nI_leI, nI_ltI, nI_eq, nI_eq0] at hb203
                              have hb203 : k_ < Cc.length := by omega
                              refine r_aload_n C 0 (dk oX10_claim_1 55 rfl) rfl ?_
                              refine r_getR C (dk oX10_claim_1 56 rfl) fl_X10_16 rfl (km hn rfl) ?_
                              refine r_bipush C (dk oX10_claim_1 57 rfl) (v := nI 120) (by decide) ?_
                              refine r_iload_n C 1 (dk oX10_claim_1 58 rfl) rfl ?_
                              refine r_imul C (dk oX10_claim_1 59 rfl) ?_
                              rw [pk_mul]
                              refine r_iload C 2 (dk oX10_claim_2 0 rfl) rfl ?_
                              refine r_iadd C (dk oX10_claim_2 1 rfl) ?_
                              rw [nI_add]
                              refine r_aload_n C 0 (dk oX10_claim_2 2 rfl) rfl ?_
                              refine r_getR C (dk oX10_claim_2 3 rfl) fl_X10_90 rfl (km hn rfl) ?_
                              refine r_iload C 2 (dk oX10_claim_2 4 rfl) rfl ?_
                              refine r_iald C _ (dk oX10_claim_2 5 rfl) rfl (km hn rfl) rfl (by omega) (by decide) ?_
                              rw [hFc 143 (by decide), up2_ne (by decide), up2_ne (by decide), up2_ne (by decide), hq0.2.2.2 k_ hb203]
                              refine r_iast C _ (dk oX10_claim_2 6 rfl) rfl (km hn rfl) rfl (by omega) (by decide) ?_
                              refine r_iinc (lo' := [(4, _), (0, _), (3, _)]) C 2 (dk oX10_claim_2 7 rfl) rfl (by first | exact nI_inc _ | rfl) (by decide) rfl ?_
                              refine r_goto (tgt := 197) C (dk oX10_claim_2 8 rfl) (by decide) ?_
                              refine V.sub [1, 2, 0] rfl ?_
                              refine ih (k_ + 1) _ (by omega) (by omega) (fun q hq => by rw [up2_ne hq]; exact hFc q hq) (fun j => ?_)
                              by_cases e : j = 120 * (sCl τ).1 + k_
                              · rw [e, up2_at, if_pos (by omega), show 120 * (sCl τ).1 + k_ - 120 * (sCl τ).1 = k_ by omega]
                              · rw [up2_off e, hcp j]
                                by_cases e2 : 120 * (sCl τ).1 ≤ j ∧ j < 120 * (sCl τ).1 + k_
                                · rw [if_pos e2, if_pos (by omega)]
                                · rw [if_neg e2, if_neg (by omega)]
                        refine V.sub [4, 1, 0] rfl ?_
                        exact L197 (Cc.length + 1) 0 _ (by omega) (Nat.zero_le _) (fun _ _ => rfl) (fun j => (if_neg (by omega)).symm)
                      · rw [b32_n] at hb174
                        refine r_iload_n C 1 (dk oX10_claim_1 38 rfl) rfl ?_
                        refine r_ineg C (dk oX10_claim_1 39 rfl) ?_
                        refine r_topI (show -(nI (nmV (sT τ) (sL τ) (cP1 (sT τ) (sL τ)))) = cCo (sT τ) (sL τ) from by unfold cCo; rw [hb174, if_pos rfl]) ?_
                        refine r_goto (tgt := 183) C (dk oX10_claim_1 40 rfl) (by decide) ?_
                        refine r_iast C _ (dk oX10_claim_1 42 rfl) rfl (km hn rfl) rfl (by omega) (by decide) ?_
                        refine r_aload_n C 3 (dk oX10_claim_1 43 rfl) rfl ?_
                        refine r_getR C (dk oX10_claim_1 44 rfl) fl_X10_19 rfl (km hn rfl) ?_
                        refine r_iload_n C 0 (dk oX10_claim_1 45 rfl) rfl ?_
                        refine r_aload_n C 3 (dk oX10_claim_1 46 rfl) rfl ?_
                        refine r_getI C (dk oX10_claim_1 47 rfl) fl_X10_178 rfl (km hn rfl) ?_
                        rw [up2_ne (by decide), up2_off (by decide), hq0.2.2.1]
                        refine r_iast C _ (dk oX10_claim_1 48 rfl) rfl (km hn rfl) rfl (by omega) (by decide) ?_
                        refine r_iconst C (dk oX10_claim_1 49 rfl) (v := nI 0) (by decide) ?_
                        refine r_istore (lo' := [(4, _), (3, _), (2, _), (1, _), (0, _)]) C (dk oX10_claim_1 50 rfl) (by decide) rfl ?_
                        have L197 : ∀ (d_ : Nat) (k_ : Nat) (I3 : MI), Cc.length - k_ < d_ → k_ ≤ Cc.length → (∀ q, q ≠ 120 → I3 q = (up2 (up2 (up2 Ie 117 25 (nI 0)) 119 (sCl τ).1 (cCo (sT τ) (sL τ))) 121 (sCl τ).1 (nI Cc.length)) q) → (∀ j, I3 120 j = if 120 * (sCl τ).1 ≤ j ∧ j < 120 * (sCl τ).1 + k_ then nI (enc (Cc.getD (j - 120 * (sCl τ).1) 0)) else (up2 (up2 (up2 Ie 117 25 (nI 0)) 119 (sCl τ).1 (cCo (sT τ) (sL τ))) 121 (sCl τ).1 (nI Cc.length)) 120 j) → V p l e (rmL 5) s m args below meth c Q D A 5 0 0 n ad (mE cA ad I3 J) 197 [(0, .ref (ad 117)), (3, .int (nI (sCl τ).1)), (4, .int (nI k_))] [] := by
                          intro d_
                          induction d_ with
                          | zero => intros; exact absurd (by assumption) (Nat.not_lt_zero _)
                          | succ d_ ih => 
                            intro k_ I3 hd_ hk hFc hcp
                            refine r_iload C 2 (dk oX10_claim_1 51 rfl) rfl ?_
                            refine r_aload_n C 0 (dk oX10_claim_1 52 rfl) rfl ?_
                            refine r_getI C (dk oX10_claim_1 53 rfl) fl_X10_178 rfl (km hn rfl) ?_
                            rw [hFc 117 (by decide), up2_ne (by decide), up2_ne (by decide), up2_off (by decide), hq0.2.2.1]
                            refine r_icmp_ge (tgt := 231) C (dk oX10_claim_1 54 rfl) (by decide) (fun hb203 => ?_) (fun hb203 => ?_)
                            · simp (disch := omega) only [nI_leI, nI_ltI, nI_eq, nI_eq0] at hb203
                              refine r_aload_n C 0 (dk oX10_claim_2 9 rfl) rfl ?_
                              refine r_getR C (dk oX10_claim_2 10 rfl) fl_X10_7 rfl (km hn rfl) ?_
                              refine r_iconst C (dk oX10_claim_2 11 rfl) (v := nI 0) (by decide) ?_
                              refine r_dup2 C (dk oX10_claim_2 12 rfl) rfl rfl ?_
                              refine r_iald C 0 (dk oX10_claim_2 13 rfl) rfl (km hn rfl) rfl (by decide) (by decide) ?_
                              rw [hFc 118 (by decide), up2_ne (by decide), up2_ne (by decide), show up2 Ie 117 25 (nI 0) 118 0 = nI (sCl τ).1 from hMr.c0.2.1]
                              refine r_iconst C (dk oX10_claim_2 14 rfl) (v := nI 1) (by decide) ?_
                              refine r_iadd C (dk oX10_claim_2 15 rfl) ?_
                              rw [nI_add]
                              refine r_iast C 0 (dk oX10_claim_2 16 rfl) rfl (km hn rfl) rfl (by decide) (by decide) ?_
                              refine r_iload_n C 1 (dk oX10_claim_2 17 rfl) rfl ?_
                              refine hret (dk oX10_claim_2 18 rfl) rfl ?_
                              refine ⟨stC (rdS τ 0 pl) (adC (sCl τ) (cCo (sT τ) (sL τ)) Cc), (by unfold q_claim; rw [if_neg (by omega), if_neg (by omega)]; exact ⟨0, pl, Cc, hPR, by rw [if_pos rfl]; exact ⟨rfl, rfl⟩⟩), MM.cl (τ := rdS τ 0 pl) (x := cCo (sT τ) (sL τ)) (C := Cc) hMr (by show (sCl τ).1 < 6; omega) hPRok.2 hPRok.1 (fun k hk => ?_) ?_ ?_ ?_ (fun j => ?_), fun k hk => ?_, rfl⟩
                              · rw [up2_ne (by omega), hFc k (by omega), up2_ne (by omega), up2_ne (by omega)]
                              · funext j
                                rw [up2_eq]
                                show (if j = 0 then _ else I3 118 j) = _
                                rw [hFc 118 (by decide), up2_ne (by decide), up2_ne (by decide)]
                                rfl
                              · rw [up2_ne (by decide), hFc 119 (by decide), up2_ne (by decide), up2_eq]
                                rfl
                              · rw [up2_ne (by decide), hFc 121 (by decide), up2_eq]
                                funext j
                                show (if j = (sCl τ).1 then _ else _) = _
                                rw [up2_ne (by decide)]
                                rfl
                              · rw [up2_ne (by decide), hcp j, show k_ = Cc.length by omega, up2_ne (by decide), up2_ne (by decide)]
                                rfl
                              · rw [up2_ne (by omega), hFc k (by omega), up2_ne (by omega), up2_ne (by omega), up2_ne (by omega), hmE.1 k (by omega) (by omega) (by omega)]
                                exact hF1 k hk
                            · simp (disch := omega) only [nI_leI, nI_ltI, nI_eq, nI_eq0] at hb203
                              have hb203 : k_ < Cc.length := by omega
                              refine r_aload_n C 0 (dk oX10_claim_1 55 rfl) rfl ?_
                              refine r_getR C (dk oX10_claim_1 56 rfl) fl_X10_16 rfl (km hn rfl) ?_
                              refine r_bipush C (dk oX10_claim_1 57 rfl) (v := nI 120) (by decide) ?_
                              refine r_iload_n C 1 (dk oX10_claim_1 58 rfl) rfl ?_
                              refine r_imul C (dk oX10_claim_1 59 rfl) ?_
                              rw [pk_mul]
                              refine r_iload C 2 (dk oX10_claim_2 0 rfl) rfl ?_
                              refine r_iadd C (dk oX10_claim_2 1 rfl) ?_
                              rw [nI_add]
                              refine r_aload_n C 0 (dk oX10_claim_2 2 rfl) rfl ?_
                              refine r_getR C (dk oX10_claim_2 3 rfl) fl_X10_90 rfl (km hn rfl) ?_
                              refine r_iload C 2 (dk oX10_claim_2 4 rfl) rfl ?_
                              refine r_iald C _ (dk oX10_claim_2 5 rfl) rfl (km hn rfl) rfl (by omega) (by decide) ?_
                              rw [hFc 143 (by decide), up2_ne (by decide), up2_ne (by decide), up2_ne (by decide), hq0.2.2.2 k_ hb203]
                              refine r_iast C _ (dk oX10_claim_2 6 rfl) rfl (km hn rfl) rfl (by omega) (by decide) ?_
                              refine r_iinc (lo' := [(4, _), (0, _), (3, _)]) C 2 (dk oX10_claim_2 7 rfl) rfl (by first | exact nI_inc _ | rfl) (by decide) rfl ?_
                              refine r_goto (tgt := 197) C (dk oX10_claim_2 8 rfl) (by decide) ?_
                              refine V.sub [1, 2, 0] rfl ?_
                              refine ih (k_ + 1) _ (by omega) (by omega) (fun q hq => by rw [up2_ne hq]; exact hFc q hq) (fun j => ?_)
                              by_cases e : j = 120 * (sCl τ).1 + k_
                              · rw [e, up2_at, if_pos (by omega), show 120 * (sCl τ).1 + k_ - 120 * (sCl τ).1 = k_ by omega]
                              · rw [up2_off e, hcp j]
                                by_cases e2 : 120 * (sCl τ).1 ≤ j ∧ j < 120 * (sCl τ).1 + k_
                                · rw [if_pos e2, if_pos (by omega)]
                                · rw [if_neg e2, if_neg (by omega)]
                        refine V.sub [4, 1, 0] rfl ?_
                        exact L197 (Cc.length + 1) 0 _ (by omega) (Nat.zero_le _) (fun _ _ => rfl) (fun j => (if_neg (by omega)).symm)
                · rw [show (0 : Int32) = nI 0 from rfl, nI_leI (by omega) (by omega)] at hb150
                  have hf0 : ¬ fn = 0 := by omega
                  refine r_bipush C (dk oX10_claim_1 23 rfl) (v := -10) (by decide) ?_
                  refine r_aload_n C 2 (dk oX10_claim_1 24 rfl) rfl ?_
                  refine r_getI C (dk oX10_claim_1 25 rfl) fl_X10_145 rfl (km hn rfl) ?_
                  rw [up2_off (by decide), h29e]
                  refine r_isub C (dk oX10_claim_1 26 rfl) ?_
                  refine hret (dk oX10_claim_1 27 rfl) rfl ?_
                  exact ⟨rdS τ fn pl, (by unfold q_claim; rw [if_neg (by omega), if_neg (by omega)]; exact ⟨fn, pl, Cc, hPR, by rw [if_neg hf0]; exact ⟨rfl, rfl⟩⟩), hMr, fun k hk => by rw [up2_ne (by omega), hmE.1 k (by omega) (by omega) (by omega)]; exact hF1 k hk, rfl⟩
          · first
              | (exact absurd hb106 (by decide))
              | have hz106 : (nmF (sT τ) (sL τ) (cP1 (sT τ) (sL τ)) 1 999) = 0 := by
                  have := @nmF_lt (sT τ) (sL τ) (cP1 (sT τ) (sL τ)) 1 999
                  rw [nI_eq0 (by omega)] at hb106
                  exact hb106
                obtain ⟨hrv, h26v⟩ := hn4 hz106
                have hrv := hrv.symm
                subst hrv
                refine r_aload_n C 2 (dk oX10_claim_0 59 rfl) rfl ?_
                refine r_ivv C Z (dk oX10_claim_1 0 rfl) cl_X10_162 ci_X10_takeWord rfl (km hn rfl) (c_X10_takeWord hn I94 J (sT τ) (sL τ) hT94 (nE (sT τ) (sL τ) (cP1 (sT τ) (sL τ))) h26v (nE_le hP1L)) rfl rfl (Nat.le_of_ble_eq_true rfl) ⟨Nat.le_of_ble_eq_true rfl, Nat.le_of_ble_eq_true rfl⟩ ⟨Nat.zero_le _, Nat.zero_le _⟩ (fun I110 J110 h110 => ?_)
                obtain ⟨h26b, h27b, h28b, hfb, e2_⟩ := h110
                rw [show sk (sT τ) (sL τ) (nE (sT τ) (sL τ) (cP1 (sT τ) (sL τ))) = (cP2 (sT τ) (sL τ)) from rfl] at h26b h27b h28b
                have e2_ := e2_.symm
                subst e2_
                have hP2L : (cP2 (sT τ) (sL τ)) ≤ sL τ := sk_le (nE_le hP1L)
                refine r_aload_n C 2 (dk oX10_claim_1 1 rfl) rfl ?_
                refine r_aload_n C 2 (dk oX10_claim_1 2 rfl) rfl ?_
                refine r_iconst C (dk oX10_claim_1 3 rfl) (v := nI 2) (by decide) ?_
                refine r_bipush C (dk oX10_claim_1 4 rfl) (v := nI 105) (by decide) ?_
                refine r_bipush C (dk oX10_claim_1 5 rfl) (v := nI 102) (by decide) ?_
                refine r_iconst C (dk oX10_claim_1 6 rfl) (v := nI 0) (by decide) ?_
                refine r_iconst C (dk oX10_claim_1 7 rfl) (v := nI 0) (by decide) ?_
                refine r_iconst C (dk oX10_claim_1 8 rfl) (v := nI 0) (by decide) ?_
                refine r_ivi C Z (dk oX10_claim_1 9 rfl) cl_X10_165 ci_X10_isWord rfl (km hn rfl) (c_X10_isWord hn I110 J (sT τ) (sL τ) (hT94.tk hfb) (cP2 (sT τ) (sL τ)) h27b hP2L h28b 2 105 102 0 0 0 (by decide) (by decide) (sWd 2) (by decide)) rfl rfl (Nat.le_of_ble_eq_true rfl) ⟨Nat.le_of_ble_eq_true rfl, Nat.le_of_ble_eq_true rfl⟩ ⟨Nat.zero_le _, Nat.zero_le _⟩ (fun r123 I123 J123 h123 => ?_)
                obtain ⟨h123, e1_, e2_⟩ := h123
                have e1_ := e1_.symm
                have e2_ := e2_.symm
                subst e1_
                subst e2_
                subst h123
                refine r_topI (show b32 (isW (sT τ) (sL τ) (cP2 (sT τ) (sL τ)) (sWd 2)) = b32 (decide (isW (sT τ) (sL τ) (cP2 (sT τ) (sL τ)) (sWd 2) = true)) from by cases isW (sT τ) (sL τ) (cP2 (sT τ) (sL τ)) (sWd 2) <;> rfl) ?_
                refine r_iconst C (dk oX10_claim_1 10 rfl) (v := nI 1) (by decide) ?_
                refine r_aload_n C 2 (dk oX10_claim_1 11 rfl) rfl ?_
                refine r_getI C (dk oX10_claim_1 12 rfl) fl_X10_152 rfl (km hn rfl) ?_
                rw [h27b]
                refine r_ivi C Z (dk oX10_claim_1 13 rfl) cl_X10_173 ci_X10_want rfl (km hn rfl) (c_X10_want hn I110 J (decide (isW (sT τ) (sL τ) (cP2 (sT τ) (sL τ)) (sWd 2) = true)) (nI 1) (nI (cP2 (sT τ) (sL τ))) (nI 0) ((hfb.2 29 (by decide) (by decide) (by decide)).trans (by rw [hn1, hz106]))) rfl rfl (Nat.le_of_ble_eq_true rfl) ⟨Nat.le_of_ble_eq_true rfl, Nat.le_of_ble_eq_true rfl⟩ ⟨Nat.zero_le _, Nat.zero_le _⟩ (fun r131 I131 J131 h131 => ?_)
                obtain ⟨e1_, hW131, e2_⟩ := h131
                have e1_ := e1_.symm
                have e2_ := e2_.symm
                subst e1_
                subst e2_
                refine r_if_eq (tgt := 141) C (dk oX10_claim_1 14 rfl) (by decide) (fun hb134 => ?_) (fun hb134 => ?_)
                · rw [b32_0, decide_eq_false_iff_not] at hb134
                  have hb134 := want_0 hb134
                  have hI131 := want_t hW131 hb134
                  subst hI131
                  obtain ⟨Ie, hIe⟩ : ∃ X, X = up2 (up2 I110 117 29 (nI 1)) 117 30 (nI (cP2 (sT τ) (sL τ))) := ⟨_, rfl⟩
                  have hE : ∃ fn pl Cc, clE τ I1 (up2 (up2 I110 117 29 (nI 1)) 117 30 (nI (cP2 (sT τ) (sL τ)))) fn pl Cc ∧ fn ≠ 0 := ⟨1, (cP2 (sT τ) (sL τ)), [], ⟨PR_3 hb86 hz106 hb134, ((hBm.tr (hfa.X.m.tr (hnf.X.m.tr hfb.X.m))).up 29 _ (by decide)).up 30 _ (by decide), by rw [up2_off (by decide), up2_at], by rw [up2_at, if_neg (by decide)], fun e => absurd e (by decide)⟩, by decide⟩
                  rw [← hIe] at hE
                  rw [← hIe]
                  clear hIe
                  obtain ⟨fn, pl, Cc, hE1, hne0⟩ := hE
                  obtain ⟨hPR, hmE, h29e, h30e, hqE⟩ := hE1
                  have hfn := hPR.1
                  have hMr := hMM1.rc (f := fn) (pl := pl) hmE h30e
                  refine r_aload_n C 2 (dk oX10_claim_1 17 rfl) rfl ?_
                  refine r_iconst C (dk oX10_claim_1 18 rfl) (v := nI 0) (by decide) ?_
                  refine r_putI C (dk oX10_claim_1 19 rfl) fl_X10_136 ft_10_25 rfl (km hn rfl) ?_
                  refine r_aload_n C 2 (dk oX10_claim_1 20 rfl) rfl ?_
                  refine r_getI C (dk oX10_claim_1 21 rfl) fl_X10_145 rfl (km hn rfl) ?_
                  rw [up2_off (by decide), h29e]
                  refine r_if_le (tgt := 161) C (dk oX10_claim_1 22 rfl) (by decide) (fun hb150 => ?_) (fun hb150 => ?_)
                  · first
                      | (exfalso; rw [show (0 : Int32) = nI 0 from rfl, nI_leI (by omega) (by omega)] at hb150; omega)
                      | rw [show (0 : Int32) = nI 0 from rfl, nI_leI (by omega) (by omega)] at hb150
                        have hf0 : fn = 0 := by omega
                        subst hf0
                        have hq0 := hqE rfl
                        have hPRok := hPR.ok hL12
                        have hlen : Cc.length ≤ 120 := hPRok.1.1
                        refine r_aload_n C 2 (dk oX10_claim_1 28 rfl) rfl ?_
                        refine r_getR C (dk oX10_claim_1 29 rfl) fl_X10_7 rfl (km hn rfl) ?_
                        refine r_iconst C (dk oX10_claim_1 30 rfl) (v := nI 0) (by decide) ?_
                        refine r_iald C 0 (dk oX10_claim_1 31 rfl) rfl (km hn rfl) rfl (by decide) (by decide) ?_
                        rw [show up2 Ie 117 25 (nI 0) 118 0 = nI (sCl τ).1 from hMr.c0.2.1]
                        refine r_istore_n (lo' := [(3, _), (2, _), (1, _), (0, _)]) C (dk oX10_claim_1 32 rfl) rfl (by decide) rfl ?_
                        refine r_aload_n C 3 (dk oX10_claim_1 33 rfl) rfl ?_
                        refine r_getR C (dk oX10_claim_1 34 rfl) fl_X10_13 rfl (km hn rfl) ?_
                        refine r_iload_n C 0 (dk oX10_claim_1 35 rfl) rfl ?_
                        refine r_iload_n C 2 (dk oX10_claim_1 36 rfl) rfl ?_
                        refine r_if_eq (tgt := 182) C (dk oX10_claim_1 37 rfl) (by decide) (fun hb174 => ?_) (fun hb174 => ?_)
                        · rw [b32_0] at hb174
                          refine r_iload_n C 1 (dk oX10_claim_1 41 rfl) rfl ?_
                          refine r_topI (show nI (nmV (sT τ) (sL τ) (cP1 (sT τ) (sL τ))) = cCo (sT τ) (sL τ) from by unfold cCo; rw [hb174, if_neg (by decide)]) ?_
                          refine r_iast C _ (dk oX10_claim_1 42 rfl) rfl (km hn rfl) rfl (by omega) (by decide) ?_
                          refine r_aload_n C 3 (dk oX10_claim_1 43 rfl) rfl ?_
                          refine r_getR C (dk oX10_claim_1 44 rfl) fl_X10_19 rfl (km hn rfl) ?_
                          refine r_iload_n C 0 (dk oX10_claim_1 45 rfl) rfl ?_
                          refine r_aload_n C 3 (dk oX10_claim_1 46 rfl) rfl ?_
                          refine r_getI C (dk oX10_claim_1 47 rfl) fl_X10_178 rfl (km hn rfl) ?_
                          rw [up2_ne (by decide), up2_off (by decide), hq0.2.2.1]
                          refine r_iast C _ (dk oX10_claim_1 48 rfl) rfl (km hn rfl) rfl (by omega) (by decide) ?_
                          refine r_iconst C (dk oX10_claim_1 49 rfl) (v := nI 0) (by decide) ?_
                          refine r_istore (lo' := [(4, _), (3, _), (2, _), (1, _), (0, _)]) C (dk oX10_claim_1 50 rfl) (by decide) rfl ?_
                          have L197 : ∀ (d_ : Nat) (k_ : Nat) (I3 : MI), Cc.length - k_ < d_ → k_ ≤ Cc.length → (∀ q, q ≠ 120 → I3 q = (up2 (up2 (up2 Ie 117 25 (nI 0)) 119 (sCl τ).1 (cCo (sT τ) (sL τ))) 121 (sCl τ).1 (nI Cc.length)) q) → (∀ j, I3 120 j = if 120 * (sCl τ).1 ≤ j ∧ j < 120 * (sCl τ).1 + k_ then nI (enc (Cc.getD (j - 120 * (sCl τ).1) 0)) else (up2 (up2 (up2 Ie 117 25 (nI 0)) 119 (sCl τ).1 (cCo (sT τ) (sL τ))) 121 (sCl τ).1 (nI Cc.length)) 120 j) → V p l e (rmL 5) s m args below meth c Q D A 5 0 0 n ad (mE cA ad I3 J) 197 [(0, .ref (ad 117)), (3, .int (nI (sCl τ).1)), (4, .int (nI k_))] [] := by
                            intro d_
                            induction d_ with
                            | zero => intros; exact absurd (by assumption) (Nat.not_lt_zero _)
                            | succ d_ ih => 
                              intro k_ I3 hd_ hk hFc hcp
                              refine r_iload C 2 (dk oX10_claim_1 51 rfl) rfl ?_
                              refine r_aload_n C 0 (dk oX10_claim_1 52 rfl) rfl ?_
                              refine r_getI C (dk oX10_claim_1 53 rfl) fl_X10_178 rfl (km hn rfl) ?_
                              rw [hFc 117 (by decide), up2_ne (by decide), up2_ne (by decide), up2_off (by decide), hq0.2.2.1]
                              refine r_icmp_ge (tgt := 231) C (dk oX10_claim_1 54 rfl) (by decide) (fun hb203 => ?_) (fun hb203 => ?_)
                              · simp (disch := omega) only [nI_leI, nI_ltI, nI_eq, nI_eq0] at hb203
                                refine r_aload_n C 0 (dk oX10_claim_2 9 rfl) rfl ?_
                                refine r_getR C (dk oX10_claim_2 10 rfl) fl_X10_7 rfl (km hn rfl) ?_
                                refine r_iconst C (dk oX10_claim_2 11 rfl) (v := nI 0) (by decide) ?_
                                refine r_dup2 C (dk oX10_claim_2 12 rfl) rfl rfl ?_
                                refine r_iald C 0 (dk oX10_claim_2 13 rfl) rfl (km hn rfl) rfl (by decide) (by decide) ?_
                                rw [hFc 118 (by decide), up2_ne (by decide), up2_ne (by decide), show up2 Ie 117 25 (nI 0) 118 0 = nI (sCl τ).1 from hMr.c0.2.1]
                                refine r_iconst C (dk oX10_claim_2 14 rfl) (v := nI 1) (by decide) ?_
                                refine r_iadd C (dk oX10_claim_2 15 rfl) ?_
                                rw [nI_add]
                                refine r_iast C 0 (dk oX10_claim_2 16 rfl) rfl (km hn rfl) rfl (by decide) (by decide) ?_
                                refine r_iload_n C 1 (dk oX10_claim_2 17 rfl) rfl ?_
                                refine hret (dk oX10_claim_2 18 rfl) rfl ?_
                                refine ⟨stC (rdS τ 0 pl) (adC (sCl τ) (cCo (sT τ) (sL τ)) Cc), (by unfold q_claim; rw [if_neg (by omega), if_neg (by omega)]; exact ⟨0, pl, Cc, hPR, by rw [if_pos rfl]; exact ⟨rfl, rfl⟩⟩), MM.cl (τ := rdS τ 0 pl) (x := cCo (sT τ) (sL τ)) (C := Cc) hMr (by show (sCl τ).1 < 6; omega) hPRok.2 hPRok.1 (fun k hk => ?_) ?_ ?_ ?_ (fun j => ?_), fun k hk => ?_, rfl⟩
                                · rw [up2_ne (by omega), hFc k (by omega), up2_ne (by omega), up2_ne (by omega)]
                                · funext j
                                  rw [up2_eq]
                                  show (if j = 0 then _ else I3 118 j) = _
                                  rw [hFc 118 (by decide), up2_ne (by decide), up2_ne (by decide)]
                                  rfl
                                · rw [up2_ne (by decide), hFc 119 (by decide), up2_ne (by decide), up2_eq]
                                  rfl
                                · rw [up2_ne (by decide), hFc 121 (by decide), up2_eq]
                                  funext j
                                  show (if j = (sCl τ).1 then _ else _) = _
                                  rw [up2_ne (by decide)]
                                  rfl
                                · rw [up2_ne (by decide), hcp j, show k_ = Cc.length by omega, up2_ne (by decide), up2_ne (by decide)]
                                  rfl
                                · rw [up2_ne (by omega), hFc k (by omega), up2_ne (by omega), up2_ne (by omega), up2_ne (by omega), hmE.1 k (by omega) (by omega) (by omega)]
                                  exact hF1 k hk
                              · simp (disch := omega) only [nI_leI, nI_ltI, nI_eq, nI_eq0] at hb203
                                have hb203 : k_ < Cc.length := by omega
                                refine r_aload_n C 0 (dk oX10_claim_1 55 rfl) rfl ?_
                                refine r_getR C (dk oX10_claim_1 56 rfl) fl_X10_16 rfl (km hn rfl) ?_
                                refine r_bipush C (dk oX10_claim_1 57 rfl) (v := nI 120) (by decide) ?_
                                refine r_iload_n C 1 (dk oX10_claim_1 58 rfl) rfl ?_
                                refine r_imul C (dk oX10_claim_1 59 rfl) ?_
                                rw [pk_mul]
                                refine r_iload C 2 (dk oX10_claim_2 0 rfl) rfl ?_
                                refine r_iadd C (dk oX10_claim_2 1 rfl) ?_
                                rw [nI_add]
                                refine r_aload_n C 0 (dk oX10_claim_2 2 rfl) rfl ?_
                                refine r_getR C (dk oX10_claim_2 3 rfl) fl_X10_90 rfl (km hn rfl) ?_
                                refine r_iload C 2 (dk oX10_claim_2 4 rfl) rfl ?_
                                refine r_iald C _ (dk oX10_claim_2 5 rfl) rfl (km hn rfl) rfl (by omega) (by decide) ?_
                                rw [hFc 143 (by decide), up2_ne (by decide), up2_ne (by decide), up2_ne (by decide), hq0.2.2.2 k_ hb203]
                                refine r_iast C _ (dk oX10_claim_2 6 rfl) rfl (km hn rfl) rfl (by omega) (by decide) ?_
                                refine r_iinc (lo' := [(4, _), (0, _), (3, _)]) C 2 (dk oX10_claim_2 7 rfl) rfl (by first | exact nI_inc _ | rfl) (by decide) rfl ?_
                                refine r_goto (tgt := 197) C (dk oX10_claim_2 8 rfl) (by decide) ?_
                                refine V.sub [1, 2, 0] rfl ?_
                                refine ih (k_ + 1) _ (by omega) (by omega) (fun q hq => by rw [up2_ne hq]; exact hFc q hq) (fun j => ?_)
                                by_cases e : j = 120 * (sCl τ).1 + k_
                                · rw [e, up2_at, if_pos (by omega), show 120 * (sCl τ).1 + k_ - 120 * (sCl τ).1 = k_ by omega]
                                · rw [up2_off e, hcp j]
                                  by_cases e2 : 120 * (sCl τ).1 ≤ j ∧ j < 120 * (sCl τ).1 + k_
                                  · rw [if_pos e2, if_pos (by omega)]
                                  · rw [if_neg e2, if_neg (by omega)]
                          refine V.sub [4, 1, 0] rfl ?_
                          exact L197 (Cc.length + 1) 0 _ (by omega) (Nat.zero_le _) (fun _ _ => rfl) (fun j => (if_neg (by omega)).symm)
                        · rw [b32_n] at hb174
                          refine r_iload_n C 1 (dk oX10_claim_1 38 rfl) rfl ?_
                          refine r_ineg C (dk oX10_claim_1 39 rfl) ?_
                          refine r_topI (show -(nI (nmV (sT τ) (sL τ) (cP1 (sT τ) (sL τ)))) = cCo (sT τ) (sL τ) from by unfold cCo; rw [hb174, if_pos rfl]) ?_
                          refine r_goto (tgt := 183) C (dk oX10_claim_1 40 rfl) (by decide) ?_
                          refine r_iast C _ (dk oX10_claim_1 42 rfl) rfl (km hn rfl) rfl (by omega) (by decide) ?_
                          refine r_aload_n C 3 (dk oX10_claim_1 43 rfl) rfl ?_
                          refine r_getR C (dk oX10_claim_1 44 rfl) fl_X10_19 rfl (km hn rfl) ?_
                          refine r_iload_n C 0 (dk oX10_claim_1 45 rfl) rfl ?_
                          refine r_aload_n C 3 (dk oX10_claim_1 46 rfl) rfl ?_
                          refine r_getI C (dk oX10_claim_1 47 rfl) fl_X10_178 rfl (km hn rfl) ?_
                          rw [up2_ne (by decide), up2_off (by decide), hq0.2.2.1]
                          refine r_iast C _ (dk oX10_claim_1 48 rfl) rfl (km hn rfl) rfl (by omega) (by decide) ?_
                          refine r_iconst C (dk oX10_claim_1 49 rfl) (v := nI 0) (by decide) ?_
                          refine r_istore (lo' := [(4, _), (3, _), (2, _), (1, _), (0, _)]) C (dk oX10_claim_1 50 rfl) (by decide) rfl ?_
                          have L197 : ∀ (d_ : Nat) (k_ : Nat) (I3 : MI), Cc.length - k_ < d_ → k_ ≤ Cc.length → (∀ q, q ≠ 120 → I3 q = (up2 (up2 (up2 Ie 117 25 (nI 0)) 119 (sCl τ).1 (cCo (sT τ) (sL τ))) 121 (sCl τ).1 (nI Cc.length)) q) → (∀ j, I3 120 j = if 120 * (sCl τ).1 ≤ j ∧ j < 120 * (sCl τ).1 + k_ then nI (enc (Cc.getD (j - 120 * (sCl τ).1) 0)) else (up2 (up2 (up2 Ie 117 25 (nI 0)) 119 (sCl τ).1 (cCo (sT τ) (sL τ))) 121 (sCl τ).1 (nI Cc.length)) 120 j) → V p l e (rmL 5) s m args below meth c Q D A 5 0 0 n ad (mE cA ad I3 J) 197 [(0, .ref (ad 117)), (3, .int (nI (sCl τ).1)), (4, .int (nI k_))] [] := by
                            intro d_
                            induction d_ with
                            | zero => intros; exact absurd (by assumption) (Nat.not_lt_zero _)
                            | succ d_ ih => 
                              intro k_ I3 hd_ hk hFc hcp
                              refine r_iload C 2 (dk oX10_claim_1 51 rfl) rfl ?_
                              refine r_aload_n C 0 (dk oX10_claim_1 52 rfl) rfl ?_
                              refine r_getI C (dk oX10_claim_1 53 rfl) fl_X10_178 rfl (km hn rfl) ?_
                              rw [hFc 117 (by decide), up2_ne (by decide), up2_ne (by decide), up2_off (by decide), hq0.2.2.1]
                              refine r_icmp_ge (tgt := 231) C (dk oX10_claim_1 54 rfl) (by decide) (fun hb203 => ?_) (fun hb203 => ?_)
                              · simp (disch := omega) only [nI_leI, nI_ltI, nI_eq, nI_eq0] at hb203
                                refine r_aload_n C 0 (dk oX10_claim_2 9 rfl) rfl ?_
                                refine r_getR C (dk oX10_claim_2 10 rfl) fl_X10_7 rfl (km hn rfl) ?_
                                refine r_iconst C (dk oX10_claim_2 11 rfl) (v := nI 0) (by decide) ?_
                                refine r_dup2 C (dk oX10_claim_2 12 rfl) rfl rfl ?_
                                refine r_iald C 0 (dk oX10_claim_2 13 rfl) rfl (km hn rfl) rfl (by decide) (by decide) ?_
                                rw [hFc 118 (by decide), up2_ne (by decide), up2_ne (by decide), show up2 Ie 117 25 (nI 0) 118 0 = nI (sCl τ).1 from hMr.c0.2.1]
                                refine r_iconst C (dk oX10_claim_2 14 rfl) (v := nI 1) (by decide) ?_
                                refine r_iadd C (dk oX10_claim_2 15 rfl) ?_
                                rw [nI_add]
                                refine r_iast C 0 (dk oX10_claim_2 16 rfl) rfl (km hn rfl) rfl (by decide) (by decide) ?_
                                refine r_iload_n C 1 (dk oX10_claim_2 17 rfl) rfl ?_
                                refine hret (dk oX10_claim_2 18 rfl) rfl ?_
                                refine ⟨stC (rdS τ 0 pl) (adC (sCl τ) (cCo (sT τ) (sL τ)) Cc), (by unfold q_claim; rw [if_neg (by omega), if_neg (by omega)]; exact ⟨0, pl, Cc, hPR, by rw [if_pos rfl]; exact ⟨rfl, rfl⟩⟩), MM.cl (τ := rdS τ 0 pl) (x := cCo (sT τ) (sL τ)) (C := Cc) hMr (by show (sCl τ).1 < 6; omega) hPRok.2 hPRok.1 (fun k hk => ?_) ?_ ?_ ?_ (fun j => ?_), fun k hk => ?_, rfl⟩
                                · rw [up2_ne (by omega), hFc k (by omega), up2_ne (by omega), up2_ne (by omega)]
                                · funext j
                                  rw [up2_eq]
                                  show (if j = 0 then _ else I3 118 j) = _
                                  rw [hFc 118 (by decide), up2_ne (by decide), up2_ne (by decide)]
                                  rfl
                                · rw [up2_ne (by decide), hFc 119 (by decide), up2_ne (by decide), up2_eq]
                                  rfl
                                · rw [up2_ne (by decide), hFc 121 (by decide), up2_eq]
                                  funext j
                                  show (if j = (sCl τ).1 then _ else _) = _
                                  rw [up2_ne (by decide)]
                                  rfl
                                · rw [up2_ne (by decide), hcp j, show k_ = Cc.length by omega, up2_ne (by decide), up2_ne (by decide)]
                                  rfl
                                · rw [up2_ne (by omega), hFc k (by omega), up2_ne (by omega), up2_ne (by omega), up2_ne (by omega), hmE.1 k (by omega) (by omega) (by omega)]
                                  exact hF1 k hk
                              · simp (disch := omega) only [nI_leI, nI_ltI, nI_eq, nI_eq0] at hb203
                                have hb203 : k_ < Cc.length := by omega
                                refine r_aload_n C 0 (dk oX10_claim_1 55 rfl) rfl ?_
                                refine r_getR C (dk oX10_claim_1 56 rfl) fl_X10_16 rfl (km hn rfl) ?_
                                refine r_bipush C (dk oX10_claim_1 57 rfl) (v := nI 120) (by decide) ?_
                                refine r_iload_n C 1 (dk oX10_claim_1 58 rfl) rfl ?_
                                refine r_imul C (dk oX10_claim_1 59 rfl) ?_
                                rw [pk_mul]
                                refine r_iload C 2 (dk oX10_claim_2 0 rfl) rfl ?_
                                refine r_iadd C (dk oX10_claim_2 1 rfl) ?_
                                rw [nI_add]
                                refine r_aload_n C 0 (dk oX10_claim_2 2 rfl) rfl ?_
                                refine r_getR C (dk oX10_claim_2 3 rfl) fl_X10_90 rfl (km hn rfl) ?_
                                refine r_iload C 2 (dk oX10_claim_2 4 rfl) rfl ?_
                                refine r_iald C _ (dk oX10_claim_2 5 rfl) rfl (km hn rfl) rfl (by omega) (by decide) ?_
                                rw [hFc 143 (by decide), up2_ne (by decide), up2_ne (by decide), up2_ne (by decide), hq0.2.2.2 k_ hb203]
                                refine r_iast C _ (dk oX10_claim_2 6 rfl) rfl (km hn rfl) rfl (by omega) (by decide) ?_
                                refine r_iinc (lo' := [(4, _), (0, _), (3, _)]) C 2 (dk oX10_claim_2 7 rfl) rfl (by first | exact nI_inc _ | rfl) (by decide) rfl ?_
                                refine r_goto (tgt := 197) C (dk oX10_claim_2 8 rfl) (by decide) ?_
                                refine V.sub [1, 2, 0] rfl ?_
                                refine ih (k_ + 1) _ (by omega) (by omega) (fun q hq => by rw [up2_ne hq]; exact hFc q hq) (fun j => ?_)
                                by_cases e : j = 120 * (sCl τ).1 + k_
                                · rw [e, up2_at, if_pos (by omega), show 120 * (sCl τ).1 + k_ - 120 * (sCl τ).1 = k_ by omega]
                                · rw [up2_off e, hcp j]
                                  by_cases e2 : 120 * (sCl τ).1 ≤ j ∧ j < 120 * (sCl τ).1 + k_
                                  · rw [if_pos e2, if_pos (by omega)]
                                  · rw [if_neg e2, if_neg (by omega)]
                          refine V.sub [4, 1, 0] rfl ?_
                          exact L197 (Cc.length + 1) 0 _ (by omega) (Nat.zero_le _) (fun _ _ => rfl) (fun j => (if_neg (by omega)).symm)
                  · rw [show (0 : Int32) = nI 0 from rfl, nI_leI (by omega) (by omega)] at hb150
                    have hf0 : ¬ fn = 0 := by omega
                    refine r_bipush C (dk oX10_claim_1 23 rfl) (v := -10) (by decide) ?_
                    refine r_aload_n C 2 (dk oX10_claim_1 24 rfl) rfl ?_
                    refine r_getI C (dk oX10_claim_1 25 rfl) fl_X10_145 rfl (km hn rfl) ?_
                    rw [up2_off (by decide), h29e]
                    refine r_isub C (dk oX10_claim_1 26 rfl) ?_
                    refine hret (dk oX10_claim_1 27 rfl) rfl ?_
                    exact ⟨rdS τ fn pl, (by unfold q_claim; rw [if_neg (by omega), if_neg (by omega)]; exact ⟨fn, pl, Cc, hPR, by rw [if_neg hf0]; exact ⟨rfl, rfl⟩⟩), hMr, fun k hk => by rw [up2_ne (by omega), hmE.1 k (by omega) (by omega) (by omega)]; exact hF1 k hk, rfl⟩
                · rw [b32_n, decide_eq_true_eq] at hb134
                  have hb134 := want_1 (by decide) hb134
                  have hI131 := want_f hW131 hb134
                  subst hI131
                  refine r_aload_n C 2 (dk oX10_claim_1 15 rfl) rfl ?_
                  refine r_ivv C Z (dk oX10_claim_1 16 rfl) cl_X10_225 ci_X10_takeCase rfl (km hn rfl) (c_X10_takeCase hn I131 J (sT τ) (sL τ) ((cP2 (sT τ) (sL τ)) + 2) hL12 (hT94.tk hfb) (by rw [h26b, wd_end hb134]; rfl) (isW_lt (w := sWd 2) hP2L hb134) ((hfb.2 29 (by decide) (by decide) (by decide)).trans (by rw [hn1, hz106])) ((hfb.2 30 (by decide) (by decide) (by decide)).trans (by rw [hn2, if_pos hz106]; exact (hfa.2 30 (by decide) (by decide) (by decide)).trans hB30))) rfl rfl (Nat.le_of_ble_eq_true rfl) ⟨Nat.le_of_ble_eq_true rfl, Nat.le_of_ble_eq_true rfl⟩ ⟨Nat.zero_le _, Nat.zero_le _⟩ (fun I138 J138 h138 => ?_)
                  obtain ⟨e2_, hX138, f1, p1, C1, hf1, hr0, hq0c, hr1, h29c, h30c⟩ := h138
                  have e2_ := e2_.symm
                  subst e2_
                  obtain ⟨Ie, hIe⟩ : ∃ X, X = I138 := ⟨_, rfl⟩
                  have hE : ∃ fn pl Cc, clE τ I1 (I138) fn pl Cc := ⟨f1, p1, C1, PR_4 hb86 hz106 hb134 hf1 hr0 hr1, (hBm.tr (hfa.X.m.tr (hnf.X.m.tr hfb.X.m))).tr hX138.m, h29c, h30c, hq0c⟩
                  rw [← hIe] at hE
                  rw [← hIe]
                  clear hIe
                  obtain ⟨fn, pl, Cc, hE1⟩ := hE
                  obtain ⟨hPR, hmE, h29e, h30e, hqE⟩ := hE1
                  have hfn := hPR.1
                  have hMr := hMM1.rc (f := fn) (pl := pl) hmE h30e
                  refine r_aload_n C 2 (dk oX10_claim_1 17 rfl) rfl ?_
                  refine r_iconst C (dk oX10_claim_1 18 rfl) (v := nI 0) (by decide) ?_
                  refine r_putI C (dk oX10_claim_1 19 rfl) fl_X10_136 ft_10_25 rfl (km hn rfl) ?_
                  refine r_aload_n C 2 (dk oX10_claim_1 20 rfl) rfl ?_
                  refine r_getI C (dk oX10_claim_1 21 rfl) fl_X10_145 rfl (km hn rfl) ?_
                  rw [up2_off (by decide), h29e]
                  refine r_if_le (tgt := 161) C (dk oX10_claim_1 22 rfl) (by decide) (fun hb150 => ?_) (fun hb150 => ?_)
                  · first
                      | (exfalso; rw [show (0 : Int32) = nI 0 from rfl, nI_leI (by omega) (by omega)] at hb150; omega)
                      | rw [show (0 : Int32) = nI 0 from rfl, nI_leI (by omega) (by omega)] at hb150
                        have hf0 : fn = 0 := by omega
                        subst hf0
                        have hq0 := hqE rfl
                        have hPRok := hPR.ok hL12
                        have hlen : Cc.length ≤ 120 := hPRok.1.1
                        refine r_aload_n C 2 (dk oX10_claim_1 28 rfl) rfl ?_
                        refine r_getR C (dk oX10_claim_1 29 rfl) fl_X10_7 rfl (km hn rfl) ?_
                        refine r_iconst C (dk oX10_claim_1 30 rfl) (v := nI 0) (by decide) ?_
                        refine r_iald C 0 (dk oX10_claim_1 31 rfl) rfl (km hn rfl) rfl (by decide) (by decide) ?_
                        rw [show up2 Ie 117 25 (nI 0) 118 0 = nI (sCl τ).1 from hMr.c0.2.1]
                        refine r_istore_n (lo' := [(3, _), (2, _), (1, _), (0, _)]) C (dk oX10_claim_1 32 rfl) rfl (by decide) rfl ?_
                        refine r_aload_n C 3 (dk oX10_claim_1 33 rfl) rfl ?_
                        refine r_getR C (dk oX10_claim_1 34 rfl) fl_X10_13 rfl (km hn rfl) ?_
                        refine r_iload_n C 0 (dk oX10_claim_1 35 rfl) rfl ?_
                        refine r_iload_n C 2 (dk oX10_claim_1 36 rfl) rfl ?_
                        refine r_if_eq (tgt := 182) C (dk oX10_claim_1 37 rfl) (by decide) (fun hb174 => ?_) (fun hb174 => ?_)
                        · rw [b32_0] at hb174
                          refine r_iload_n C 1 (dk oX10_claim_1 41 rfl) rfl ?_
                          refine r_topI (show nI (nmV (sT τ) (sL τ) (cP1 (sT τ) (sL τ))) = cCo (sT τ) (sL τ) from by unfold cCo; rw [hb174, if_neg (by decide)]) ?_
                          refine r_iast C _ (dk oX10_claim_1 42 rfl) rfl (km hn rfl) rfl (by omega) (by decide) ?_
                          refine r_aload_n C 3 (dk oX10_claim_1 43 rfl) rfl ?_
                          refine r_getR C (dk oX10_claim_1 44 rfl) fl_X10_19 rfl (km hn rfl) ?_
                          refine r_iload_n C 0 (dk oX10_claim_1 45 rfl) rfl ?_
                          refine r_aload_n C 3 (dk oX10_claim_1 46 rfl) rfl ?_
                          refine r_getI C (dk oX10_claim_1 47 rfl) fl_X10_178 rfl (km hn rfl) ?_
                          rw [up2_ne (by decide), up2_off (by decide), hq0.2.2.1]
                          refine r_iast C _ (dk oX10_claim_1 48 rfl) rfl (km hn rfl) rfl (by omega) (by decide) ?_
                          refine r_iconst C (dk oX10_claim_1 49 rfl) (v := nI 0) (by decide) ?_
                          refine r_istore (lo' := [(4, _), (3, _), (2, _), (1, _), (0, _)]) C (dk oX10_claim_1 50 rfl) (by decide) rfl ?_
                          have L197 : ∀ (d_ : Nat) (k_ : Nat) (I3 : MI), Cc.length - k_ < d_ → k_ ≤ Cc.length → (∀ q, q ≠ 120 → I3 q = (up2 (up2 (up2 Ie 117 25 (nI 0)) 119 (sCl τ).1 (cCo (sT τ) (sL τ))) 121 (sCl τ).1 (nI Cc.length)) q) → (∀ j, I3 120 j = if 120 * (sCl τ).1 ≤ j ∧ j < 120 * (sCl τ).1 + k_ then nI (enc (Cc.getD (j - 120 * (sCl τ).1) 0)) else (up2 (up2 (up2 Ie 117 25 (nI 0)) 119 (sCl τ).1 (cCo (sT τ) (sL τ))) 121 (sCl τ).1 (nI Cc.length)) 120 j) → V p l e (rmL 5) s m args below meth c Q D A 5 0 0 n ad (mE cA ad I3 J) 197 [(0, .ref (ad 117)), (3, .int (nI (sCl τ).1)), (4, .int (nI k_))] [] := by
                            intro d_
                            induction d_ with
                            | zero => intros; exact absurd (by assumption) (Nat.not_lt_zero _)
                            | succ d_ ih => 
                              intro k_ I3 hd_ hk hFc hcp
                              refine r_iload C 2 (dk oX10_claim_1 51 rfl) rfl ?_
                              refine r_aload_n C 0 (dk oX10_claim_1 52 rfl) rfl ?_
                              refine r_getI C (dk oX10_claim_1 53 rfl) fl_X10_178 rfl (km hn rfl) ?_
                              rw [hFc 117 (by decide), up2_ne (by decide), up2_ne (by decide), up2_off (by decide), hq0.2.2.1]
                              refine r_icmp_ge (tgt := 231) C (dk oX10_claim_1 54 rfl) (by decide) (fun hb203 => ?_) (fun hb203 => ?_)
                              · simp (disch := omega) only [nI_leI, nI_ltI, nI_eq, nI_eq0] at hb203
                                refine r_aload_n C 0 (dk oX10_claim_2 9 rfl) rfl ?_
                                refine r_getR C (dk oX10_claim_2 10 rfl) fl_X10_7 rfl (km hn rfl) ?_
                                refine r_iconst C (dk oX10_claim_2 11 rfl) (v := nI 0) (by decide) ?_
                                refine r_dup2 C (dk oX10_claim_2 12 rfl) rfl rfl ?_
                                refine r_iald C 0 (dk oX10_claim_2 13 rfl) rfl (km hn rfl) rfl (by decide) (by decide) ?_
                                rw [hFc 118 (by decide), up2_ne (by decide), up2_ne (by decide), show up2 Ie 117 25 (nI 0) 118 0 = nI (sCl τ).1 from hMr.c0.2.1]
                                refine r_iconst C (dk oX10_claim_2 14 rfl) (v := nI 1) (by decide) ?_
                                refine r_iadd C (dk oX10_claim_2 15 rfl) ?_
                                rw [nI_add]
                                refine r_iast C 0 (dk oX10_claim_2 16 rfl) rfl (km hn rfl) rfl (by decide) (by decide) ?_
                                refine r_iload_n C 1 (dk oX10_claim_2 17 rfl) rfl ?_
                                refine hret (dk oX10_claim_2 18 rfl) rfl ?_
                                refine ⟨stC (rdS τ 0 pl) (adC (sCl τ) (cCo (sT τ) (sL τ)) Cc), (by unfold q_claim; rw [if_neg (by omega), if_neg (by omega)]; exact ⟨0, pl, Cc, hPR, by rw [if_pos rfl]; exact ⟨rfl, rfl⟩⟩), MM.cl (τ := rdS τ 0 pl) (x := cCo (sT τ) (sL τ)) (C := Cc) hMr (by show (sCl τ).1 < 6; omega) hPRok.2 hPRok.1 (fun k hk => ?_) ?_ ?_ ?_ (fun j => ?_), fun k hk => ?_, rfl⟩
                                · rw [up2_ne (by omega), hFc k (by omega), up2_ne (by omega), up2_ne (by omega)]
                                · funext j
                                  rw [up2_eq]
                                  show (if j = 0 then _ else I3 118 j) = _
                                  rw [hFc 118 (by decide), up2_ne (by decide), up2_ne (by decide)]
                                  rfl
                                · rw [up2_ne (by decide), hFc 119 (by decide), up2_ne (by decide), up2_eq]
                                  rfl
                                · rw [up2_ne (by decide), hFc 121 (by decide), up2_eq]
                                  funext j
                                  show (if j = (sCl τ).1 then _ else _) = _
                                  rw [up2_ne (by decide)]
                                  rfl
                                · rw [up2_ne (by decide), hcp j, show k_ = Cc.length by omega, up2_ne (by decide), up2_ne (by decide)]
                                  rfl
                                · rw [up2_ne (by omega), hFc k (by omega), up2_ne (by omega), up2_ne (by omega), up2_ne (by omega), hmE.1 k (by omega) (by omega) (by omega)]
                                  exact hF1 k hk
                              · simp (disch := omega) only [nI_leI, nI_ltI, nI_eq, nI_eq0] at hb203
                                have hb203 : k_ < Cc.length := by omega
                                refine r_aload_n C 0 (dk oX10_claim_1 55 rfl) rfl ?_
                                refine r_getR C (dk oX10_claim_1 56 rfl) fl_X10_16 rfl (km hn rfl) ?_
                                refine r_bipush C (dk oX10_claim_1 57 rfl) (v := nI 120) (by decide) ?_
                                refine r_iload_n C 1 (dk oX10_claim_1 58 rfl) rfl ?_
                                refine r_imul C (dk oX10_claim_1 59 rfl) ?_
                                rw [pk_mul]
                                refine r_iload C 2 (dk oX10_claim_2 0 rfl) rfl ?_
                                refine r_iadd C (dk oX10_claim_2 1 rfl) ?_
                                rw [nI_add]
                                refine r_aload_n C 0 (dk oX10_claim_2 2 rfl) rfl ?_
                                refine r_getR C (dk oX10_claim_2 3 rfl) fl_X10_90 rfl (km hn rfl) ?_
                                refine r_iload C 2 (dk oX10_claim_2 4 rfl) rfl ?_
                                refine r_iald C _ (dk oX10_claim_2 5 rfl) rfl (km hn rfl) rfl (by omega) (by decide) ?_
                                rw [hFc 143 (by decide), up2_ne (by decide), up2_ne (by decide), up2_ne (by decide), hq0.2.2.2 k_ hb203]
                                refine r_iast C _ (dk oX10_claim_2 6 rfl) rfl (km hn rfl) rfl (by omega) (by decide) ?_
                                refine r_iinc (lo' := [(4, _), (0, _), (3, _)]) C 2 (dk oX10_claim_2 7 rfl) rfl (by first | exact nI_inc _ | rfl) (by decide) rfl ?_
                                refine r_goto (tgt := 197) C (dk oX10_claim_2 8 rfl) (by decide) ?_
                                refine V.sub [1, 2, 0] rfl ?_
                                refine ih (k_ + 1) _ (by omega) (by omega) (fun q hq => by rw [up2_ne hq]; exact hFc q hq) (fun j => ?_)
                                by_cases e : j = 120 * (sCl τ).1 + k_
                                · rw [e, up2_at, if_pos (by omega), show 120 * (sCl τ).1 + k_ - 120 * (sCl τ).1 = k_ by omega]
                                · rw [up2_off e, hcp j]
                                  by_cases e2 : 120 * (sCl τ).1 ≤ j ∧ j < 120 * (sCl τ).1 + k_
                                  · rw [if_pos e2, if_pos (by omega)]
                                  · rw [if_neg e2, if_neg (by omega)]
                          refine V.sub [4, 1, 0] rfl ?_
                          exact L197 (Cc.length + 1) 0 _ (by omega) (Nat.zero_le _) (fun _ _ => rfl) (fun j => (if_neg (by omega)).symm)
                        · rw [b32_n] at hb174
                          refine r_iload_n C 1 (dk oX10_claim_1 38 rfl) rfl ?_
                          refine r_ineg C (dk oX10_claim_1 39 rfl) ?_
                          refine r_topI (show -(nI (nmV (sT τ) (sL τ) (cP1 (sT τ) (sL τ)))) = cCo (sT τ) (sL τ) from by unfold cCo; rw [hb174, if_pos rfl]) ?_
                          refine r_goto (tgt := 183) C (dk oX10_claim_1 40 rfl) (by decide) ?_
                          refine r_iast C _ (dk oX10_claim_1 42 rfl) rfl (km hn rfl) rfl (by omega) (by decide) ?_
                          refine r_aload_n C 3 (dk oX10_claim_1 43 rfl) rfl ?_
                          refine r_getR C (dk oX10_claim_1 44 rfl) fl_X10_19 rfl (km hn rfl) ?_
                          refine r_iload_n C 0 (dk oX10_claim_1 45 rfl) rfl ?_
                          refine r_aload_n C 3 (dk oX10_claim_1 46 rfl) rfl ?_
                          refine r_getI C (dk oX10_claim_1 47 rfl) fl_X10_178 rfl (km hn rfl) ?_
                          rw [up2_ne (by decide), up2_off (by decide), hq0.2.2.1]
                          refine r_iast C _ (dk oX10_claim_1 48 rfl) rfl (km hn rfl) rfl (by omega) (by decide) ?_
                          refine r_iconst C (dk oX10_claim_1 49 rfl) (v := nI 0) (by decide) ?_
                          refine r_istore (lo' := [(4, _), (3, _), (2, _), (1, _), (0, _)]) C (dk oX10_claim_1 50 rfl) (by decide) rfl ?_
                          have L197 : ∀ (d_ : Nat) (k_ : Nat) (I3 : MI), Cc.length - k_ < d_ → k_ ≤ Cc.length → (∀ q, q ≠ 120 → I3 q = (up2 (up2 (up2 Ie 117 25 (nI 0)) 119 (sCl τ).1 (cCo (sT τ) (sL τ))) 121 (sCl τ).1 (nI Cc.length)) q) → (∀ j, I3 120 j = if 120 * (sCl τ).1 ≤ j ∧ j < 120 * (sCl τ).1 + k_ then nI (enc (Cc.getD (j - 120 * (sCl τ).1) 0)) else (up2 (up2 (up2 Ie 117 25 (nI 0)) 119 (sCl τ).1 (cCo (sT τ) (sL τ))) 121 (sCl τ).1 (nI Cc.length)) 120 j) → V p l e (rmL 5) s m args below meth c Q D A 5 0 0 n ad (mE cA ad I3 J) 197 [(0, .ref (ad 117)), (3, .int (nI (sCl τ).1)), (4, .int (nI k_))] [] := by
                            intro d_
                            induction d_ with
                            | zero => intros; exact absurd (by assumption) (Nat.not_lt_zero _)
                            | succ d_ ih => 
                              intro k_ I3 hd_ hk hFc hcp
                              refine r_iload C 2 (dk oX10_claim_1 51 rfl) rfl ?_
                              refine r_aload_n C 0 (dk oX10_claim_1 52 rfl) rfl ?_
                              refine r_getI C (dk oX10_claim_1 53 rfl) fl_X10_178 rfl (km hn rfl) ?_
                              rw [hFc 117 (by decide), up2_ne (by decide), up2_ne (by decide), up2_off (by decide), hq0.2.2.1]
                              refine r_icmp_ge (tgt := 231) C (dk oX10_claim_1 54 rfl) (by decide) (fun hb203 => ?_) (fun hb203 => ?_)
                              · simp (disch := omega) only [nI_leI, nI_ltI, nI_eq, nI_eq0] at hb203
                                refine r_aload_n C 0 (dk oX10_claim_2 9 rfl) rfl ?_
                                refine r_getR C (dk oX10_claim_2 10 rfl) fl_X10_7 rfl (km hn rfl) ?_
                                refine r_iconst C (dk oX10_claim_2 11 rfl) (v := nI 0) (by decide) ?_
                                refine r_dup2 C (dk oX10_claim_2 12 rfl) rfl rfl ?_
                                refine r_iald C 0 (dk oX10_claim_2 13 rfl) rfl (km hn rfl) rfl (by decide) (by decide) ?_
                                rw [hFc 118 (by decide), up2_ne (by decide), up2_ne (by decide), show up2 Ie 117 25 (nI 0) 118 0 = nI (sCl τ).1 from hMr.c0.2.1]
                                refine r_iconst C (dk oX10_claim_2 14 rfl) (v := nI 1) (by decide) ?_
                                refine r_iadd C (dk oX10_claim_2 15 rfl) ?_
                                rw [nI_add]
                                refine r_iast C 0 (dk oX10_claim_2 16 rfl) rfl (km hn rfl) rfl (by decide) (by decide) ?_
                                refine r_iload_n C 1 (dk oX10_claim_2 17 rfl) rfl ?_
                                refine hret (dk oX10_claim_2 18 rfl) rfl ?_
                                refine ⟨stC (rdS τ 0 pl) (adC (sCl τ) (cCo (sT τ) (sL τ)) Cc), (by unfold q_claim; rw [if_neg (by omega), if_neg (by omega)]; exact ⟨0, pl, Cc, hPR, by rw [if_pos rfl]; exact ⟨rfl, rfl⟩⟩), MM.cl (τ := rdS τ 0 pl) (x := cCo (sT τ) (sL τ)) (C := Cc) hMr (by show (sCl τ).1 < 6; omega) hPRok.2 hPRok.1 (fun k hk => ?_) ?_ ?_ ?_ (fun j => ?_), fun k hk => ?_, rfl⟩
                                · rw [up2_ne (by omega), hFc k (by omega), up2_ne (by omega), up2_ne (by omega)]
                                · funext j
                                  rw [up2_eq]
                                  show (if j = 0 then _ else I3 118 j) = _
                                  rw [hFc 118 (by decide), up2_ne (by decide), up2_ne (by decide)]
                                  rfl
                                · rw [up2_ne (by decide), hFc 119 (by decide), up2_ne (by decide), up2_eq]
                                  rfl
                                · rw [up2_ne (by decide), hFc 121 (by decide), up2_eq]
                                  funext j
                                  show (if j = (sCl τ).1 then _ else _) = _
                                  rw [up2_ne (by decide)]
                                  rfl
                                · rw [up2_ne (by decide), hcp j, show k_ = Cc.length by omega, up2_ne (by decide), up2_ne (by decide)]
                                  rfl
                                · rw [up2_ne (by omega), hFc k (by omega), up2_ne (by omega), up2_ne (by omega), up2_ne (by omega), hmE.1 k (by omega) (by omega) (by omega)]
                                  exact hF1 k hk
                              · simp (disch := omega) only [nI_leI, nI_ltI, nI_eq, nI_eq0] at hb203
                                have hb203 : k_ < Cc.length := by omega
                                refine r_aload_n C 0 (dk oX10_claim_1 55 rfl) rfl ?_
                                refine r_getR C (dk oX10_claim_1 56 rfl) fl_X10_16 rfl (km hn rfl) ?_
                                refine r_bipush C (dk oX10_claim_1 57 rfl) (v := nI 120) (by decide) ?_
                                refine r_iload_n C 1 (dk oX10_claim_1 58 rfl) rfl ?_
                                refine r_imul C (dk oX10_claim_1 59 rfl) ?_
                                rw [pk_mul]
                                refine r_iload C 2 (dk oX10_claim_2 0 rfl) rfl ?_
                                refine r_iadd C (dk oX10_claim_2 1 rfl) ?_
                                rw [nI_add]
                                refine r_aload_n C 0 (dk oX10_claim_2 2 rfl) rfl ?_
                                refine r_getR C (dk oX10_claim_2 3 rfl) fl_X10_90 rfl (km hn rfl) ?_
                                refine r_iload C 2 (dk oX10_claim_2 4 rfl) rfl ?_
                                refine r_iald C _ (dk oX10_claim_2 5 rfl) rfl (km hn rfl) rfl (by omega) (by decide) ?_
                                rw [hFc 143 (by decide), up2_ne (by decide), up2_ne (by decide), up2_ne (by decide), hq0.2.2.2 k_ hb203]
                                refine r_iast C _ (dk oX10_claim_2 6 rfl) rfl (km hn rfl) rfl (by omega) (by decide) ?_
                                refine r_iinc (lo' := [(4, _), (0, _), (3, _)]) C 2 (dk oX10_claim_2 7 rfl) rfl (by first | exact nI_inc _ | rfl) (by decide) rfl ?_
                                refine r_goto (tgt := 197) C (dk oX10_claim_2 8 rfl) (by decide) ?_
                                refine V.sub [1, 2, 0] rfl ?_
                                refine ih (k_ + 1) _ (by omega) (by omega) (fun q hq => by rw [up2_ne hq]; exact hFc q hq) (fun j => ?_)
                                by_cases e : j = 120 * (sCl τ).1 + k_
                                · rw [e, up2_at, if_pos (by omega), show 120 * (sCl τ).1 + k_ - 120 * (sCl τ).1 = k_ by omega]
                                · rw [up2_off e, hcp j]
                                  by_cases e2 : 120 * (sCl τ).1 ≤ j ∧ j < 120 * (sCl τ).1 + k_
                                  · rw [if_pos e2, if_pos (by omega)]
                                  · rw [if_neg e2, if_neg (by omega)]
                          refine V.sub [4, 1, 0] rfl ?_
                          exact L197 (Cc.length + 1) 0 _ (by omega) (Nat.zero_le _) (fun _ _ => rfl) (fun j => (if_neg (by omega)).symm)
                  · rw [show (0 : Int32) = nI 0 from rfl, nI_leI (by omega) (by omega)] at hb150
                    have hf0 : ¬ fn = 0 := by omega
                    refine r_bipush C (dk oX10_claim_1 23 rfl) (v := -10) (by decide) ?_
                    refine r_aload_n C 2 (dk oX10_claim_1 24 rfl) rfl ?_
                    refine r_getI C (dk oX10_claim_1 25 rfl) fl_X10_145 rfl (km hn rfl) ?_
                    rw [up2_off (by decide), h29e]
                    refine r_isub C (dk oX10_claim_1 26 rfl) ?_
                    refine hret (dk oX10_claim_1 27 rfl) rfl ?_
                    exact ⟨rdS τ fn pl, (by unfold q_claim; rw [if_neg (by omega), if_neg (by omega)]; exact ⟨fn, pl, Cc, hPR, by rw [if_neg hf0]; exact ⟨rfl, rfl⟩⟩), hMr, fun k hk => by rw [up2_ne (by omega), hmE.1 k (by omega) (by omega) (by omega)]; exact hF1 k hk, rfl⟩
      · rw [b32_0] at hb54
        refine r_aload_n C 1 (dk oX10_claim_0 32 rfl) rfl ?_
        refine r_iconst C (dk oX10_claim_0 33 rfl) (v := nI 3) (by decide) ?_
        refine r_bipush C (dk oX10_claim_0 34 rfl) (v := nI 112) (by decide) ?_
        refine r_bipush C (dk oX10_claim_0 35 rfl) (v := nI 97) (by decide) ?_
        refine r_bipush C (dk oX10_claim_0 36 rfl) (v := nI 121) (by decide) ?_
        refine r_iconst C (dk oX10_claim_0 37 rfl) (v := nI 0) (by decide) ?_
        refine r_iconst C (dk oX10_claim_0 38 rfl) (v := nI 0) (by decide) ?_
        refine r_ivi C Z (dk oX10_claim_0 39 rfl) cl_X10_165 ci_X10_isWord rfl (km hn rfl) (c_X10_isWord hn I35 J (sT τ) (sL τ) (hTB.tk hfa) (sk (sT τ) (sL τ) 0) h27a hs0L h28a 3 112 97 121 0 0 (by decide) (by decide) (sWd 1) (by decide)) rfl rfl (Nat.le_of_ble_eq_true rfl) ⟨Nat.le_of_ble_eq_true rfl, Nat.le_of_ble_eq_true rfl⟩ ⟨Nat.zero_le _, Nat.zero_le _⟩ (fun r67 I67 J67 h67 => ?_)
        obtain ⟨h67, e1_, e2_⟩ := h67
        have e1_ := e1_.symm
        have e2_ := e2_.symm
        subst e1_
        subst e2_
        subst h67
        refine r_topI (show b32 (isW (sT τ) (sL τ) (sk (sT τ) (sL τ) 0) (sWd 1)) = b32 (cPay (sT τ) (sL τ)) from rfl) ?_
        refine r_if_eq (tgt := 77) C (dk oX10_claim_0 40 rfl) (by decide) (fun hb70 => ?_) (fun hb70 => ?_)
        · rw [b32_0] at hb70
          refine r_iconst C (dk oX10_claim_0 43 rfl) (v := nI 0) (by decide) ?_
          refine r_topI (show nI 0 = b32 (decide (cOwe (sT τ) (sL τ) = true ∨ cPay (sT τ) (sL τ) = true)) from b32_df (fun q => q.elim (fun h => by rw [hb54] at h; cases h) (fun h => by rw [hb70] at h; cases h))) ?_
          refine r_iconst C (dk oX10_claim_0 44 rfl) (v := nI 1) (by decide) ?_
          refine r_aload_n C 1 (dk oX10_claim_0 45 rfl) rfl ?_
          refine r_getI C (dk oX10_claim_0 46 rfl) fl_X10_152 rfl (km hn rfl) ?_
          rw [h27a]
          refine r_ivi C Z (dk oX10_claim_0 47 rfl) cl_X10_173 ci_X10_want rfl (km hn rfl) (c_X10_want hn I35 J (decide ((cOwe (sT τ) (sL τ) = true ∨ cPay (sT τ) (sL τ) = true))) (nI 1) (nI (sk (sT τ) (sL τ) 0)) (nI 0) ((hfa.2 29 (by decide) (by decide) (by decide)).trans hB29)) rfl rfl (Nat.le_of_ble_eq_true rfl) ⟨Nat.le_of_ble_eq_true rfl, Nat.le_of_ble_eq_true rfl⟩ ⟨Nat.zero_le _, Nat.zero_le _⟩ (fun r83 I83 J83 h83 => ?_)
          obtain ⟨e1_, hW83, e2_⟩ := h83
          have e1_ := e1_.symm
          have e2_ := e2_.symm
          subst e1_
          subst e2_
          refine r_if_eq (tgt := 100) C (dk oX10_claim_0 48 rfl) (by decide) (fun hb86 => ?_) (fun hb86 => ?_)
          · rw [b32_0, decide_eq_false_iff_not] at hb86
            have hb86 := want_0 hb86
            have hI83 := want_t hW83 hb86
            subst hI83
            refine r_iconst C (dk oX10_claim_0 54 rfl) (v := nI 0) (by decide) ?_
            refine r_istore_n (lo' := [(2, _), (1, _), (0, _)]) C (dk oX10_claim_0 55 rfl) rfl (by decide) rfl ?_
            refine r_aload_n C 2 (dk oX10_claim_0 56 rfl) rfl ?_
            refine r_getI C (dk oX10_claim_0 57 rfl) fl_X10_145 rfl (km hn rfl) ?_
            first
              | rw [hn1]
              | rw [up2_off (by decide), up2_at]
            refine r_if_ne (tgt := 141) C (dk oX10_claim_0 58 rfl) (by decide) (fun hb106 => ?_) (fun hb106 => ?_)
            · first
                | (fail)
                | obtain ⟨Ie, hIe⟩ : ∃ X, X = up2 (up2 I35 117 29 (nI 1)) 117 30 (nI (sk (sT τ) (sL τ) 0)) := ⟨_, rfl⟩
                  have hE : ∃ fn pl Cc, clE τ I1 (up2 (up2 I35 117 29 (nI 1)) 117 30 (nI (sk (sT τ) (sL τ) 0))) fn pl Cc ∧ fn ≠ 0 := ⟨1, (sk (sT τ) (sL τ) 0), [], ⟨PR_1 hb86, ((hBm.tr hfa.X.m).up 29 _ (by decide)).up 30 _ (by decide), by rw [up2_off (by decide), up2_at], by rw [up2_at, if_neg (by decide)], fun e => absurd e (by decide)⟩, by decide⟩
                  rw [← hIe] at hE
                  rw [← hIe]
                  clear hIe
                  obtain ⟨fn, pl, Cc, hE1, hne0⟩ := hE
                  obtain ⟨hPR, hmE, h29e, h30e, hqE⟩ := hE1
                  have hfn := hPR.1
                  have hMr := hMM1.rc (f := fn) (pl := pl) hmE h30e
                  refine r_aload_n C 2 (dk oX10_claim_1 17 rfl) rfl ?_
                  refine r_iconst C (dk oX10_claim_1 18 rfl) (v := nI 0) (by decide) ?_
                  refine r_putI C (dk oX10_claim_1 19 rfl) fl_X10_136 ft_10_25 rfl (km hn rfl) ?_
                  refine r_aload_n C 2 (dk oX10_claim_1 20 rfl) rfl ?_
                  refine r_getI C (dk oX10_claim_1 21 rfl) fl_X10_145 rfl (km hn rfl) ?_
                  rw [up2_off (by decide), h29e]
                  refine r_if_le (tgt := 161) C (dk oX10_claim_1 22 rfl) (by decide) (fun hb150 => ?_) (fun hb150 => ?_)
                  · first
                      | (exfalso; rw [show (0 : Int32) = nI 0 from rfl, nI_leI (by omega) (by omega)] at hb150; omega)
                      | rw [show (0 : Int32) = nI 0 from rfl, nI_leI (by omega) (by omega)] at hb150
                        have hf0 : fn = 0 := by omega
                        subst hf0
                        have hq0 := hqE rfl
                        have hPRok := hPR.ok hL12
                        have hlen : Cc.length ≤ 120 := hPRok.1.1
                        refine r_aload_n C 2 (dk oX10_claim_1 28 rfl) rfl ?_
                        refine r_getR C (dk oX10_claim_1 29 rfl) fl_X10_7 rfl (km hn rfl) ?_
                        refine r_iconst C (dk oX10_claim_1 30 rfl) (v := nI 0) (by decide) ?_
                        refine r_iald C 0 (dk oX10_claim_1 31 rfl) rfl (km hn rfl) rfl (by decide) (by decide) ?_
                        rw [show up2 Ie 117 25 (nI 0) 118 0 = nI (sCl τ).1 from hMr.c0.2.1]
                        refine r_istore_n (lo' := [(3, _), (2, _), (1, _), (0, _)]) C (dk oX10_claim_1 32 rfl) rfl (by decide) rfl ?_
                        refine r_aload_n C 3 (dk oX10_claim_1 33 rfl) rfl ?_
                        refine r_getR C (dk oX10_claim_1 34 rfl) fl_X10_13 rfl (km hn rfl) ?_
                        refine r_iload_n C 0 (dk oX10_claim_1 35 rfl) rfl ?_
                        refine r_iload_n C 2 (dk oX10_claim_1 36 rfl) rfl ?_
                        refine r_if_eq (tgt := 182) C (dk oX10_claim_1 37 rfl) (by decide) (fun hb174 => ?_) (fun hb174 => ?_)
                        · rw [b32_0] at hb174
                          refine r_iload_n C 1 (dk oX10_claim_1 41 rfl) rfl ?_
                          refine r_topI (show nI (nmV (sT τ) (sL τ) (cP1 (sT τ) (sL τ))) = cCo (sT τ) (sL τ) from by unfold cCo; rw [hb174, if_neg (by decide)]) ?_
                          refine r_iast C _ (dk oX10_claim_1 42 rfl) rfl (km hn rfl) rfl (by omega) (by decide) ?_
                          refine r_aload_n C 3 (dk oX10_claim_1 43 rfl) rfl ?_
                          refine r_getR C (dk oX10_claim_1 44 rfl) fl_X10_19 rfl (km hn rfl) ?_
                          refine r_iload_n C 0 (dk oX10_claim_1 45 rfl) rfl ?_
                          refine r_aload_n C 3 (dk oX10_claim_1 46 rfl) rfl ?_
                          refine r_getI C (dk oX10_claim_1 47 rfl) fl_X10_178 rfl (km hn rfl) ?_
                          rw [up2_ne (by decide), up2_off (by decide), hq0.2.2.1]
                          refine r_iast C _ (dk oX10_claim_1 48 rfl) rfl (km hn rfl) rfl (by omega) (by decide) ?_
                          refine r_iconst C (dk oX10_claim_1 49 rfl) (v := nI 0) (by decide) ?_
                          refine r_istore (lo' := [(4, _), (3, _), (2, _), (1, _), (0, _)]) C (dk oX10_claim_1 50 rfl) (by decide) rfl ?_
                          have L197 : ∀ (d_ : Nat) (k_ : Nat) (I3 : MI), Cc.length - k_ < d_ → k_ ≤ Cc.length → (∀ q, q ≠ 120 → I3 q = (up2 (up2 (up2 Ie 117 25 (nI 0)) 119 (sCl τ).1 (cCo (sT τ) (sL τ))) 121 (sCl τ).1 (nI Cc.length)) q) → (∀ j, I3 120 j = if 120 * (sCl τ).1 ≤ j ∧ j < 120 * (sCl τ).1 + k_ then nI (enc (Cc.getD (j - 120 * (sCl τ).1) 0)) else (up2 (up2 (up2 Ie 117 25 (nI 0)) 119 (sCl τ).1 (cCo (sT τ) (sL τ))) 121 (sCl τ).1 (nI Cc.length)) 120 j) → V p l e (rmL 5) s m args below meth c Q D A 5 0 0 n ad (mE cA ad I3 J) 197 [(0, .ref (ad 117)), (3, .int (nI (sCl τ).1)), (4, .int (nI k_))] [] := by
                            intro d_
                            induction d_ with
                            | zero => intros; exact absurd (by assumption) (Nat.not_lt_zero _)
                            | succ d_ ih => 
                              intro k_ I3 hd_ hk hFc hcp
                              refine r_iload C 2 (dk oX10_claim_1 51 rfl) rfl ?_
                              refine r_aload_n C 0 (dk oX10_claim_1 52 rfl) rfl ?_
                              refine r_getI C (dk oX10_claim_1 53 rfl) fl_X10_178 rfl (km hn rfl) ?_
                              rw [hFc 117 (by decide), up2_ne (by decide), up2_ne (by decide), up2_off (by decide), hq0.2.2.1]
                              refine r_icmp_ge (tgt := 231) C (dk oX10_claim_1 54 rfl) (by decide) (fun hb203 => ?_) (fun hb203 => ?_)
                              · simp (disch := omega) only [nI_leI, nI_ltI, nI_eq, nI_eq0] at hb203
                                refine r_aload_n C 0 (dk oX10_claim_2 9 rfl) rfl ?_
                                refine r_getR C (dk oX10_claim_2 10 rfl) fl_X10_7 rfl (km hn rfl) ?_
                                refine r_iconst C (dk oX10_claim_2 11 rfl) (v := nI 0) (by decide) ?_
                                refine r_dup2 C (dk oX10_claim_2 12 rfl) rfl rfl ?_
                                refine r_iald C 0 (dk oX10_claim_2 13 rfl) rfl (km hn rfl) rfl (by decide) (by decide) ?_
                                rw [hFc 118 (by decide), up2_ne (by decide), up2_ne (by decide), show up2 Ie 117 25 (nI 0) 118 0 = nI (sCl τ).1 from hMr.c0.2.1]
                                refine r_iconst C (dk oX10_claim_2 14 rfl) (v := nI 1) (by decide) ?_
                                refine r_iadd C (dk oX10_claim_2 15 rfl) ?_
                                rw [nI_add]
                                refine r_iast C 0 (dk oX10_claim_2 16 rfl) rfl (km hn rfl) rfl (by decide) (by decide) ?_
                                refine r_iload_n C 1 (dk oX10_claim_2 17 rfl) rfl ?_
                                refine hret (dk oX10_claim_2 18 rfl) rfl ?_
                                refine ⟨stC (rdS τ 0 pl) (adC (sCl τ) (cCo (sT τ) (sL τ)) Cc), (by unfold q_claim; rw [if_neg (by omega), if_neg (by omega)]; exact ⟨0, pl, Cc, hPR, by rw [if_pos rfl]; exact ⟨rfl, rfl⟩⟩), MM.cl (τ := rdS τ 0 pl) (x := cCo (sT τ) (sL τ)) (C := Cc) hMr (by show (sCl τ).1 < 6; omega) hPRok.2 hPRok.1 (fun k hk => ?_) ?_ ?_ ?_ (fun j => ?_), fun k hk => ?_, rfl⟩
                                · rw [up2_ne (by omega), hFc k (by omega), up2_ne (by omega), up2_ne (by omega)]
                                · funext j
                                  rw [up2_eq]
                                  show (if j = 0 then _ else I3 118 j) = _
                                  rw [hFc 118 (by decide), up2_ne (by decide), up2_ne (by decide)]
                                  rfl
                                · rw [up2_ne (by decide), hFc 119 (by decide), up2_ne (by decide), up2_eq]
                                  rfl
                                · rw [up2_ne (by decide), hFc 121 (by decide), up2_eq]
                                  funext j
                                  show (if j = (sCl τ).1 then _ else _) = _
                                  rw [up2_ne (by decide)]
                                  rfl
                                · rw [up2_ne (by decide), hcp j, show k_ = Cc.length by omega, up2_ne (by decide), up2_ne (by decide)]
                                  rfl
                                · rw [up2_ne (by omega), hFc k (by omega), up2_ne (by omega), up2_ne (by omega), up2_ne (by omega), hmE.1 k (by omega) (by omega) (by omega)]
                                  exact hF1 k hk
                              · simp (disch := omega) only [nI_leI, nI_ltI, nI_eq, nI_eq0] at hb203
                                have hb203 : k_ < Cc.length := by omega
                                refine r_aload_n C 0 (dk oX10_claim_1 55 rfl) rfl ?_
                                refine r_getR C (dk oX10_claim_1 56 rfl) fl_X10_16 rfl (km hn rfl) ?_
                                refine r_bipush C (dk oX10_claim_1 57 rfl) (v := nI 120) (by decide) ?_
                                refine r_iload_n C 1 (dk oX10_claim_1 58 rfl) rfl ?_
                                refine r_imul C (dk oX10_claim_1 59 rfl) ?_
                                rw [pk_mul]
                                refine r_iload C 2 (dk oX10_claim_2 0 rfl) rfl ?_
                                refine r_iadd C (dk oX10_claim_2 1 rfl) ?_
                                rw [nI_add]
                                refine r_aload_n C 0 (dk oX10_claim_2 2 rfl) rfl ?_
                                refine r_getR C (dk oX10_claim_2 3 rfl) fl_X10_90 rfl (km hn rfl) ?_
                                refine r_iload C 2 (dk oX10_claim_2 4 rfl) rfl ?_
                                refine r_iald C _ (dk oX10_claim_2 5 rfl) rfl (km hn rfl) rfl (by omega) (by decide) ?_
                                rw [hFc 143 (by decide), up2_ne (by decide), up2_ne (by decide), up2_ne (by decide), hq0.2.2.2 k_ hb203]
                                refine r_iast C _ (dk oX10_claim_2 6 rfl) rfl (km hn rfl) rfl (by omega) (by decide) ?_
                                refine r_iinc (lo' := [(4, _), (0, _), (3, _)]) C 2 (dk oX10_claim_2 7 rfl) rfl (by first | exact nI_inc _ | rfl) (by decide) rfl ?_
                                refine r_goto (tgt := 197) C (dk oX10_claim_2 8 rfl) (by decide) ?_
                                refine V.sub [1, 2, 0] rfl ?_
                                refine ih (k_ + 1) _ (by omega) (by omega) (fun q hq => by rw [up2_ne hq]; exact hFc q hq) (fun j => ?_)
                                by_cases e : j = 120 * (sCl τ).1 + k_
                                · rw [e, up2_at, if_pos (by omega), show 120 * (sCl τ).1 + k_ - 120 * (sCl τ).1 = k_ by omega]
                                · rw [up2_off e, hcp j]
                                  by_cases e2 : 120 * (sCl τ).1 ≤ j ∧ j < 120 * (sCl τ).1 + k_
                                  · rw [if_pos e2, if_pos (by omega)]
                                  · rw [if_neg e2, if_neg (by omega)]
                          refine V.sub [4, 1, 0] rfl ?_
                          exact L197 (Cc.length + 1) 0 _ (by omega) (Nat.zero_le _) (fun _ _ => rfl) (fun j => (if_neg (by omega)).symm)
                        · rw [b32_n] at hb174
                          refine r_iload_n C 1 (dk oX10_claim_1 38 rfl) rfl ?_
                          refine r_ineg C (dk oX10_claim_1 39 rfl) ?_
                          refine r_topI (show -(nI (nmV (sT τ) (sL τ) (cP1 (sT τ) (sL τ)))) = cCo (sT τ) (sL τ) from by unfold cCo; rw [hb174, if_pos rfl]) ?_
                          refine r_goto (tgt := 183) C (dk oX10_claim_1 40 rfl) (by decide) ?_
                          refine r_iast C _ (dk oX10_claim_1 42 rfl) rfl (km hn rfl) rfl (by omega) (by decide) ?_
                          refine r_aload_n C 3 (dk oX10_claim_1 43 rfl) rfl ?_
                          refine r_getR C (dk oX10_claim_1 44 rfl) fl_X10_19 rfl (km hn rfl) ?_
                          refine r_iload_n C 0 (dk oX10_claim_1 45 rfl) rfl ?_
                          refine r_aload_n C 3 (dk oX10_claim_1 46 rfl) rfl ?_
                          refine r_getI C (dk oX10_claim_1 47 rfl) fl_X10_178 rfl (km hn rfl) ?_
                          rw [up2_ne (by decide), up2_off (by decide), hq0.2.2.1]
                          refine r_iast C _ (dk oX10_claim_1 48 rfl) rfl (km hn rfl) rfl (by omega) (by decide) ?_
                          refine r_iconst C (dk oX10_claim_1 49 rfl) (v := nI 0) (by decide) ?_
                          refine r_istore (lo' := [(4, _), (3, _), (2, _), (1, _), (0, _)]) C (dk oX10_claim_1 50 rfl) (by decide) rfl ?_
                          have L197 : ∀ (d_ : Nat) (k_ : Nat) (I3 : MI), Cc.length - k_ < d_ → k_ ≤ Cc.length → (∀ q, q ≠ 120 → I3 q = (up2 (up2 (up2 Ie 117 25 (nI 0)) 119 (sCl τ).1 (cCo (sT τ) (sL τ))) 121 (sCl τ).1 (nI Cc.length)) q) → (∀ j, I3 120 j = if 120 * (sCl τ).1 ≤ j ∧ j < 120 * (sCl τ).1 + k_ then nI (enc (Cc.getD (j - 120 * (sCl τ).1) 0)) else (up2 (up2 (up2 Ie 117 25 (nI 0)) 119 (sCl τ).1 (cCo (sT τ) (sL τ))) 121 (sCl τ).1 (nI Cc.length)) 120 j) → V p l e (rmL 5) s m args below meth c Q D A 5 0 0 n ad (mE cA ad I3 J) 197 [(0, .ref (ad 117)), (3, .int (nI (sCl τ).1)), (4, .int (nI k_))] [] := by
                            intro d_
                            induction d_ with
                            | zero => intros; exact absurd (by assumption) (Nat.not_lt_zero _)
                            | succ d_ ih => 
                              intro k_ I3 hd_ hk hFc hcp
                              refine r_iload C 2 (dk oX10_claim_1 51 rfl) rfl ?_
                              refine r_aload_n C 0 (dk oX10_claim_1 52 rfl) rfl ?_
                              refine r_getI C (dk oX10_claim_1 53 rfl) fl_X10_178 rfl (km hn rfl) ?_
                              rw [hFc 117 (by decide), up2_ne (by decide), up2_ne (by decide), up2_off (by decide), hq0.2.2.1]
                              refine r_icmp_ge (tgt := 231) C (dk oX10_claim_1 54 rfl) (by decide) (fun hb203 => ?_) (fun hb203 => ?_)
                              · simp (disch := omega) only [nI_leI, nI_ltI, nI_eq, nI_eq0] at hb203
                                refine r_aload_n C 0 (dk oX10_claim_2 9 rfl) rfl ?_
                                refine r_getR C (dk oX10_claim_2 10 rfl) fl_X10_7 rfl (km hn rfl) ?_
                                refine r_iconst C (dk oX10_claim_2 11 rfl) (v := nI 0) (by decide) ?_
                                refine r_dup2 C (dk oX10_claim_2 12 rfl) rfl rfl ?_
                                refine r_iald C 0 (dk oX10_claim_2 13 rfl) rfl (km hn rfl) rfl (by decide) (by decide) ?_
                                rw [hFc 118 (by decide), up2_ne (by decide), up2_ne (by decide), show up2 Ie 117 25 (nI 0) 118 0 = nI (sCl τ).1 from hMr.c0.2.1]
                                refine r_iconst C (dk oX10_claim_2 14 rfl) (v := nI 1) (by decide) ?_
                                refine r_iadd C (dk oX10_claim_2 15 rfl) ?_
                                rw [nI_add]
                                refine r_iast C 0 (dk oX10_claim_2 16 rfl) rfl (km hn rfl) rfl (by decide) (by decide) ?_
                                refine r_iload_n C 1 (dk oX10_claim_2 17 rfl) rfl ?_
                                refine hret (dk oX10_claim_2 18 rfl) rfl ?_
                                refine ⟨stC (rdS τ 0 pl) (adC (sCl τ) (cCo (sT τ) (sL τ)) Cc), (by unfold q_claim; rw [if_neg (by omega), if_neg (by omega)]; exact ⟨0, pl, Cc, hPR, by rw [if_pos rfl]; exact ⟨rfl, rfl⟩⟩), MM.cl (τ := rdS τ 0 pl) (x := cCo (sT τ) (sL τ)) (C := Cc) hMr (by show (sCl τ).1 < 6; omega) hPRok.2 hPRok.1 (fun k hk => ?_) ?_ ?_ ?_ (fun j => ?_), fun k hk => ?_, rfl⟩
                                · rw [up2_ne (by omega), hFc k (by omega), up2_ne (by omega), up2_ne (by omega)]
                                · funext j
                                  rw [up2_eq]
                                  show (if j = 0 then _ else I3 118 j) = _
                                  rw [hFc 118 (by decide), up2_ne (by decide), up2_ne (by decide)]
                                  rfl
                                · rw [up2_ne (by decide), hFc 119 (by decide), up2_ne (by decide), up2_eq]
                                  rfl
                                · rw [up2_ne (by decide), hFc 121 (by decide), up2_eq]
                                  funext j
                                  show (if j = (sCl τ).1 then _ else _) = _
                                  rw [up2_ne (by decide)]
                                  rfl
                                · rw [up2_ne (by decide), hcp j, show k_ = Cc.length by omega, up2_ne (by decide), up2_ne (by decide)]
                                  rfl
                                · rw [up2_ne (by omega), hFc k (by omega), up2_ne (by omega), up2_ne (by omega), up2_ne (by omega), hmE.1 k (by omega) (by omega) (by omega)]
                                  exact hF1 k hk
                              · simp (disch := omega) only [nI_leI, nI_ltI, nI_eq, nI_eq0] at hb203
                                have hb203 : k_ < Cc.length := by omega
                                refine r_aload_n C 0 (dk oX10_claim_1 55 rfl) rfl ?_
                                refine r_getR C (dk oX10_claim_1 56 rfl) fl_X10_16 rfl (km hn rfl) ?_
                                refine r_bipush C (dk oX10_claim_1 57 rfl) (v := nI 120) (by decide) ?_
                                refine r_iload_n C 1 (dk oX10_claim_1 58 rfl) rfl ?_
                                refine r_imul C (dk oX10_claim_1 59 rfl) ?_
                                rw [pk_mul]
                                refine r_iload C 2 (dk oX10_claim_2 0 rfl) rfl ?_
                                refine r_iadd C (dk oX10_claim_2 1 rfl) ?_
                                rw [nI_add]
                                refine r_aload_n C 0 (dk oX10_claim_2 2 rfl) rfl ?_
                                refine r_getR C (dk oX10_claim_2 3 rfl) fl_X10_90 rfl (km hn rfl) ?_
                                refine r_iload C 2 (dk oX10_claim_2 4 rfl) rfl ?_
                                refine r_iald C _ (dk oX10_claim_2 5 rfl) rfl (km hn rfl) rfl (by omega) (by decide) ?_
                                rw [hFc 143 (by decide), up2_ne (by decide), up2_ne (by decide), up2_ne (by decide), hq0.2.2.2 k_ hb203]
                                refine r_iast C _ (dk oX10_claim_2 6 rfl) rfl (km hn rfl) rfl (by omega) (by decide) ?_
                                refine r_iinc (lo' := [(4, _), (0, _), (3, _)]) C 2 (dk oX10_claim_2 7 rfl) rfl (by first | exact nI_inc _ | rfl) (by decide) rfl ?_
                                refine r_goto (tgt := 197) C (dk oX10_claim_2 8 rfl) (by decide) ?_
                                refine V.sub [1, 2, 0] rfl ?_
                                refine ih (k_ + 1) _ (by omega) (by omega) (fun q hq => by rw [up2_ne hq]; exact hFc q hq) (fun j => ?_)
                                by_cases e : j = 120 * (sCl τ).1 + k_
                                · rw [e, up2_at, if_pos (by omega), show 120 * (sCl τ).1 + k_ - 120 * (sCl τ).1 = k_ by omega]
                                · rw [up2_off e, hcp j]
                                  by_cases e2 : 120 * (sCl τ).1 ≤ j ∧ j < 120 * (sCl τ).1 + k_
                                  · rw [if_pos e2, if_pos (by omega)]
                                  · rw [if_neg e2, if_neg (by omega)]
                          refine V.sub [4, 1, 0] rfl ?_
                          exact L197 (Cc.length + 1) 0 _ (by omega) (Nat.zero_le _) (fun _ _ => rfl) (fun j => (if_neg (by omega)).symm)
                  · rw [show (0 : Int32) = nI 0 from rfl, nI_leI (by omega) (by omega)] at hb150
                    have hf0 : ¬ fn = 0 := by omega
                    refine r_bipush C (dk oX10_claim_1 23 rfl) (v := -10) (by decide) ?_
                    refine r_aload_n C 2 (dk oX10_claim_1 24 rfl) rfl ?_
                    refine r_getI C (dk oX10_claim_1 25 rfl) fl_X10_145 rfl (km hn rfl) ?_
                    rw [up2_off (by decide), h29e]
                    refine r_isub C (dk oX10_claim_1 26 rfl) ?_
                    refine hret (dk oX10_claim_1 27 rfl) rfl ?_
                    exact ⟨rdS τ fn pl, (by unfold q_claim; rw [if_neg (by omega), if_neg (by omega)]; exact ⟨fn, pl, Cc, hPR, by rw [if_neg hf0]; exact ⟨rfl, rfl⟩⟩), hMr, fun k hk => by rw [up2_ne (by omega), hmE.1 k (by omega) (by omega) (by omega)]; exact hF1 k hk, rfl⟩
            · first
                | (exact absurd hb106 (by decide))
                | have hz106 : (nmF (sT τ) (sL τ) (cP1 (sT τ) (sL τ)) 1 999) = 0 := by
                    have := @nmF_lt (sT τ) (sL τ) (cP1 (sT τ) (sL τ)) 1 999
                    rw [nI_eq0 (by omega)] at hb106
                    exact hb106
                  obtain ⟨hrv, h26v⟩ := hn4 hz106
                  have hrv := hrv.symm
                  subst hrv
                  refine r_aload_n C 2 (dk oX10_claim_0 59 rfl) rfl ?_
                  refine r_ivv C Z (dk oX10_claim_1 0 rfl) cl_X10_162 ci_X10_takeWord rfl (km hn rfl) (c_X10_takeWord hn I94 J (sT τ) (sL τ) hT94 (nE (sT τ) (sL τ) (cP1 (sT τ) (sL τ))) h26v (nE_le hP1L)) rfl rfl (Nat.le_of_ble_eq_true rfl) ⟨Nat.le_of_ble_eq_true rfl, Nat.le_of_ble_eq_true rfl⟩ ⟨Nat.zero_le _, Nat.zero_le _⟩ (fun I110 J110 h110 => ?_)
                  obtain ⟨h26b, h27b, h28b, hfb, e2_⟩ := h110
                  rw [show sk (sT τ) (sL τ) (nE (sT τ) (sL τ) (cP1 (sT τ) (sL τ))) = (cP2 (sT τ) (sL τ)) from rfl] at h26b h27b h28b
                  have e2_ := e2_.symm
                  subst e2_
                  have hP2L : (cP2 (sT τ) (sL τ)) ≤ sL τ := sk_le (nE_le hP1L)
                  refine r_aload_n C 2 (dk oX10_claim_1 1 rfl) rfl ?_
                  refine r_aload_n C 2 (dk oX10_claim_1 2 rfl) rfl ?_
                  refine r_iconst C (dk oX10_claim_1 3 rfl) (v := nI 2) (by decide) ?_
                  refine r_bipush C (dk oX10_claim_1 4 rfl) (v := nI 105) (by decide) ?_
                  refine r_bipush C (dk oX10_claim_1 5 rfl) (v := nI 102) (by decide) ?_
                  refine r_iconst C (dk oX10_claim_1 6 rfl) (v := nI 0) (by decide) ?_
                  refine r_iconst C (dk oX10_claim_1 7 rfl) (v := nI 0) (by decide) ?_
                  refine r_iconst C (dk oX10_claim_1 8 rfl) (v := nI 0) (by decide) ?_
                  refine r_ivi C Z (dk oX10_claim_1 9 rfl) cl_X10_165 ci_X10_isWord rfl (km hn rfl) (c_X10_isWord hn I110 J (sT τ) (sL τ) (hT94.tk hfb) (cP2 (sT τ) (sL τ)) h27b hP2L h28b 2 105 102 0 0 0 (by decide) (by decide) (sWd 2) (by decide)) rfl rfl (Nat.le_of_ble_eq_true rfl) ⟨Nat.le_of_ble_eq_true rfl, Nat.le_of_ble_eq_true rfl⟩ ⟨Nat.zero_le _, Nat.zero_le _⟩ (fun r123 I123 J123 h123 => ?_)
                  obtain ⟨h123, e1_, e2_⟩ := h123
                  have e1_ := e1_.symm
                  have e2_ := e2_.symm
                  subst e1_
                  subst e2_
                  subst h123
                  refine r_topI (show b32 (isW (sT τ) (sL τ) (cP2 (sT τ) (sL τ)) (sWd 2)) = b32 (decide (isW (sT τ) (sL τ) (cP2 (sT τ) (sL τ)) (sWd 2) = true)) from by cases isW (sT τ) (sL τ) (cP2 (sT τ) (sL τ)) (sWd 2) <;> rfl) ?_
                  refine r_iconst C (dk oX10_claim_1 10 rfl) (v := nI 1) (by decide) ?_
                  refine r_aload_n C 2 (dk oX10_claim_1 11 rfl) rfl ?_
                  refine r_getI C (dk oX10_claim_1 12 rfl) fl_X10_152 rfl (km hn rfl) ?_
                  rw [h27b]
                  refine r_ivi C Z (dk oX10_claim_1 13 rfl) cl_X10_173 ci_X10_want rfl (km hn rfl) (c_X10_want hn I110 J (decide (isW (sT τ) (sL τ) (cP2 (sT τ) (sL τ)) (sWd 2) = true)) (nI 1) (nI (cP2 (sT τ) (sL τ))) (nI 0) ((hfb.2 29 (by decide) (by decide) (by decide)).trans (by rw [hn1, hz106]))) rfl rfl (Nat.le_of_ble_eq_true rfl) ⟨Nat.le_of_ble_eq_true rfl, Nat.le_of_ble_eq_true rfl⟩ ⟨Nat.zero_le _, Nat.zero_le _⟩ (fun r131 I131 J131 h131 => ?_)
                  obtain ⟨e1_, hW131, e2_⟩ := h131
                  have e1_ := e1_.symm
                  have e2_ := e2_.symm
                  subst e1_
                  subst e2_
                  refine r_if_eq (tgt := 141) C (dk oX10_claim_1 14 rfl) (by decide) (fun hb134 => ?_) (fun hb134 => ?_)
                  · rw [b32_0, decide_eq_false_iff_not] at hb134
                    have hb134 := want_0 hb134
                    have hI131 := want_t hW131 hb134
                    subst hI131
                    obtain ⟨Ie, hIe⟩ : ∃ X, X = up2 (up2 I110 117 29 (nI 1)) 117 30 (nI (cP2 (sT τ) (sL τ))) := ⟨_, rfl⟩
                    have hE : ∃ fn pl Cc, clE τ I1 (up2 (up2 I110 117 29 (nI 1)) 117 30 (nI (cP2 (sT τ) (sL τ)))) fn pl Cc ∧ fn ≠ 0 := ⟨1, (cP2 (sT τ) (sL τ)), [], ⟨PR_3 hb86 hz106 hb134, ((hBm.tr (hfa.X.m.tr (hnf.X.m.tr hfb.X.m))).up 29 _ (by decide)).up 30 _ (by decide), by rw [up2_off (by decide), up2_at], by rw [up2_at, if_neg (by decide)], fun e => absurd e (by decide)⟩, by decide⟩
                    rw [← hIe] at hE
                    rw [← hIe]
                    clear hIe
                    obtain ⟨fn, pl, Cc, hE1, hne0⟩ := hE
                    obtain ⟨hPR, hmE, h29e, h30e, hqE⟩ := hE1
                    have hfn := hPR.1
                    have hMr := hMM1.rc (f := fn) (pl := pl) hmE h30e
                    refine r_aload_n C 2 (dk oX10_claim_1 17 rfl) rfl ?_
                    refine r_iconst C (dk oX10_claim_1 18 rfl) (v := nI 0) (by decide) ?_
                    refine r_putI C (dk oX10_claim_1 19 rfl) fl_X10_136 ft_10_25 rfl (km hn rfl) ?_
                    refine r_aload_n C 2 (dk oX10_claim_1 20 rfl) rfl ?_
                    refine r_getI C (dk oX10_claim_1 21 rfl) fl_X10_145 rfl (km hn rfl) ?_
                    rw [up2_off (by decide), h29e]
                    refine r_if_le (tgt := 161) C (dk oX10_claim_1 22 rfl) (by decide) (fun hb150 => ?_) (fun hb150 => ?_)
                    · first
                        | (exfalso; rw [show (0 : Int32) = nI 0 from rfl, nI_leI (by omega) (by omega)] at hb150; omega)
                        | rw [show (0 : Int32) = nI 0 from rfl, nI_leI (by omega) (by omega)] at hb150
                          have hf0 : fn = 0 := by omega
                          subst hf0
                          have hq0 := hqE rfl
                          have hPRok := hPR.ok hL12
                          have hlen : Cc.length ≤ 120 := hPRok.1.1
                          refine r_aload_n C 2 (dk oX10_claim_1 28 rfl) rfl ?_
                          refine r_getR C (dk oX10_claim_1 29 rfl) fl_X10_7 rfl (km hn rfl) ?_
                          refine r_iconst C (dk oX10_claim_1 30 rfl) (v := nI 0) (by decide) ?_
                          refine r_iald C 0 (dk oX10_claim_1 31 rfl) rfl (km hn rfl) rfl (by decide) (by decide) ?_
                          rw [show up2 Ie 117 25 (nI 0) 118 0 = nI (sCl τ).1 from hMr.c0.2.1]
                          refine r_istore_n (lo' := [(3, _), (2, _), (1, _), (0, _)]) C (dk oX10_claim_1 32 rfl) rfl (by decide) rfl ?_
                          refine r_aload_n C 3 (dk oX10_claim_1 33 rfl) rfl ?_
                          refine r_getR C (dk oX10_claim_1 34 rfl) fl_X10_13 rfl (km hn rfl) ?_
                          refine r_iload_n C 0 (dk oX10_claim_1 35 rfl) rfl ?_
                          refine r_iload_n C 2 (dk oX10_claim_1 36 rfl) rfl ?_
                          refine r_if_eq (tgt := 182) C (dk oX10_claim_1 37 rfl) (by decide) (fun hb174 => ?_) (fun hb174 => ?_)
                          · rw [b32_0] at hb174
                            refine r_iload_n C 1 (dk oX10_claim_1 41 rfl) rfl ?_
                            refine r_topI (show nI (nmV (sT τ) (sL τ) (cP1 (sT τ) (sL τ))) = cCo (sT τ) (sL τ) from by unfold cCo; rw [hb174, if_neg (by decide)]) ?_
                            refine r_iast C _ (dk oX10_claim_1 42 rfl) rfl (km hn rfl) rfl (by omega) (by decide) ?_
                            refine r_aload_n C 3 (dk oX10_claim_1 43 rfl) rfl ?_
                            refine r_getR C (dk oX10_claim_1 44 rfl) fl_X10_19 rfl (km hn rfl) ?_
                            refine r_iload_n C 0 (dk oX10_claim_1 45 rfl) rfl ?_
                            refine r_aload_n C 3 (dk oX10_claim_1 46 rfl) rfl ?_
                            refine r_getI C (dk oX10_claim_1 47 rfl) fl_X10_178 rfl (km hn rfl) ?_
                            rw [up2_ne (by decide), up2_off (by decide), hq0.2.2.1]
                            refine r_iast C _ (dk oX10_claim_1 48 rfl) rfl (km hn rfl) rfl (by omega) (by decide) ?_
                            refine r_iconst C (dk oX10_claim_1 49 rfl) (v := nI 0) (by decide) ?_
                            refine r_istore (lo' := [(4, _), (3, _), (2, _), (1, _), (0, _)]) C (dk oX10_claim_1 50 rfl) (by decide) rfl ?_
                            have L197 : ∀ (d_ : Nat) (k_ : Nat) (I3 : MI), Cc.length - k_ < d_ → k_ ≤ Cc.length → (∀ q, q ≠ 120 → I3 q = (up2 (up2 (up2 Ie 117 25 (nI 0)) 119 (sCl τ).1 (cCo (sT τ) (sL τ))) 121 (sCl τ).1 (nI Cc.length)) q) → (∀ j, I3 120 j = if 120 * (sCl τ).1 ≤ j ∧ j < 120 * (sCl τ).1 + k_ then nI (enc (Cc.getD (j - 120 * (sCl τ).1) 0)) else (up2 (up2 (up2 Ie 117 25 (nI 0)) 119 (sCl τ).1 (cCo (sT τ) (sL τ))) 121 (sCl τ).1 (nI Cc.length)) 120 j) → V p l e (rmL 5) s m args below meth c Q D A 5 0 0 n ad (mE cA ad I3 J) 197 [(0, .ref (ad 117)), (3, .int (nI (sCl τ).1)), (4, .int (nI k_))] [] := by
                              intro d_
                              induction d_ with
                              | zero => intros; exact absurd (by assumption) (Nat.not_lt_zero _)
                              | succ d_ ih => 
                                intro k_ I3 hd_ hk hFc hcp
                                refine r_iload C 2 (dk oX10_claim_1 51 rfl) rfl ?_
                                refine r_aload_n C 0 (dk oX10_claim_1 52 rfl) rfl ?_
                                refine r_getI C (dk oX10_claim_1 53 rfl) fl_X10_178 rfl (km hn rfl) ?_
                                rw [hFc 117 (by decide), up2_ne (by decide), up2_ne (by decide), up2_off (by decide), hq0.2.2.1]
                                refine r_icmp_ge (tgt := 231) C (dk oX10_claim_1 54 rfl) (by decide) (fun hb203 => ?_) (fun hb203 => ?_)
                                · simp (disch := omega) only [nI_leI, nI_ltI, nI_eq, nI_eq0] at hb203
                                  refine r_aload_n C 0 (dk oX10_claim_2 9 rfl) rfl ?_
                                  refine r_getR C (dk oX10_claim_2 10 rfl) fl_X10_7 rfl (km hn rfl) ?_
                                  refine r_iconst C (dk oX10_claim_2 11 rfl) (v := nI 0) (by decide) ?_
                                  refine r_dup2 C (dk oX10_claim_2 12 rfl) rfl rfl ?_
                                  refine r_iald C 0 (dk oX10_claim_2 13 rfl) rfl (km hn rfl) rfl (by decide) (by decide) ?_
                                  rw [hFc 118 (by decide), up2_ne (by decide), up2_ne (by decide), show up2 Ie 117 25 (nI 0) 118 0 = nI (sCl τ).1 from hMr.c0.2.1]
                                  refine r_iconst C (dk oX10_claim_2 14 rfl) (v := nI 1) (by decide) ?_
                                  refine r_iadd C (dk oX10_claim_2 15 rfl) ?_
                                  rw [nI_add]
                                  refine r_iast C 0 (dk oX10_claim_2 16 rfl) rfl (km hn rfl) rfl (by decide) (by decide) ?_
                                  refine r_iload_n C 1 (dk oX10_claim_2 17 rfl) rfl ?_
                                  refine hret (dk oX10_claim_2 18 rfl) rfl ?_
                                  refine ⟨stC (rdS τ 0 pl) (adC (sCl τ) (cCo (sT τ) (sL τ)) Cc), (by unfold q_claim; rw [if_neg (by omega), if_neg (by omega)]; exact ⟨0, pl, Cc, hPR, by rw [if_pos rfl]; exact ⟨rfl, rfl⟩⟩), MM.cl (τ := rdS τ 0 pl) (x := cCo (sT τ) (sL τ)) (C := Cc) hMr (by show (sCl τ).1 < 6; omega) hPRok.2 hPRok.1 (fun k hk => ?_) ?_ ?_ ?_ (fun j => ?_), fun k hk => ?_, rfl⟩
                                  · rw [up2_ne (by omega), hFc k (by omega), up2_ne (by omega), up2_ne (by omega)]
                                  · funext j
                                    rw [up2_eq]
                                    show (if j = 0 then _ else I3 118 j) = _
                                    rw [hFc 118 (by decide), up2_ne (by decide), up2_ne (by decide)]
                                    rfl
                                  · rw [up2_ne (by decide), hFc 119 (by decide), up2_ne (by decide), up2_eq]
                                    rfl
                                  · rw [up2_ne (by decide), hFc 121 (by decide), up2_eq]
                                    funext j
                                    show (if j = (sCl τ).1 then _ else _) = _
                                    rw [up2_ne (by decide)]
                                    rfl
                                  · rw [up2_ne (by decide), hcp j, show k_ = Cc.length by omega, up2_ne (by decide), up2_ne (by decide)]
                                    rfl
                                  · rw [up2_ne (by omega), hFc k (by omega), up2_ne (by omega), up2_ne (by omega), up2_ne (by omega), hmE.1 k (by omega) (by omega) (by omega)]
                                    exact hF1 k hk
                                · simp (disch := omega) only [nI_leI, nI_ltI, nI_eq, nI_eq0] at hb203
                                  have hb203 : k_ < Cc.length := by omega
                                  refine r_aload_n C 0 (dk oX10_claim_1 55 rfl) rfl ?_
                                  refine r_getR C (dk oX10_claim_1 56 rfl) fl_X10_16 rfl (km hn rfl) ?_
                                  refine r_bipush C (dk oX10_claim_1 57 rfl) (v := nI 120) (by decide) ?_
                                  refine r_iload_n C 1 (dk oX10_claim_1 58 rfl) rfl ?_
                                  refine r_imul C (dk oX10_claim_1 59 rfl) ?_
                                  rw [pk_mul]
                                  refine r_iload C 2 (dk oX10_claim_2 0 rfl) rfl ?_
                                  refine r_iadd C (dk oX10_claim_2 1 rfl) ?_
                                  rw [nI_add]
                                  refine r_aload_n C 0 (dk oX10_claim_2 2 rfl) rfl ?_
                                  refine r_getR C (dk oX10_claim_2 3 rfl) fl_X10_90 rfl (km hn rfl) ?_
                                  refine r_iload C 2 (dk oX10_claim_2 4 rfl) rfl ?_
                                  refine r_iald C _ (dk oX10_claim_2 5 rfl) rfl (km hn rfl) rfl (by omega) (by decide) ?_
                                  rw [hFc 143 (by decide), up2_ne (by decide), up2_ne (by decide), up2_ne (by decide), hq0.2.2.2 k_ hb203]
                                  refine r_iast C _ (dk oX10_claim_2 6 rfl) rfl (km hn rfl) rfl (by omega) (by decide) ?_
                                  refine r_iinc (lo' := [(4, _), (0, _), (3, _)]) C 2 (dk oX10_claim_2 7 rfl) rfl (by first | exact nI_inc _ | rfl) (by decide) rfl ?_
                                  refine r_goto (tgt := 197) C (dk oX10_claim_2 8 rfl) (by decide) ?_
                                  refine V.sub [1, 2, 0] rfl ?_
                                  refine ih (k_ + 1) _ (by omega) (by omega) (fun q hq => by rw [up2_ne hq]; exact hFc q hq) (fun j => ?_)
                                  by_cases e : j = 120 * (sCl τ).1 + k_
                                  · rw [e, up2_at, if_pos (by omega), show 120 * (sCl τ).1 + k_ - 120 * (sCl τ).1 = k_ by omega]
                                  · rw [up2_off e, hcp j]
                                    by_cases e2 : 120 * (sCl τ).1 ≤ j ∧ j < 120 * (sCl τ).1 + k_
                                    · rw [if_pos e2, if_pos (by omega)]
                                    · rw [if_neg e2, if_neg (by omega)]
                            refine V.sub [4, 1, 0] rfl ?_
                            exact L197 (Cc.length + 1) 0 _ (by omega) (Nat.zero_le _) (fun _ _ => rfl) (fun j => (if_neg (by omega)).symm)
                          · rw [b32_n] at hb174
                            refine r_iload_n C 1 (dk oX10_claim_1 38 rfl) rfl ?_
                            refine r_ineg C (dk oX10_claim_1 39 rfl) ?_
                            refine r_topI (show -(nI (nmV (sT τ) (sL τ) (cP1 (sT τ) (sL τ)))) = cCo (sT τ) (sL τ) from by unfold cCo; rw [hb174, if_pos rfl]) ?_
                            refine r_goto (tgt := 183) C (dk oX10_claim_1 40 rfl) (by decide) ?_
                            refine r_iast C _ (dk oX10_claim_1 42 rfl) rfl (km hn rfl) rfl (by omega) (by decide) ?_
                            refine r_aload_n C 3 (dk oX10_claim_1 43 rfl) rfl ?_
                            refine r_getR C (dk oX10_claim_1 44 rfl) fl_X10_19 rfl (km hn rfl) ?_
                            refine r_iload_n C 0 (dk oX10_claim_1 45 rfl) rfl ?_
                            refine r_aload_n C 3 (dk oX10_claim_1 46 rfl) rfl ?_
                            refine r_getI C (dk oX10_claim_1 47 rfl) fl_X10_178 rfl (km hn rfl) ?_
                            rw [up2_ne (by decide), up2_off (by decide), hq0.2.2.1]
                            refine r_iast C _ (dk oX10_claim_1 48 rfl) rfl (km hn rfl) rfl (by omega) (by decide) ?_
                            refine r_iconst C (dk oX10_claim_1 49 rfl) (v := nI 0) (by decide) ?_
                            refine r_istore (lo' := [(4, _), (3, _), (2, _), (1, _), (0, _)]) C (dk oX10_claim_1 50 rfl) (by decide) rfl ?_
                            have L197 : ∀ (d_ : Nat) (k_ : Nat) (I3 : MI), Cc.length - k_ < d_ → k_ ≤ Cc.length → (∀ q, q ≠ 120 → I3 q = (up2 (up2 (up2 Ie 117 25 (nI 0)) 119 (sCl τ).1 (cCo (sT τ) (sL τ))) 121 (sCl τ).1 (nI Cc.length)) q) → (∀ j, I3 120 j = if 120 * (sCl τ).1 ≤ j ∧ j < 120 * (sCl τ).1 + k_ then nI (enc (Cc.getD (j - 120 * (sCl τ).1) 0)) else (up2 (up2 (up2 Ie 117 25 (nI 0)) 119 (sCl τ).1 (cCo (sT τ) (sL τ))) 121 (sCl τ).1 (nI Cc.length)) 120 j) → V p l e (rmL 5) s m args below meth c Q D A 5 0 0 n ad (mE cA ad I3 J) 197 [(0, .ref (ad 117)), (3, .int (nI (sCl τ).1)), (4, .int (nI k_))] [] := by
                              intro d_
                              induction d_ with
                              | zero => intros; exact absurd (by assumption) (Nat.not_lt_zero _)
                              | succ d_ ih => 
                                intro k_ I3 hd_ hk hFc hcp
                                refine r_iload C 2 (dk oX10_claim_1 51 rfl) rfl ?_
                                refine r_aload_n C 0 (dk oX10_claim_1 52 rfl) rfl ?_
                                refine r_getI C (dk oX10_claim_1 53 rfl) fl_X10_178 rfl (km hn rfl) ?_
                                rw [hFc 117 (by decide), up2_ne (by decide), up2_ne (by decide), up2_off (by decide), hq0.2.2.1]
                                refine r_icmp_ge (tgt := 231) C (dk oX10_claim_1 54 rfl) (by decide) (fun hb203 => ?_) (fun hb203 => ?_)
                                · simp (disch := omega) only [nI_leI, nI_ltI, nI_eq, nI_eq0] at hb203
                                  refine r_aload_n C 0 (dk oX10_claim_2 9 rfl) rfl ?_
                                  refine r_getR C (dk oX10_claim_2 10 rfl) fl_X10_7 rfl (km hn rfl) ?_
                                  refine r_iconst C (dk oX10_claim_2 11 rfl) (v := nI 0) (by decide) ?_
                                  refine r_dup2 C (dk oX10_claim_2 12 rfl) rfl rfl ?_
                                  refine r_iald C 0 (dk oX10_claim_2 13 rfl) rfl (km hn rfl) rfl (by decide) (by decide) ?_
                                  rw [hFc 118 (by decide), up2_ne (by decide), up2_ne (by decide), show up2 Ie 117 25 (nI 0) 118 0 = nI (sCl τ).1 from hMr.c0.2.1]
                                  refine r_iconst C (dk oX10_claim_2 14 rfl) (v := nI 1) (by decide) ?_
                                  refine r_iadd C (dk oX10_claim_2 15 rfl) ?_
                                  rw [nI_add]
                                  refine r_iast C 0 (dk oX10_claim_2 16 rfl) rfl (km hn rfl) rfl (by decide) (by decide) ?_
                                  refine r_iload_n C 1 (dk oX10_claim_2 17 rfl) rfl ?_
                                  refine hret (dk oX10_claim_2 18 rfl) rfl ?_
                                  refine ⟨stC (rdS τ 0 pl) (adC (sCl τ) (cCo (sT τ) (sL τ)) Cc), (by unfold q_claim; rw [if_neg (by omega), if_neg (by omega)]; exact ⟨0, pl, Cc, hPR, by rw [if_pos rfl]; exact ⟨rfl, rfl⟩⟩), MM.cl (τ := rdS τ 0 pl) (x := cCo (sT τ) (sL τ)) (C := Cc) hMr (by show (sCl τ).1 < 6; omega) hPRok.2 hPRok.1 (fun k hk => ?_) ?_ ?_ ?_ (fun j => ?_), fun k hk => ?_, rfl⟩
                                  · rw [up2_ne (by omega), hFc k (by omega), up2_ne (by omega), up2_ne (by omega)]
                                  · funext j
                                    rw [up2_eq]
                                    show (if j = 0 then _ else I3 118 j) = _
                                    rw [hFc 118 (by decide), up2_ne (by decide), up2_ne (by decide)]
                                    rfl
                                  · rw [up2_ne (by decide), hFc 119 (by decide), up2_ne (by decide), up2_eq]
                                    rfl
                                  · rw [up2_ne (by decide), hFc 121 (by decide), up2_eq]
                                    funext j
                                    show (if j = (sCl τ).1 then _ else _) = _
                                    rw [up2_ne (by decide)]
                                    rfl
                                  · rw [up2_ne (by decide), hcp j, show k_ = Cc.length by omega, up2_ne (by decide), up2_ne (by decide)]
                                    rfl
                                  · rw [up2_ne (by omega), hFc k (by omega), up2_ne (by omega), up2_ne (by omega), up2_ne (by omega), hmE.1 k (by omega) (by omega) (by omega)]
                                    exact hF1 k hk
                                · simp (disch := omega) only [nI_leI, nI_ltI, nI_eq, nI_eq0] at hb203
                                  have hb203 : k_ < Cc.length := by omega
                                  refine r_aload_n C 0 (dk oX10_claim_1 55 rfl) rfl ?_
                                  refine r_getR C (dk oX10_claim_1 56 rfl) fl_X10_16 rfl (km hn rfl) ?_
                                  refine r_bipush C (dk oX10_claim_1 57 rfl) (v := nI 120) (by decide) ?_
                                  refine r_iload_n C 1 (dk oX10_claim_1 58 rfl) rfl ?_
                                  refine r_imul C (dk oX10_claim_1 59 rfl) ?_
                                  rw [pk_mul]
                                  refine r_iload C 2 (dk oX10_claim_2 0 rfl) rfl ?_
                                  refine r_iadd C (dk oX10_claim_2 1 rfl) ?_
                                  rw [nI_add]
                                  refine r_aload_n C 0 (dk oX10_claim_2 2 rfl) rfl ?_
                                  refine r_getR C (dk oX10_claim_2 3 rfl) fl_X10_90 rfl (km hn rfl) ?_
                                  refine r_iload C 2 (dk oX10_claim_2 4 rfl) rfl ?_
                                  refine r_iald C _ (dk oX10_claim_2 5 rfl) rfl (km hn rfl) rfl (by omega) (by decide) ?_
                                  rw [hFc 143 (by decide), up2_ne (by decide), up2_ne (by decide), up2_ne (by decide), hq0.2.2.2 k_ hb203]
                                  refine r_iast C _ (dk oX10_claim_2 6 rfl) rfl (km hn rfl) rfl (by omega) (by decide) ?_
                                  refine r_iinc (lo' := [(4, _), (0, _), (3, _)]) C 2 (dk oX10_claim_2 7 rfl) rfl (by first | exact nI_inc _ | rfl) (by decide) rfl ?_
                                  refine r_goto (tgt := 197) C (dk oX10_claim_2 8 rfl) (by decide) ?_
                                  refine V.sub [1, 2, 0] rfl ?_
                                  refine ih (k_ + 1) _ (by omega) (by omega) (fun q hq => by rw [up2_ne hq]; exact hFc q hq) (fun j => ?_)
                                  by_cases e : j = 120 * (sCl τ).1 + k_
                                  · rw [e, up2_at, if_pos (by omega), show 120 * (sCl τ).1 + k_ - 120 * (sCl τ).1 = k_ by omega]
                                  · rw [up2_off e, hcp j]
                                    by_cases e2 : 120 * (sCl τ).1 ≤ j ∧ j < 120 * (sCl τ).1 + k_
                                    · rw [if_pos e2, if_pos (by omega)]
                                    · rw [if_neg e2, if_neg (by omega)]
                            refine V.sub [4, 1, 0] rfl ?_
                            exact L197 (Cc.length + 1) 0 _ (by omega) (Nat.zero_le _) (fun _ _ => rfl) (fun j => (if_neg (by omega)).symm)
                    · rw [show (0 : Int32) = nI 0 from rfl, nI_leI (by omega) (by omega)] at hb150
                      have hf0 : ¬ fn = 0 := by omega
                      refine r_bipush C (dk oX10_claim_1 23 rfl) (v := -10) (by decide) ?_
                      refine r_aload_n C 2 (dk oX10_claim_1 24 rfl) rfl ?_
                      refine r_getI C (dk oX10_claim_1 25 rfl) fl_X10_145 rfl (km hn rfl) ?_
                      rw [up2_off (by decide), h29e]
                      refine r_isub C (dk oX10_claim_1 26 rfl) ?_
                      refine hret (dk oX10_claim_1 27 rfl) rfl ?_
                      exact ⟨rdS τ fn pl, (by unfold q_claim; rw [if_neg (by omega), if_neg (by omega)]; exact ⟨fn, pl, Cc, hPR, by rw [if_neg hf0]; exact ⟨rfl, rfl⟩⟩), hMr, fun k hk => by rw [up2_ne (by omega), hmE.1 k (by omega) (by omega) (by omega)]; exact hF1 k hk, rfl⟩
                  · rw [b32_n, decide_eq_true_eq] at hb134
                    have hb134 := want_1 (by decide) hb134
                    have hI131 := want_f hW131 hb134
                    subst hI131
                    refine r_aload_n C 2 (dk oX10_claim_1 15 rfl) rfl ?_
                    refine r_ivv C Z (dk oX10_claim_1 16 rfl) cl_X10_225 ci_X10_takeCase rfl (km hn rfl) (c_X10_takeCase hn I131 J (sT τ) (sL τ) ((cP2 (sT τ) (sL τ)) + 2) hL12 (hT94.tk hfb) (by rw [h26b, wd_end hb134]; rfl) (isW_lt (w := sWd 2) hP2L hb134) ((hfb.2 29 (by decide) (by decide) (by decide)).trans (by rw [hn1, hz106])) ((hfb.2 30 (by decide) (by decide) (by decide)).trans (by rw [hn2, if_pos hz106]; exact (hfa.2 30 (by decide) (by decide) (by decide)).trans hB30))) rfl rfl (Nat.le_of_ble_eq_true rfl) ⟨Nat.le_of_ble_eq_true rfl, Nat.le_of_ble_eq_true rfl⟩ ⟨Nat.zero_le _, Nat.zero_le _⟩ (fun I138 J138 h138 => ?_)
                    obtain ⟨e2_, hX138, f1, p1, C1, hf1, hr0, hq0c, hr1, h29c, h30c⟩ := h138
                    have e2_ := e2_.symm
                    subst e2_
                    obtain ⟨Ie, hIe⟩ : ∃ X, X = I138 := ⟨_, rfl⟩
                    have hE : ∃ fn pl Cc, clE τ I1 (I138) fn pl Cc := ⟨f1, p1, C1, PR_4 hb86 hz106 hb134 hf1 hr0 hr1, (hBm.tr (hfa.X.m.tr (hnf.X.m.tr hfb.X.m))).tr hX138.m, h29c, h30c, hq0c⟩
                    rw [← hIe] at hE
                    rw [← hIe]
                    clear hIe
                    obtain ⟨fn, pl, Cc, hE1⟩ := hE
                    obtain ⟨hPR, hmE, h29e, h30e, hqE⟩ := hE1
                    have hfn := hPR.1
                    have hMr := hMM1.rc (f := fn) (pl := pl) hmE h30e
                    refine r_aload_n C 2 (dk oX10_claim_1 17 rfl) rfl ?_
                    refine r_iconst C (dk oX10_claim_1 18 rfl) (v := nI 0) (by decide) ?_
                    refine r_putI C (dk oX10_claim_1 19 rfl) fl_X10_136 ft_10_25 rfl (km hn rfl) ?_
                    refine r_aload_n C 2 (dk oX10_claim_1 20 rfl) rfl ?_
                    refine r_getI C (dk oX10_claim_1 21 rfl) fl_X10_145 rfl (km hn rfl) ?_
                    rw [up2_off (by decide), h29e]
                    refine r_if_le (tgt := 161) C (dk oX10_claim_1 22 rfl) (by decide) (fun hb150 => ?_) (fun hb150 => ?_)
                    · first
                        | (exfalso; rw [show (0 : Int32) = nI 0 from rfl, nI_leI (by omega) (by omega)] at hb150; omega)
                        | rw [show (0 : Int32) = nI 0 from rfl, nI_leI (by omega) (by omega)] at hb150
                          have hf0 : fn = 0 := by omega
                          subst hf0
                          have hq0 := hqE rfl
                          have hPRok := hPR.ok hL12
                          have hlen : Cc.length ≤ 120 := hPRok.1.1
                          refine r_aload_n C 2 (dk oX10_claim_1 28 rfl) rfl ?_
                          refine r_getR C (dk oX10_claim_1 29 rfl) fl_X10_7 rfl (km hn rfl) ?_
                          refine r_iconst C (dk oX10_claim_1 30 rfl) (v := nI 0) (by decide) ?_
                          refine r_iald C 0 (dk oX10_claim_1 31 rfl) rfl (km hn rfl) rfl (by decide) (by decide) ?_
                          rw [show up2 Ie 117 25 (nI 0) 118 0 = nI (sCl τ).1 from hMr.c0.2.1]
                          refine r_istore_n (lo' := [(3, _), (2, _), (1, _), (0, _)]) C (dk oX10_claim_1 32 rfl) rfl (by decide) rfl ?_
                          refine r_aload_n C 3 (dk oX10_claim_1 33 rfl) rfl ?_
                          refine r_getR C (dk oX10_claim_1 34 rfl) fl_X10_13 rfl (km hn rfl) ?_
                          refine r_iload_n C 0 (dk oX10_claim_1 35 rfl) rfl ?_
                          refine r_iload_n C 2 (dk oX10_claim_1 36 rfl) rfl ?_
                          refine r_if_eq (tgt := 182) C (dk oX10_claim_1 37 rfl) (by decide) (fun hb174 => ?_) (fun hb174 => ?_)
                          · rw [b32_0] at hb174
                            refine r_iload_n C 1 (dk oX10_claim_1 41 rfl) rfl ?_
                            refine r_topI (show nI (nmV (sT τ) (sL τ) (cP1 (sT τ) (sL τ))) = cCo (sT τ) (sL τ) from by unfold cCo; rw [hb174, if_neg (by decide)]) ?_
                            refine r_iast C _ (dk oX10_claim_1 42 rfl) rfl (km hn rfl) rfl (by omega) (by decide) ?_
                            refine r_aload_n C 3 (dk oX10_claim_1 43 rfl) rfl ?_
                            refine r_getR C (dk oX10_claim_1 44 rfl) fl_X10_19 rfl (km hn rfl) ?_
                            refine r_iload_n C 0 (dk oX10_claim_1 45 rfl) rfl ?_
                            refine r_aload_n C 3 (dk oX10_claim_1 46 rfl) rfl ?_
                            refine r_getI C (dk oX10_claim_1 47 rfl) fl_X10_178 rfl (km hn rfl) ?_
                            rw [up2_ne (by decide), up2_off (by decide), hq0.2.2.1]
                            refine r_iast C _ (dk oX10_claim_1 48 rfl) rfl (km hn rfl) rfl (by omega) (by decide) ?_
                            refine r_iconst C (dk oX10_claim_1 49 rfl) (v := nI 0) (by decide) ?_
                            refine r_istore (lo' := [(4, _), (3, _), (2, _), (1, _), (0, _)]) C (dk oX10_claim_1 50 rfl) (by decide) rfl ?_
                            have L197 : ∀ (d_ : Nat) (k_ : Nat) (I3 : MI), Cc.length - k_ < d_ → k_ ≤ Cc.length → (∀ q, q ≠ 120 → I3 q = (up2 (up2 (up2 Ie 117 25 (nI 0)) 119 (sCl τ).1 (cCo (sT τ) (sL τ))) 121 (sCl τ).1 (nI Cc.length)) q) → (∀ j, I3 120 j = if 120 * (sCl τ).1 ≤ j ∧ j < 120 * (sCl τ).1 + k_ then nI (enc (Cc.getD (j - 120 * (sCl τ).1) 0)) else (up2 (up2 (up2 Ie 117 25 (nI 0)) 119 (sCl τ).1 (cCo (sT τ) (sL τ))) 121 (sCl τ).1 (nI Cc.length)) 120 j) → V p l e (rmL 5) s m args below meth c Q D A 5 0 0 n ad (mE cA ad I3 J) 197 [(0, .ref (ad 117)), (3, .int (nI (sCl τ).1)), (4, .int (nI k_))] [] := by
                              intro d_
                              induction d_ with
                              | zero => intros; exact absurd (by assumption) (Nat.not_lt_zero _)
                              | succ d_ ih => 
                                intro k_ I3 hd_ hk hFc hcp
                                refine r_iload C 2 (dk oX10_claim_1 51 rfl) rfl ?_
                                refine r_aload_n C 0 (dk oX10_claim_1 52 rfl) rfl ?_
                                refine r_getI C (dk oX10_claim_1 53 rfl) fl_X10_178 rfl (km hn rfl) ?_
                                rw [hFc 117 (by decide), up2_ne (by decide), up2_ne (by decide), up2_off (by decide), hq0.2.2.1]
                                refine r_icmp_ge (tgt := 231) C (dk oX10_claim_1 54 rfl) (by decide) (fun hb203 => ?_) (fun hb203 => ?_)
                                · simp (disch := omega) only [nI_leI, nI_ltI, nI_eq, nI_eq0] at hb203
                                  refine r_aload_n C 0 (dk oX10_claim_2 9 rfl) rfl ?_
                                  refine r_getR C (dk oX10_claim_2 10 rfl) fl_X10_7 rfl (km hn rfl) ?_
                                  refine r_iconst C (dk oX10_claim_2 11 rfl) (v := nI 0) (by decide) ?_
                                  refine r_dup2 C (dk oX10_claim_2 12 rfl) rfl rfl ?_
                                  refine r_iald C 0 (dk oX10_claim_2 13 rfl) rfl (km hn rfl) rfl (by decide) (by decide) ?_
                                  rw [hFc 118 (by decide), up2_ne (by decide), up2_ne (by decide), show up2 Ie 117 25 (nI 0) 118 0 = nI (sCl τ).1 from hMr.c0.2.1]
                                  refine r_iconst C (dk oX10_claim_2 14 rfl) (v := nI 1) (by decide) ?_
                                  refine r_iadd C (dk oX10_claim_2 15 rfl) ?_
                                  rw [nI_add]
                                  refine r_iast C 0 (dk oX10_claim_2 16 rfl) rfl (km hn rfl) rfl (by decide) (by decide) ?_
                                  refine r_iload_n C 1 (dk oX10_claim_2 17 rfl) rfl ?_
                                  refine hret (dk oX10_claim_2 18 rfl) rfl ?_
                                  refine ⟨stC (rdS τ 0 pl) (adC (sCl τ) (cCo (sT τ) (sL τ)) Cc), (by unfold q_claim; rw [if_neg (by omega), if_neg (by omega)]; exact ⟨0, pl, Cc, hPR, by rw [if_pos rfl]; exact ⟨rfl, rfl⟩⟩), MM.cl (τ := rdS τ 0 pl) (x := cCo (sT τ) (sL τ)) (C := Cc) hMr (by show (sCl τ).1 < 6; omega) hPRok.2 hPRok.1 (fun k hk => ?_) ?_ ?_ ?_ (fun j => ?_), fun k hk => ?_, rfl⟩
                                  · rw [up2_ne (by omega), hFc k (by omega), up2_ne (by omega), up2_ne (by omega)]
                                  · funext j
                                    rw [up2_eq]
                                    show (if j = 0 then _ else I3 118 j) = _
                                    rw [hFc 118 (by decide), up2_ne (by decide), up2_ne (by decide)]
                                    rfl
                                  · rw [up2_ne (by decide), hFc 119 (by decide), up2_ne (by decide), up2_eq]
                                    rfl
                                  · rw [up2_ne (by decide), hFc 121 (by decide), up2_eq]
                                    funext j
                                    show (if j = (sCl τ).1 then _ else _) = _
                                    rw [up2_ne (by decide)]
                                    rfl
                                  · rw [up2_ne (by decide), hcp j, show k_ = Cc.length by omega, up2_ne (by decide), up2_ne (by decide)]
                                    rfl
                                  · rw [up2_ne (by omega), hFc k (by omega), up2_ne (by omega), up2_ne (by omega), up2_ne (by omega), hmE.1 k (by omega) (by omega) (by omega)]
                                    exact hF1 k hk
                                · simp (disch := omega) only [nI_leI, nI_ltI, nI_eq, nI_eq0] at hb203
                                  have hb203 : k_ < Cc.length := by omega
                                  refine r_aload_n C 0 (dk oX10_claim_1 55 rfl) rfl ?_
                                  refine r_getR C (dk oX10_claim_1 56 rfl) fl_X10_16 rfl (km hn rfl) ?_
                                  refine r_bipush C (dk oX10_claim_1 57 rfl) (v := nI 120) (by decide) ?_
                                  refine r_iload_n C 1 (dk oX10_claim_1 58 rfl) rfl ?_
                                  refine r_imul C (dk oX10_claim_1 59 rfl) ?_
                                  rw [pk_mul]
                                  refine r_iload C 2 (dk oX10_claim_2 0 rfl) rfl ?_
                                  refine r_iadd C (dk oX10_claim_2 1 rfl) ?_
                                  rw [nI_add]
                                  refine r_aload_n C 0 (dk oX10_claim_2 2 rfl) rfl ?_
                                  refine r_getR C (dk oX10_claim_2 3 rfl) fl_X10_90 rfl (km hn rfl) ?_
                                  refine r_iload C 2 (dk oX10_claim_2 4 rfl) rfl ?_
                                  refine r_iald C _ (dk oX10_claim_2 5 rfl) rfl (km hn rfl) rfl (by omega) (by decide) ?_
                                  rw [hFc 143 (by decide), up2_ne (by decide), up2_ne (by decide), up2_ne (by decide), hq0.2.2.2 k_ hb203]
                                  refine r_iast C _ (dk oX10_claim_2 6 rfl) rfl (km hn rfl) rfl (by omega) (by decide) ?_
                                  refine r_iinc (lo' := [(4, _), (0, _), (3, _)]) C 2 (dk oX10_claim_2 7 rfl) rfl (by first | exact nI_inc _ | rfl) (by decide) rfl ?_
                                  refine r_goto (tgt := 197) C (dk oX10_claim_2 8 rfl) (by decide) ?_
                                  refine V.sub [1, 2, 0] rfl ?_
                                  refine ih (k_ + 1) _ (by omega) (by omega) (fun q hq => by rw [up2_ne hq]; exact hFc q hq) (fun j => ?_)
                                  by_cases e : j = 120 * (sCl τ).1 + k_
                                  · rw [e, up2_at, if_pos (by omega), show 120 * (sCl τ).1 + k_ - 120 * (sCl τ).1 = k_ by omega]
                                  · rw [up2_off e, hcp j]
                                    by_cases e2 : 120 * (sCl τ).1 ≤ j ∧ j < 120 * (sCl τ).1 + k_
                                    · rw [if_pos e2, if_pos (by omega)]
                                    · rw [if_neg e2, if_neg (by omega)]
                            refine V.sub [4, 1, 0] rfl ?_
                            exact L197 (Cc.length + 1) 0 _ (by omega) (Nat.zero_le _) (fun _ _ => rfl) (fun j => (if_neg (by omega)).symm)
                          · rw [b32_n] at hb174
                            refine r_iload_n C 1 (dk oX10_claim_1 38 rfl) rfl ?_
                            refine r_ineg C (dk oX10_claim_1 39 rfl) ?_
                            refine r_topI (show -(nI (nmV (sT τ) (sL τ) (cP1 (sT τ) (sL τ)))) = cCo (sT τ) (sL τ) from by unfold cCo; rw [hb174, if_pos rfl]) ?_
                            refine r_goto (tgt := 183) C (dk oX10_claim_1 40 rfl) (by decide) ?_
                            refine r_iast C _ (dk oX10_claim_1 42 rfl) rfl (km hn rfl) rfl (by omega) (by decide) ?_
                            refine r_aload_n C 3 (dk oX10_claim_1 43 rfl) rfl ?_
                            refine r_getR C (dk oX10_claim_1 44 rfl) fl_X10_19 rfl (km hn rfl) ?_
                            refine r_iload_n C 0 (dk oX10_claim_1 45 rfl) rfl ?_
                            refine r_aload_n C 3 (dk oX10_claim_1 46 rfl) rfl ?_
                            refine r_getI C (dk oX10_claim_1 47 rfl) fl_X10_178 rfl (km hn rfl) ?_
                            rw [up2_ne (by decide), up2_off (by decide), hq0.2.2.1]
                            refine r_iast C _ (dk oX10_claim_1 48 rfl) rfl (km hn rfl) rfl (by omega) (by decide) ?_
                            refine r_iconst C (dk oX10_claim_1 49 rfl) (v := nI 0) (by decide) ?_
                            refine r_istore (lo' := [(4, _), (3, _), (2, _), (1, _), (0, _)]) C (dk oX10_claim_1 50 rfl) (by decide) rfl ?_
                            have L197 : ∀ (d_ : Nat) (k_ : Nat) (I3 : MI), Cc.length - k_ < d_ → k_ ≤ Cc.length → (∀ q, q ≠ 120 → I3 q = (up2 (up2 (up2 Ie 117 25 (nI 0)) 119 (sCl τ).1 (cCo (sT τ) (sL τ))) 121 (sCl τ).1 (nI Cc.length)) q) → (∀ j, I3 120 j = if 120 * (sCl τ).1 ≤ j ∧ j < 120 * (sCl τ).1 + k_ then nI (enc (Cc.getD (j - 120 * (sCl τ).1) 0)) else (up2 (up2 (up2 Ie 117 25 (nI 0)) 119 (sCl τ).1 (cCo (sT τ) (sL τ))) 121 (sCl τ).1 (nI Cc.length)) 120 j) → V p l e (rmL 5) s m args below meth c Q D A 5 0 0 n ad (mE cA ad I3 J) 197 [(0, .ref (ad 117)), (3, .int (nI (sCl τ).1)), (4, .int (nI k_))] [] := by
                              intro d_
                              induction d_ with
                              | zero => intros; exact absurd (by assumption) (Nat.not_lt_zero _)
                              | succ d_ ih => 
                                intro k_ I3 hd_ hk hFc hcp
                                refine r_iload C 2 (dk oX10_claim_1 51 rfl) rfl ?_
                                refine r_aload_n C 0 (dk oX10_claim_1 52 rfl) rfl ?_
                                refine r_getI C (dk oX10_claim_1 53 rfl) fl_X10_178 rfl (km hn rfl) ?_
                                rw [hFc 117 (by decide), up2_ne (by decide), up2_ne (by decide), up2_off (by decide), hq0.2.2.1]
                                refine r_icmp_ge (tgt := 231) C (dk oX10_claim_1 54 rfl) (by decide) (fun hb203 => ?_) (fun hb203 => ?_)
                                · simp (disch := omega) only [nI_leI, nI_ltI, nI_eq, nI_eq0] at hb203
                                  refine r_aload_n C 0 (dk oX10_claim_2 9 rfl) rfl ?_
                                  refine r_getR C (dk oX10_claim_2 10 rfl) fl_X10_7 rfl (km hn rfl) ?_
                                  refine r_iconst C (dk oX10_claim_2 11 rfl) (v := nI 0) (by decide) ?_
                                  refine r_dup2 C (dk oX10_claim_2 12 rfl) rfl rfl ?_
                                  refine r_iald C 0 (dk oX10_claim_2 13 rfl) rfl (km hn rfl) rfl (by decide) (by decide) ?_
                                  rw [hFc 118 (by decide), up2_ne (by decide), up2_ne (by decide), show up2 Ie 117 25 (nI 0) 118 0 = nI (sCl τ).1 from hMr.c0.2.1]
                                  refine r_iconst C (dk oX10_claim_2 14 rfl) (v := nI 1) (by decide) ?_
                                  refine r_iadd C (dk oX10_claim_2 15 rfl) ?_
                                  rw [nI_add]
                                  refine r_iast C 0 (dk oX10_claim_2 16 rfl) rfl (km hn rfl) rfl (by decide) (by decide) ?_
                                  refine r_iload_n C 1 (dk oX10_claim_2 17 rfl) rfl ?_
                                  refine hret (dk oX10_claim_2 18 rfl) rfl ?_
                                  refine ⟨stC (rdS τ 0 pl) (adC (sCl τ) (cCo (sT τ) (sL τ)) Cc), (by unfold q_claim; rw [if_neg (by omega), if_neg (by omega)]; exact ⟨0, pl, Cc, hPR, by rw [if_pos rfl]; exact ⟨rfl, rfl⟩⟩), MM.cl (τ := rdS τ 0 pl) (x := cCo (sT τ) (sL τ)) (C := Cc) hMr (by show (sCl τ).1 < 6; omega) hPRok.2 hPRok.1 (fun k hk => ?_) ?_ ?_ ?_ (fun j => ?_), fun k hk => ?_, rfl⟩
                                  · rw [up2_ne (by omega), hFc k (by omega), up2_ne (by omega), up2_ne (by omega)]
                                  · funext j
                                    rw [up2_eq]
                                    show (if j = 0 then _ else I3 118 j) = _
                                    rw [hFc 118 (by decide), up2_ne (by decide), up2_ne (by decide)]
                                    rfl
                                  · rw [up2_ne (by decide), hFc 119 (by decide), up2_ne (by decide), up2_eq]
                                    rfl
                                  · rw [up2_ne (by decide), hFc 121 (by decide), up2_eq]
                                    funext j
                                    show (if j = (sCl τ).1 then _ else _) = _
                                    rw [up2_ne (by decide)]
                                    rfl
                                  · rw [up2_ne (by decide), hcp j, show k_ = Cc.length by omega, up2_ne (by decide), up2_ne (by decide)]
                                    rfl
                                  · rw [up2_ne (by omega), hFc k (by omega), up2_ne (by omega), up2_ne (by omega), up2_ne (by omega), hmE.1 k (by omega) (by omega) (by omega)]
                                    exact hF1 k hk
                                · simp (disch := omega) only [nI_leI, nI_ltI, nI_eq, nI_eq0] at hb203
                                  have hb203 : k_ < Cc.length := by omega
                                  refine r_aload_n C 0 (dk oX10_claim_1 55 rfl) rfl ?_
                                  refine r_getR C (dk oX10_claim_1 56 rfl) fl_X10_16 rfl (km hn rfl) ?_
                                  refine r_bipush C (dk oX10_claim_1 57 rfl) (v := nI 120) (by decide) ?_
                                  refine r_iload_n C 1 (dk oX10_claim_1 58 rfl) rfl ?_
                                  refine r_imul C (dk oX10_claim_1 59 rfl) ?_
                                  rw [pk_mul]
                                  refine r_iload C 2 (dk oX10_claim_2 0 rfl) rfl ?_
                                  refine r_iadd C (dk oX10_claim_2 1 rfl) ?_
                                  rw [nI_add]
                                  refine r_aload_n C 0 (dk oX10_claim_2 2 rfl) rfl ?_
                                  refine r_getR C (dk oX10_claim_2 3 rfl) fl_X10_90 rfl (km hn rfl) ?_
                                  refine r_iload C 2 (dk oX10_claim_2 4 rfl) rfl ?_
                                  refine r_iald C _ (dk oX10_claim_2 5 rfl) rfl (km hn rfl) rfl (by omega) (by decide) ?_
                                  rw [hFc 143 (by decide), up2_ne (by decide), up2_ne (by decide), up2_ne (by decide), hq0.2.2.2 k_ hb203]
                                  refine r_iast C _ (dk oX10_claim_2 6 rfl) rfl (km hn rfl) rfl (by omega) (by decide) ?_
                                  refine r_iinc (lo' := [(4, _), (0, _), (3, _)]) C 2 (dk oX10_claim_2 7 rfl) rfl (by first | exact nI_inc _ | rfl) (by decide) rfl ?_
                                  refine r_goto (tgt := 197) C (dk oX10_claim_2 8 rfl) (by decide) ?_
                                  refine V.sub [1, 2, 0] rfl ?_
                                  refine ih (k_ + 1) _ (by omega) (by omega) (fun q hq => by rw [up2_ne hq]; exact hFc q hq) (fun j => ?_)
                                  by_cases e : j = 120 * (sCl τ).1 + k_
                                  · rw [e, up2_at, if_pos (by omega), show 120 * (sCl τ).1 + k_ - 120 * (sCl τ).1 = k_ by omega]
                                  · rw [up2_off e, hcp j]
                                    by_cases e2 : 120 * (sCl τ).1 ≤ j ∧ j < 120 * (sCl τ).1 + k_
                                    · rw [if_pos e2, if_pos (by omega)]
                                    · rw [if_neg e2, if_neg (by omega)]
                            refine V.sub [4, 1, 0] rfl ?_
                            exact L197 (Cc.length + 1) 0 _ (by omega) (Nat.zero_le _) (fun _ _ => rfl) (fun j => (if_neg (by omega)).symm)
                    · rw [show (0 : Int32) = nI 0 from rfl, nI_leI (by omega) (by omega)] at hb150
                      have hf0 : ¬ fn = 0 := by omega
                      refine r_bipush C (dk oX10_claim_1 23 rfl) (v := -10) (by decide) ?_
                      refine r_aload_n C 2 (dk oX10_claim_1 24 rfl) rfl ?_
                      refine r_getI C (dk oX10_claim_1 25 rfl) fl_X10_145 rfl (km hn rfl) ?_
                      rw [up2_off (by decide), h29e]
                      refine r_isub C (dk oX10_claim_1 26 rfl) ?_
                      refine hret (dk oX10_claim_1 27 rfl) rfl ?_
                      exact ⟨rdS τ fn pl, (by unfold q_claim; rw [if_neg (by omega), if_neg (by omega)]; exact ⟨fn, pl, Cc, hPR, by rw [if_neg hf0]; exact ⟨rfl, rfl⟩⟩), hMr, fun k hk => by rw [up2_ne (by omega), hmE.1 k (by omega) (by omega) (by omega)]; exact hF1 k hk, rfl⟩
          · rw [b32_n, decide_eq_true_eq] at hb86
            have hb86 := want_1 (by decide) hb86
            have hI83 := want_f hW83 hb86
            subst hI83
            have hs3L : (sk (sT τ) (sL τ) 0) + 3 ≤ sL τ := by
              rcases hb86 with h | h
              · exact isW_lt (w := sWd 0) hs0L h
              · exact isW_lt (w := sWd 1) hs0L h
            refine r_aload_n C 1 (dk oX10_claim_0 49 rfl) rfl ?_
            refine r_iconst C (dk oX10_claim_0 50 rfl) (v := nI 1) (by decide) ?_
            refine r_sipush C (dk oX10_claim_0 51 rfl) (v := nI 999) (by decide) ?_
            refine r_ivi C Z (dk oX10_claim_0 52 rfl) cl_X10_204 ci_X10_takeNumber rfl (km hn rfl) (c_X10_takeNumber hn I83 J (sT τ) (sL τ) (hTB.tk hfa) ((sk (sT τ) (sL τ) 0) + 3) (by rw [h26a, cPw hb86]) hs3L ((hfa.2 29 (by decide) (by decide) (by decide)).trans hB29) 1 999 (by decide) (by decide)) rfl rfl (Nat.le_of_ble_eq_true rfl) ⟨Nat.le_of_ble_eq_true rfl, Nat.le_of_ble_eq_true rfl⟩ ⟨Nat.zero_le _, Nat.zero_le _⟩ (fun r94 I94 J94 h94 => ?_)
            obtain ⟨hn1, hn2, hn3, hn4, hn5, hnf, e2_⟩ := h94
            rw [show sk (sT τ) (sL τ) ((sk (sT τ) (sL τ) 0) + 3) = (cP1 (sT τ) (sL τ)) from rfl] at hn1 hn2 hn3 hn4
            have e2_ := e2_.symm
            subst e2_
            have hP1L : (cP1 (sT τ) (sL τ)) ≤ sL τ := sk_le hs3L
            have hT94 : MTx I94 (sT τ) (sL τ) := (hTB.tk hfa).of (hnf.2 25 (by decide) (by decide) (by decide) (by decide)) (hnf.1 141 (by decide))
            refine r_goto (tgt := 101) C (dk oX10_claim_0 53 rfl) (by decide) ?_
            refine r_istore_n (lo' := [(2, _), (1, _), (0, _)]) C (dk oX10_claim_0 55 rfl) rfl (by decide) rfl ?_
            refine r_aload_n C 2 (dk oX10_claim_0 56 rfl) rfl ?_
            refine r_getI C (dk oX10_claim_0 57 rfl) fl_X10_145 rfl (km hn rfl) ?_
            first
              | rw [hn1]
              | rw [up2_off (by decide), up2_at]
            refine r_if_ne (tgt := 141) C (dk oX10_claim_0 58 rfl) (by decide) (fun hb106 => ?_) (fun hb106 => ?_)
            · first
                | (fail)
                | have hz106 : ¬ (nmF (sT τ) (sL τ) (cP1 (sT τ) (sL τ)) 1 999) = 0 := by
                    have := @nmF_lt (sT τ) (sL τ) (cP1 (sT τ) (sL τ)) 1 999
                    rw [nI_eq0 (by omega)] at hb106
                    exact hb106
                  obtain ⟨Ie, hIe⟩ : ∃ X, X = I94 := ⟨_, rfl⟩
                  have hE : ∃ fn pl Cc, clE τ I1 (I94) fn pl Cc ∧ fn ≠ 0 := ⟨(nmF (sT τ) (sL τ) (cP1 (sT τ) (sL τ)) 1 999), (cP1 (sT τ) (sL τ)), [], ⟨PR_2 hb86 hz106, (hBm.tr hfa.X.m).tr hnf.X.m, hn1, by rw [hn2, if_neg hz106, if_neg hz106], fun e => absurd e hz106⟩, hz106⟩
                  rw [← hIe] at hE
                  rw [← hIe]
                  clear hIe
                  obtain ⟨fn, pl, Cc, hE1, hne0⟩ := hE
                  obtain ⟨hPR, hmE, h29e, h30e, hqE⟩ := hE1
                  have hfn := hPR.1
                  have hMr := hMM1.rc (f := fn) (pl := pl) hmE h30e
                  refine r_aload_n C 2 (dk oX10_claim_1 17 rfl) rfl ?_
                  refine r_iconst C (dk oX10_claim_1 18 rfl) (v := nI 0) (by decide) ?_
                  refine r_putI C (dk oX10_claim_1 19 rfl) fl_X10_136 ft_10_25 rfl (km hn rfl) ?_
                  refine r_aload_n C 2 (dk oX10_claim_1 20 rfl) rfl ?_
                  refine r_getI C (dk oX10_claim_1 21 rfl) fl_X10_145 rfl (km hn rfl) ?_
                  rw [up2_off (by decide), h29e]
                  refine r_if_le (tgt := 161) C (dk oX10_claim_1 22 rfl) (by decide) (fun hb150 => ?_) (fun hb150 => ?_)
                  · first
                      | (exfalso; rw [show (0 : Int32) = nI 0 from rfl, nI_leI (by omega) (by omega)] at hb150; omega)
                      | rw [show (0 : Int32) = nI 0 from rfl, nI_leI (by omega) (by omega)] at hb150
                        have hf0 : fn = 0 := by omega
                        subst hf0
                        have hq0 := hqE rfl
                        have hPRok := hPR.ok hL12
                        have hlen : Cc.length ≤ 120 := hPRok.1.1
                        refine r_aload_n C 2 (dk oX10_claim_1 28 rfl) rfl ?_
                        refine r_getR C (dk oX10_claim_1 29 rfl) fl_X10_7 rfl (km hn rfl) ?_
                        refine r_iconst C (dk oX10_claim_1 30 rfl) (v := nI 0) (by decide) ?_
                        refine r_iald C 0 (dk oX10_claim_1 31 rfl) rfl (km hn rfl) rfl (by decide) (by decide) ?_
                        rw [show up2 Ie 117 25 (nI 0) 118 0 = nI (sCl τ).1 from hMr.c0.2.1]
                        refine r_istore_n (lo' := [(3, _), (2, _), (1, _), (0, _)]) C (dk oX10_claim_1 32 rfl) rfl (by decide) rfl ?_
                        refine r_aload_n C 3 (dk oX10_claim_1 33 rfl) rfl ?_
                        refine r_getR C (dk oX10_claim_1 34 rfl) fl_X10_13 rfl (km hn rfl) ?_
                        refine r_iload_n C 0 (dk oX10_claim_1 35 rfl) rfl ?_
                        refine r_iload_n C 2 (dk oX10_claim_1 36 rfl) rfl ?_
                        refine r_if_eq (tgt := 182) C (dk oX10_claim_1 37 rfl) (by decide) (fun hb174 => ?_) (fun hb174 => ?_)
                        · rw [b32_0] at hb174
                          refine r_iload_n C 1 (dk oX10_claim_1 41 rfl) rfl ?_
                          refine r_topI (show nI (nmV (sT τ) (sL τ) (cP1 (sT τ) (sL τ))) = cCo (sT τ) (sL τ) from by unfold cCo; rw [hb174, if_neg (by decide)]) ?_
                          refine r_iast C _ (dk oX10_claim_1 42 rfl) rfl (km hn rfl) rfl (by omega) (by decide) ?_
                          refine r_aload_n C 3 (dk oX10_claim_1 43 rfl) rfl ?_
                          refine r_getR C (dk oX10_claim_1 44 rfl) fl_X10_19 rfl (km hn rfl) ?_
                          refine r_iload_n C 0 (dk oX10_claim_1 45 rfl) rfl ?_
                          refine r_aload_n C 3 (dk oX10_claim_1 46 rfl) rfl ?_
                          refine r_getI C (dk oX10_claim_1 47 rfl) fl_X10_178 rfl (km hn rfl) ?_
                          rw [up2_ne (by decide), up2_off (by decide), hq0.2.2.1]
                          refine r_iast C _ (dk oX10_claim_1 48 rfl) rfl (km hn rfl) rfl (by omega) (by decide) ?_
                          refine r_iconst C (dk oX10_claim_1 49 rfl) (v := nI 0) (by decide) ?_
                          refine r_istore (lo' := [(4, _), (3, _), (2, _), (1, _), (0, _)]) C (dk oX10_claim_1 50 rfl) (by decide) rfl ?_
                          have L197 : ∀ (d_ : Nat) (k_ : Nat) (I3 : MI), Cc.length - k_ < d_ → k_ ≤ Cc.length → (∀ q, q ≠ 120 → I3 q = (up2 (up2 (up2 Ie 117 25 (nI 0)) 119 (sCl τ).1 (cCo (sT τ) (sL τ))) 121 (sCl τ).1 (nI Cc.length)) q) → (∀ j, I3 120 j = if 120 * (sCl τ).1 ≤ j ∧ j < 120 * (sCl τ).1 + k_ then nI (enc (Cc.getD (j - 120 * (sCl τ).1) 0)) else (up2 (up2 (up2 Ie 117 25 (nI 0)) 119 (sCl τ).1 (cCo (sT τ) (sL τ))) 121 (sCl τ).1 (nI Cc.length)) 120 j) → V p l e (rmL 5) s m args below meth c Q D A 5 0 0 n ad (mE cA ad I3 J) 197 [(0, .ref (ad 117)), (3, .int (nI (sCl τ).1)), (4, .int (nI k_))] [] := by
                            intro d_
                            induction d_ with
                            | zero => intros; exact absurd (by assumption) (Nat.not_lt_zero _)
                            | succ d_ ih => 
                              intro k_ I3 hd_ hk hFc hcp
                              refine r_iload C 2 (dk oX10_claim_1 51 rfl) rfl ?_
                              refine r_aload_n C 0 (dk oX10_claim_1 52 rfl) rfl ?_
                              refine r_getI C (dk oX10_claim_1 53 rfl) fl_X10_178 rfl (km hn rfl) ?_
                              rw [hFc 117 (by decide), up2_ne (by decide), up2_ne (by decide), up2_off (by decide), hq0.2.2.1]
                              refine r_icmp_ge (tgt := 231) C (dk oX10_claim_1 54 rfl) (by decide) (fun hb203 => ?_) (fun hb203 => ?_)
                              · simp (disch := omega) only [nI_leI, nI_ltI, nI_eq, nI_eq0] at hb203
                                refine r_aload_n C 0 (dk oX10_claim_2 9 rfl) rfl ?_
                                refine r_getR C (dk oX10_claim_2 10 rfl) fl_X10_7 rfl (km hn rfl) ?_
                                refine r_iconst C (dk oX10_claim_2 11 rfl) (v := nI 0) (by decide) ?_
                                refine r_dup2 C (dk oX10_claim_2 12 rfl) rfl rfl ?_
                                refine r_iald C 0 (dk oX10_claim_2 13 rfl) rfl (km hn rfl) rfl (by decide) (by decide) ?_
                                rw [hFc 118 (by decide), up2_ne (by decide), up2_ne (by decide), show up2 Ie 117 25 (nI 0) 118 0 = nI (sCl τ).1 from hMr.c0.2.1]
                                refine r_iconst C (dk oX10_claim_2 14 rfl) (v := nI 1) (by decide) ?_
                                refine r_iadd C (dk oX10_claim_2 15 rfl) ?_
                                rw [nI_add]
                                refine r_iast C 0 (dk oX10_claim_2 16 rfl) rfl (km hn rfl) rfl (by decide) (by decide) ?_
                                refine r_iload_n C 1 (dk oX10_claim_2 17 rfl) rfl ?_
                                refine hret (dk oX10_claim_2 18 rfl) rfl ?_
                                refine ⟨stC (rdS τ 0 pl) (adC (sCl τ) (cCo (sT τ) (sL τ)) Cc), (by unfold q_claim; rw [if_neg (by omega), if_neg (by omega)]; exact ⟨0, pl, Cc, hPR, by rw [if_pos rfl]; exact ⟨rfl, rfl⟩⟩), MM.cl (τ := rdS τ 0 pl) (x := cCo (sT τ) (sL τ)) (C := Cc) hMr (by show (sCl τ).1 < 6; omega) hPRok.2 hPRok.1 (fun k hk => ?_) ?_ ?_ ?_ (fun j => ?_), fun k hk => ?_, rfl⟩
                                · rw [up2_ne (by omega), hFc k (by omega), up2_ne (by omega), up2_ne (by omega)]
                                · funext j
                                  rw [up2_eq]
                                  show (if j = 0 then _ else I3 118 j) = _
                                  rw [hFc 118 (by decide), up2_ne (by decide), up2_ne (by decide)]
                                  rfl
                                · rw [up2_ne (by decide), hFc 119 (by decide), up2_ne (by decide), up2_eq]
                                  rfl
                                · rw [up2_ne (by decide), hFc 121 (by decide), up2_eq]
                                  funext j
                                  show (if j = (sCl τ).1 then _ else _) = _
                                  rw [up2_ne (by decide)]
                                  rfl
                                · rw [up2_ne (by decide), hcp j, show k_ = Cc.length by omega, up2_ne (by decide), up2_ne (by decide)]
                                  rfl
                                · rw [up2_ne (by omega), hFc k (by omega), up2_ne (by omega), up2_ne (by omega), up2_ne (by omega), hmE.1 k (by omega) (by omega) (by omega)]
                                  exact hF1 k hk
                              · simp (disch := omega) only [nI_leI, nI_ltI, nI_eq, nI_eq0] at hb203
                                have hb203 : k_ < Cc.length := by omega
                                refine r_aload_n C 0 (dk oX10_claim_1 55 rfl) rfl ?_
                                refine r_getR C (dk oX10_claim_1 56 rfl) fl_X10_16 rfl (km hn rfl) ?_
                                refine r_bipush C (dk oX10_claim_1 57 rfl) (v := nI 120) (by decide) ?_
                                refine r_iload_n C 1 (dk oX10_claim_1 58 rfl) rfl ?_
                                refine r_imul C (dk oX10_claim_1 59 rfl) ?_
                                rw [pk_mul]
                                refine r_iload C 2 (dk oX10_claim_2 0 rfl) rfl ?_
                                refine r_iadd C (dk oX10_claim_2 1 rfl) ?_
                                rw [nI_add]
                                refine r_aload_n C 0 (dk oX10_claim_2 2 rfl) rfl ?_
                                refine r_getR C (dk oX10_claim_2 3 rfl) fl_X10_90 rfl (km hn rfl) ?_
                                refine r_iload C 2 (dk oX10_claim_2 4 rfl) rfl ?_
                                refine r_iald C _ (dk oX10_claim_2 5 rfl) rfl (km hn rfl) rfl (by omega) (by decide) ?_
                                rw [hFc 143 (by decide), up2_ne (by decide), up2_ne (by decide), up2_ne (by decide), hq0.2.2.2 k_ hb203]
                                refine r_iast C _ (dk oX10_claim_2 6 rfl) rfl (km hn rfl) rfl (by omega) (by decide) ?_
                                refine r_iinc (lo' := [(4, _), (0, _), (3, _)]) C 2 (dk oX10_claim_2 7 rfl) rfl (by first | exact nI_inc _ | rfl) (by decide) rfl ?_
                                refine r_goto (tgt := 197) C (dk oX10_claim_2 8 rfl) (by decide) ?_
                                refine V.sub [1, 2, 0] rfl ?_
                                refine ih (k_ + 1) _ (by omega) (by omega) (fun q hq => by rw [up2_ne hq]; exact hFc q hq) (fun j => ?_)
                                by_cases e : j = 120 * (sCl τ).1 + k_
                                · rw [e, up2_at, if_pos (by omega), show 120 * (sCl τ).1 + k_ - 120 * (sCl τ).1 = k_ by omega]
                                · rw [up2_off e, hcp j]
                                  by_cases e2 : 120 * (sCl τ).1 ≤ j ∧ j < 120 * (sCl τ).1 + k_
                                  · rw [if_pos e2, if_pos (by omega)]
                                  · rw [if_neg e2, if_neg (by omega)]
                          refine V.sub [4, 1, 0] rfl ?_
                          exact L197 (Cc.length + 1) 0 _ (by omega) (Nat.zero_le _) (fun _ _ => rfl) (fun j => (if_neg (by omega)).symm)
                        · rw [b32_n] at hb174
                          refine r_iload_n C 1 (dk oX10_claim_1 38 rfl) rfl ?_
                          refine r_ineg C (dk oX10_claim_1 39 rfl) ?_
                          refine r_topI (show -(nI (nmV (sT τ) (sL τ) (cP1 (sT τ) (sL τ)))) = cCo (sT τ) (sL τ) from by unfold cCo; rw [hb174, if_pos rfl]) ?_
                          refine r_goto (tgt := 183) C (dk oX10_claim_1 40 rfl) (by decide) ?_
                          refine r_iast C _ (dk oX10_claim_1 42 rfl) rfl (km hn rfl) rfl (by omega) (by decide) ?_
                          refine r_aload_n C 3 (dk oX10_claim_1 43 rfl) rfl ?_
                          refine r_getR C (dk oX10_claim_1 44 rfl) fl_X10_19 rfl (km hn rfl) ?_
                          refine r_iload_n C 0 (dk oX10_claim_1 45 rfl) rfl ?_
                          refine r_aload_n C 3 (dk oX10_claim_1 46 rfl) rfl ?_
                          refine r_getI C (dk oX10_claim_1 47 rfl) fl_X10_178 rfl (km hn rfl) ?_
                          rw [up2_ne (by decide), up2_off (by decide), hq0.2.2.1]
                          refine r_iast C _ (dk oX10_claim_1 48 rfl) rfl (km hn rfl) rfl (by omega) (by decide) ?_
                          refine r_iconst C (dk oX10_claim_1 49 rfl) (v := nI 0) (by decide) ?_
                          refine r_istore (lo' := [(4, _), (3, _), (2, _), (1, _), (0, _)]) C (dk oX10_claim_1 50 rfl) (by decide) rfl ?_
                          have L197 : ∀ (d_ : Nat) (k_ : Nat) (I3 : MI), Cc.length - k_ < d_ → k_ ≤ Cc.length → (∀ q, q ≠ 120 → I3 q = (up2 (up2 (up2 Ie 117 25 (nI 0)) 119 (sCl τ).1 (cCo (sT τ) (sL τ))) 121 (sCl τ).1 (nI Cc.length)) q) → (∀ j, I3 120 j = if 120 * (sCl τ).1 ≤ j ∧ j < 120 * (sCl τ).1 + k_ then nI (enc (Cc.getD (j - 120 * (sCl τ).1) 0)) else (up2 (up2 (up2 Ie 117 25 (nI 0)) 119 (sCl τ).1 (cCo (sT τ) (sL τ))) 121 (sCl τ).1 (nI Cc.length)) 120 j) → V p l e (rmL 5) s m args below meth c Q D A 5 0 0 n ad (mE cA ad I3 J) 197 [(0, .ref (ad 117)), (3, .int (nI (sCl τ).1)), (4, .int (nI k_))] [] := by
                            intro d_
                            induction d_ with
                            | zero => intros; exact absurd (by assumption) (Nat.not_lt_zero _)
                            | succ d_ ih => 
                              intro k_ I3 hd_ hk hFc hcp
                              refine r_iload C 2 (dk oX10_claim_1 51 rfl) rfl ?_
                              refine r_aload_n C 0 (dk oX10_claim_1 52 rfl) rfl ?_
                              refine r_getI C (dk oX10_claim_1 53 rfl) fl_X10_178 rfl (km hn rfl) ?_
                              rw [hFc 117 (by decide), up2_ne (by decide), up2_ne (by decide), up2_off (by decide), hq0.2.2.1]
                              refine r_icmp_ge (tgt := 231) C (dk oX10_claim_1 54 rfl) (by decide) (fun hb203 => ?_) (fun hb203 => ?_)
                              · simp (disch := omega) only [nI_leI, nI_ltI, nI_eq, nI_eq0] at hb203
                                refine r_aload_n C 0 (dk oX10_claim_2 9 rfl) rfl ?_
                                refine r_getR C (dk oX10_claim_2 10 rfl) fl_X10_7 rfl (km hn rfl) ?_
                                refine r_iconst C (dk oX10_claim_2 11 rfl) (v := nI 0) (by decide) ?_
                                refine r_dup2 C (dk oX10_claim_2 12 rfl) rfl rfl ?_
                                refine r_iald C 0 (dk oX10_claim_2 13 rfl) rfl (km hn rfl) rfl (by decide) (by decide) ?_
                                rw [hFc 118 (by decide), up2_ne (by decide), up2_ne (by decide), show up2 Ie 117 25 (nI 0) 118 0 = nI (sCl τ).1 from hMr.c0.2.1]
                                refine r_iconst C (dk oX10_claim_2 14 rfl) (v := nI 1) (by decide) ?_
                                refine r_iadd C (dk oX10_claim_2 15 rfl) ?_
                                rw [nI_add]
                                refine r_iast C 0 (dk oX10_claim_2 16 rfl) rfl (km hn rfl) rfl (by decide) (by decide) ?_
                                refine r_iload_n C 1 (dk oX10_claim_2 17 rfl) rfl ?_
                                refine hret (dk oX10_claim_2 18 rfl) rfl ?_
                                refine ⟨stC (rdS τ 0 pl) (adC (sCl τ) (cCo (sT τ) (sL τ)) Cc), (by unfold q_claim; rw [if_neg (by omega), if_neg (by omega)]; exact ⟨0, pl, Cc, hPR, by rw [if_pos rfl]; exact ⟨rfl, rfl⟩⟩), MM.cl (τ := rdS τ 0 pl) (x := cCo (sT τ) (sL τ)) (C := Cc) hMr (by show (sCl τ).1 < 6; omega) hPRok.2 hPRok.1 (fun k hk => ?_) ?_ ?_ ?_ (fun j => ?_), fun k hk => ?_, rfl⟩
                                · rw [up2_ne (by omega), hFc k (by omega), up2_ne (by omega), up2_ne (by omega)]
                                · funext j
                                  rw [up2_eq]
                                  show (if j = 0 then _ else I3 118 j) = _
                                  rw [hFc 118 (by decide), up2_ne (by decide), up2_ne (by decide)]
                                  rfl
                                · rw [up2_ne (by decide), hFc 119 (by decide), up2_ne (by decide), up2_eq]
                                  rfl
                                · rw [up2_ne (by decide), hFc 121 (by decide), up2_eq]
                                  funext j
                                  show (if j = (sCl τ).1 then _ else _) = _
                                  rw [up2_ne (by decide)]
                                  rfl
                                · rw [up2_ne (by decide), hcp j, show k_ = Cc.length by omega, up2_ne (by decide), up2_ne (by decide)]
                                  rfl
                                · rw [up2_ne (by omega), hFc k (by omega), up2_ne (by omega), up2_ne (by omega), up2_ne (by omega), hmE.1 k (by omega) (by omega) (by omega)]
                                  exact hF1 k hk
                              · simp (disch := omega) only [nI_leI, nI_ltI, nI_eq, nI_eq0] at hb203
                                have hb203 : k_ < Cc.length := by omega
                                refine r_aload_n C 0 (dk oX10_claim_1 55 rfl) rfl ?_
                                refine r_getR C (dk oX10_claim_1 56 rfl) fl_X10_16 rfl (km hn rfl) ?_
                                refine r_bipush C (dk oX10_claim_1 57 rfl) (v := nI 120) (by decide) ?_
                                refine r_iload_n C 1 (dk oX10_claim_1 58 rfl) rfl ?_
                                refine r_imul C (dk oX10_claim_1 59 rfl) ?_
                                rw [pk_mul]
                                refine r_iload C 2 (dk oX10_claim_2 0 rfl) rfl ?_
                                refine r_iadd C (dk oX10_claim_2 1 rfl) ?_
                                rw [nI_add]
                                refine r_aload_n C 0 (dk oX10_claim_2 2 rfl) rfl ?_
                                refine r_getR C (dk oX10_claim_2 3 rfl) fl_X10_90 rfl (km hn rfl) ?_
                                refine r_iload C 2 (dk oX10_claim_2 4 rfl) rfl ?_
                                refine r_iald C _ (dk oX10_claim_2 5 rfl) rfl (km hn rfl) rfl (by omega) (by decide) ?_
                                rw [hFc 143 (by decide), up2_ne (by decide), up2_ne (by decide), up2_ne (by decide), hq0.2.2.2 k_ hb203]
                                refine r_iast C _ (dk oX10_claim_2 6 rfl) rfl (km hn rfl) rfl (by omega) (by decide) ?_
                                refine r_iinc (lo' := [(4, _), (0, _), (3, _)]) C 2 (dk oX10_claim_2 7 rfl) rfl (by first | exact nI_inc _ | rfl) (by decide) rfl ?_
                                refine r_goto (tgt := 197) C (dk oX10_claim_2 8 rfl) (by decide) ?_
                                refine V.sub [1, 2, 0] rfl ?_
                                refine ih (k_ + 1) _ (by omega) (by omega) (fun q hq => by rw [up2_ne hq]; exact hFc q hq) (fun j => ?_)
                                by_cases e : j = 120 * (sCl τ).1 + k_
                                · rw [e, up2_at, if_pos (by omega), show 120 * (sCl τ).1 + k_ - 120 * (sCl τ).1 = k_ by omega]
                                · rw [up2_off e, hcp j]
                                  by_cases e2 : 120 * (sCl τ).1 ≤ j ∧ j < 120 * (sCl τ).1 + k_
                                  · rw [if_pos e2, if_pos (by omega)]
                                  · rw [if_neg e2, if_neg (by omega)]
                          refine V.sub [4, 1, 0] rfl ?_
                          exact L197 (Cc.length + 1) 0 _ (by omega) (Nat.zero_le _) (fun _ _ => rfl) (fun j => (if_neg (by omega)).symm)
                  · rw [show (0 : Int32) = nI 0 from rfl, nI_leI (by omega) (by omega)] at hb150
                    have hf0 : ¬ fn = 0 := by omega
                    refine r_bipush C (dk oX10_claim_1 23 rfl) (v := -10) (by decide) ?_
                    refine r_aload_n C 2 (dk oX10_claim_1 24 rfl) rfl ?_
                    refine r_getI C (dk oX10_claim_1 25 rfl) fl_X10_145 rfl (km hn rfl) ?_
                    rw [up2_off (by decide), h29e]
                    refine r_isub C (dk oX10_claim_1 26 rfl) ?_
                    refine hret (dk oX10_claim_1 27 rfl) rfl ?_
                    exact ⟨rdS τ fn pl, (by unfold q_claim; rw [if_neg (by omega), if_neg (by omega)]; exact ⟨fn, pl, Cc, hPR, by rw [if_neg hf0]; exact ⟨rfl, rfl⟩⟩), hMr, fun k hk => by rw [up2_ne (by omega), hmE.1 k (by omega) (by omega) (by omega)]; exact hF1 k hk, rfl⟩
            · first
                | (exact absurd hb106 (by decide))
                | have hz106 : (nmF (sT τ) (sL τ) (cP1 (sT τ) (sL τ)) 1 999) = 0 := by
                    have := @nmF_lt (sT τ) (sL τ) (cP1 (sT τ) (sL τ)) 1 999
                    rw [nI_eq0 (by omega)] at hb106
                    exact hb106
                  obtain ⟨hrv, h26v⟩ := hn4 hz106
                  have hrv := hrv.symm
                  subst hrv
                  refine r_aload_n C 2 (dk oX10_claim_0 59 rfl) rfl ?_
                  refine r_ivv C Z (dk oX10_claim_1 0 rfl) cl_X10_162 ci_X10_takeWord rfl (km hn rfl) (c_X10_takeWord hn I94 J (sT τ) (sL τ) hT94 (nE (sT τ) (sL τ) (cP1 (sT τ) (sL τ))) h26v (nE_le hP1L)) rfl rfl (Nat.le_of_ble_eq_true rfl) ⟨Nat.le_of_ble_eq_true rfl, Nat.le_of_ble_eq_true rfl⟩ ⟨Nat.zero_le _, Nat.zero_le _⟩ (fun I110 J110 h110 => ?_)
                  obtain ⟨h26b, h27b, h28b, hfb, e2_⟩ := h110
                  rw [show sk (sT τ) (sL τ) (nE (sT τ) (sL τ) (cP1 (sT τ) (sL τ))) = (cP2 (sT τ) (sL τ)) from rfl] at h26b h27b h28b
                  have e2_ := e2_.symm
                  subst e2_
                  have hP2L : (cP2 (sT τ) (sL τ)) ≤ sL τ := sk_le (nE_le hP1L)
                  refine r_aload_n C 2 (dk oX10_claim_1 1 rfl) rfl ?_
                  refine r_aload_n C 2 (dk oX10_claim_1 2 rfl) rfl ?_
                  refine r_iconst C (dk oX10_claim_1 3 rfl) (v := nI 2) (by decide) ?_
                  refine r_bipush C (dk oX10_claim_1 4 rfl) (v := nI 105) (by decide) ?_
                  refine r_bipush C (dk oX10_claim_1 5 rfl) (v := nI 102) (by decide) ?_
                  refine r_iconst C (dk oX10_claim_1 6 rfl) (v := nI 0) (by decide) ?_
                  refine r_iconst C (dk oX10_claim_1 7 rfl) (v := nI 0) (by decide) ?_
                  refine r_iconst C (dk oX10_claim_1 8 rfl) (v := nI 0) (by decide) ?_
                  refine r_ivi C Z (dk oX10_claim_1 9 rfl) cl_X10_165 ci_X10_isWord rfl (km hn rfl) (c_X10_isWord hn I110 J (sT τ) (sL τ) (hT94.tk hfb) (cP2 (sT τ) (sL τ)) h27b hP2L h28b 2 105 102 0 0 0 (by decide) (by decide) (sWd 2) (by decide)) rfl rfl (Nat.le_of_ble_eq_true rfl) ⟨Nat.le_of_ble_eq_true rfl, Nat.le_of_ble_eq_true rfl⟩ ⟨Nat.zero_le _, Nat.zero_le _⟩ (fun r123 I123 J123 h123 => ?_)
                  obtain ⟨h123, e1_, e2_⟩ := h123
                  have e1_ := e1_.symm
                  have e2_ := e2_.symm
                  subst e1_
                  subst e2_
                  subst h123
                  refine r_topI (show b32 (isW (sT τ) (sL τ) (cP2 (sT τ) (sL τ)) (sWd 2)) = b32 (decide (isW (sT τ) (sL τ) (cP2 (sT τ) (sL τ)) (sWd 2) = true)) from by cases isW (sT τ) (sL τ) (cP2 (sT τ) (sL τ)) (sWd 2) <;> rfl) ?_
                  refine r_iconst C (dk oX10_claim_1 10 rfl) (v := nI 1) (by decide) ?_
                  refine r_aload_n C 2 (dk oX10_claim_1 11 rfl) rfl ?_
                  refine r_getI C (dk oX10_claim_1 12 rfl) fl_X10_152 rfl (km hn rfl) ?_
                  rw [h27b]
                  refine r_ivi C Z (dk oX10_claim_1 13 rfl) cl_X10_173 ci_X10_want rfl (km hn rfl) (c_X10_want hn I110 J (decide (isW (sT τ) (sL τ) (cP2 (sT τ) (sL τ)) (sWd 2) = true)) (nI 1) (nI (cP2 (sT τ) (sL τ))) (nI 0) ((hfb.2 29 (by decide) (by decide) (by decide)).trans (by rw [hn1, hz106]))) rfl rfl (Nat.le_of_ble_eq_true rfl) ⟨Nat.le_of_ble_eq_true rfl, Nat.le_of_ble_eq_true rfl⟩ ⟨Nat.zero_le _, Nat.zero_le _⟩ (fun r131 I131 J131 h131 => ?_)
                  obtain ⟨e1_, hW131, e2_⟩ := h131
                  have e1_ := e1_.symm
                  have e2_ := e2_.symm
                  subst e1_
                  subst e2_
                  refine r_if_eq (tgt := 141) C (dk oX10_claim_1 14 rfl) (by decide) (fun hb134 => ?_) (fun hb134 => ?_)
                  · rw [b32_0, decide_eq_false_iff_not] at hb134
                    have hb134 := want_0 hb134
                    have hI131 := want_t hW131 hb134
                    subst hI131
                    obtain ⟨Ie, hIe⟩ : ∃ X, X = up2 (up2 I110 117 29 (nI 1)) 117 30 (nI (cP2 (sT τ) (sL τ))) := ⟨_, rfl⟩
                    have hE : ∃ fn pl Cc, clE τ I1 (up2 (up2 I110 117 29 (nI 1)) 117 30 (nI (cP2 (sT τ) (sL τ)))) fn pl Cc ∧ fn ≠ 0 := ⟨1, (cP2 (sT τ) (sL τ)), [], ⟨PR_3 hb86 hz106 hb134, ((hBm.tr (hfa.X.m.tr (hnf.X.m.tr hfb.X.m))).up 29 _ (by decide)).up 30 _ (by decide), by rw [up2_off (by decide), up2_at], by rw [up2_at, if_neg (by decide)], fun e => absurd e (by decide)⟩, by decide⟩
                    rw [← hIe] at hE
                    rw [← hIe]
                    clear hIe
                    obtain ⟨fn, pl, Cc, hE1, hne0⟩ := hE
                    obtain ⟨hPR, hmE, h29e, h30e, hqE⟩ := hE1
                    have hfn := hPR.1
                    have hMr := hMM1.rc (f := fn) (pl := pl) hmE h30e
                    refine r_aload_n C 2 (dk oX10_claim_1 17 rfl) rfl ?_
                    refine r_iconst C (dk oX10_claim_1 18 rfl) (v := nI 0) (by decide) ?_
                    refine r_putI C (dk oX10_claim_1 19 rfl) fl_X10_136 ft_10_25 rfl (km hn rfl) ?_
                    refine r_aload_n C 2 (dk oX10_claim_1 20 rfl) rfl ?_
                    refine r_getI C (dk oX10_claim_1 21 rfl) fl_X10_145 rfl (km hn rfl) ?_
                    rw [up2_off (by decide), h29e]
                    refine r_if_le (tgt := 161) C (dk oX10_claim_1 22 rfl) (by decide) (fun hb150 => ?_) (fun hb150 => ?_)
                    · first
                        | (exfalso; rw [show (0 : Int32) = nI 0 from rfl, nI_leI (by omega) (by omega)] at hb150; omega)
                        | rw [show (0 : Int32) = nI 0 from rfl, nI_leI (by omega) (by omega)] at hb150
                          have hf0 : fn = 0 := by omega
                          subst hf0
                          have hq0 := hqE rfl
                          have hPRok := hPR.ok hL12
                          have hlen : Cc.length ≤ 120 := hPRok.1.1
                          refine r_aload_n C 2 (dk oX10_claim_1 28 rfl) rfl ?_
                          refine r_getR C (dk oX10_claim_1 29 rfl) fl_X10_7 rfl (km hn rfl) ?_
                          refine r_iconst C (dk oX10_claim_1 30 rfl) (v := nI 0) (by decide) ?_
                          refine r_iald C 0 (dk oX10_claim_1 31 rfl) rfl (km hn rfl) rfl (by decide) (by decide) ?_
                          rw [show up2 Ie 117 25 (nI 0) 118 0 = nI (sCl τ).1 from hMr.c0.2.1]
                          refine r_istore_n (lo' := [(3, _), (2, _), (1, _), (0, _)]) C (dk oX10_claim_1 32 rfl) rfl (by decide) rfl ?_
                          refine r_aload_n C 3 (dk oX10_claim_1 33 rfl) rfl ?_
                          refine r_getR C (dk oX10_claim_1 34 rfl) fl_X10_13 rfl (km hn rfl) ?_
                          refine r_iload_n C 0 (dk oX10_claim_1 35 rfl) rfl ?_
                          refine r_iload_n C 2 (dk oX10_claim_1 36 rfl) rfl ?_
                          refine r_if_eq (tgt := 182) C (dk oX10_claim_1 37 rfl) (by decide) (fun hb174 => ?_) (fun hb174 => ?_)
                          · rw [b32_0] at hb174
                            refine r_iload_n C 1 (dk oX10_claim_1 41 rfl) rfl ?_
                            refine r_topI (show nI (nmV (sT τ) (sL τ) (cP1 (sT τ) (sL τ))) = cCo (sT τ) (sL τ) from by unfold cCo; rw [hb174, if_neg (by decide)]) ?_
                            refine r_iast C _ (dk oX10_claim_1 42 rfl) rfl (km hn rfl) rfl (by omega) (by decide) ?_
                            refine r_aload_n C 3 (dk oX10_claim_1 43 rfl) rfl ?_
                            refine r_getR C (dk oX10_claim_1 44 rfl) fl_X10_19 rfl (km hn rfl) ?_
                            refine r_iload_n C 0 (dk oX10_claim_1 45 rfl) rfl ?_
                            refine r_aload_n C 3 (dk oX10_claim_1 46 rfl) rfl ?_
                            refine r_getI C (dk oX10_claim_1 47 rfl) fl_X10_178 rfl (km hn rfl) ?_
                            rw [up2_ne (by decide), up2_off (by decide), hq0.2.2.1]
                            refine r_iast C _ (dk oX10_claim_1 48 rfl) rfl (km hn rfl) rfl (by omega) (by decide) ?_
                            refine r_iconst C (dk oX10_claim_1 49 rfl) (v := nI 0) (by decide) ?_
                            refine r_istore (lo' := [(4, _), (3, _), (2, _), (1, _), (0, _)]) C (dk oX10_claim_1 50 rfl) (by decide) rfl ?_
                            have L197 : ∀ (d_ : Nat) (k_ : Nat) (I3 : MI), Cc.length - k_ < d_ → k_ ≤ Cc.length → (∀ q, q ≠ 120 → I3 q = (up2 (up2 (up2 Ie 117 25 (nI 0)) 119 (sCl τ).1 (cCo (sT τ) (sL τ))) 121 (sCl τ).1 (nI Cc.length)) q) → (∀ j, I3 120 j = if 120 * (sCl τ).1 ≤ j ∧ j < 120 * (sCl τ).1 + k_ then nI (enc (Cc.getD (j - 120 * (sCl τ).1) 0)) else (up2 (up2 (up2 Ie 117 25 (nI 0)) 119 (sCl τ).1 (cCo (sT τ) (sL τ))) 121 (sCl τ).1 (nI Cc.length)) 120 j) → V p l e (rmL 5) s m args below meth c Q D A 5 0 0 n ad (mE cA ad I3 J) 197 [(0, .ref (ad 117)), (3, .int (nI (sCl τ).1)), (4, .int (nI k_))] [] := by
                              intro d_
                              induction d_ with
                              | zero => intros; exact absurd (by assumption) (Nat.not_lt_zero _)
                              | succ d_ ih => 
                                intro k_ I3 hd_ hk hFc hcp
                                refine r_iload C 2 (dk oX10_claim_1 51 rfl) rfl ?_
                                refine r_aload_n C 0 (dk oX10_claim_1 52 rfl) rfl ?_
                                refine r_getI C (dk oX10_claim_1 53 rfl) fl_X10_178 rfl (km hn rfl) ?_
                                rw [hFc 117 (by decide), up2_ne (by decide), up2_ne (by decide), up2_off (by decide), hq0.2.2.1]
                                refine r_icmp_ge (tgt := 231) C (dk oX10_claim_1 54 rfl) (by decide) (fun hb203 => ?_) (fun hb203 => ?_)
                                · simp (disch := omega) only [nI_leI, nI_ltI, nI_eq, nI_eq0] at hb203
                                  refine r_aload_n C 0 (dk oX10_claim_2 9 rfl) rfl ?_
                                  refine r_getR C (dk oX10_claim_2 10 rfl) fl_X10_7 rfl (km hn rfl) ?_
                                  refine r_iconst C (dk oX10_claim_2 11 rfl) (v := nI 0) (by decide) ?_
                                  refine r_dup2 C (dk oX10_claim_2 12 rfl) rfl rfl ?_
                                  refine r_iald C 0 (dk oX10_claim_2 13 rfl) rfl (km hn rfl) rfl (by decide) (by decide) ?_
                                  rw [hFc 118 (by decide), up2_ne (by decide), up2_ne (by decide), show up2 Ie 117 25 (nI 0) 118 0 = nI (sCl τ).1 from hMr.c0.2.1]
                                  refine r_iconst C (dk oX10_claim_2 14 rfl) (v := nI 1) (by decide) ?_
                                  refine r_iadd C (dk oX10_claim_2 15 rfl) ?_
                                  rw [nI_add]
                                  refine r_iast C 0 (dk oX10_claim_2 16 rfl) rfl (km hn rfl) rfl (by decide) (by decide) ?_
                                  refine r_iload_n C 1 (dk oX10_claim_2 17 rfl) rfl ?_
                                  refine hret (dk oX10_claim_2 18 rfl) rfl ?_
                                  refine ⟨stC (rdS τ 0 pl) (adC (sCl τ) (cCo (sT τ) (sL τ)) Cc), (by unfold q_claim; rw [if_neg (by omega), if_neg (by omega)]; exact ⟨0, pl, Cc, hPR, by rw [if_pos rfl]; exact ⟨rfl, rfl⟩⟩), MM.cl (τ := rdS τ 0 pl) (x := cCo (sT τ) (sL τ)) (C := Cc) hMr (by show (sCl τ).1 < 6; omega) hPRok.2 hPRok.1 (fun k hk => ?_) ?_ ?_ ?_ (fun j => ?_), fun k hk => ?_, rfl⟩
                                  · rw [up2_ne (by omega), hFc k (by omega), up2_ne (by omega), up2_ne (by omega)]
                                  · funext j
                                    rw [up2_eq]
                                    show (if j = 0 then _ else I3 118 j) = _
                                    rw [hFc 118 (by decide), up2_ne (by decide), up2_ne (by decide)]
                                    rfl
                                  · rw [up2_ne (by decide), hFc 119 (by decide), up2_ne (by decide), up2_eq]
                                    rfl
                                  · rw [up2_ne (by decide), hFc 121 (by decide), up2_eq]
                                    funext j
                                    show (if j = (sCl τ).1 then _ else _) = _
                                    rw [up2_ne (by decide)]
                                    rfl
                                  · rw [up2_ne (by decide), hcp j, show k_ = Cc.length by omega, up2_ne (by decide), up2_ne (by decide)]
                                    rfl
                                  · rw [up2_ne (by omega), hFc k (by omega), up2_ne (by omega), up2_ne (by omega), up2_ne (by omega), hmE.1 k (by omega) (by omega) (by omega)]
                                    exact hF1 k hk
                                · simp (disch := omega) only [nI_leI, nI_ltI, nI_eq, nI_eq0] at hb203
                                  have hb203 : k_ < Cc.length := by omega
                                  refine r_aload_n C 0 (dk oX10_claim_1 55 rfl) rfl ?_
                                  refine r_getR C (dk oX10_claim_1 56 rfl) fl_X10_16 rfl (km hn rfl) ?_
                                  refine r_bipush C (dk oX10_claim_1 57 rfl) (v := nI 120) (by decide) ?_
                                  refine r_iload_n C 1 (dk oX10_claim_1 58 rfl) rfl ?_
                                  refine r_imul C (dk oX10_claim_1 59 rfl) ?_
                                  rw [pk_mul]
                                  refine r_iload C 2 (dk oX10_claim_2 0 rfl) rfl ?_
                                  refine r_iadd C (dk oX10_claim_2 1 rfl) ?_
                                  rw [nI_add]
                                  refine r_aload_n C 0 (dk oX10_claim_2 2 rfl) rfl ?_
                                  refine r_getR C (dk oX10_claim_2 3 rfl) fl_X10_90 rfl (km hn rfl) ?_
                                  refine r_iload C 2 (dk oX10_claim_2 4 rfl) rfl ?_
                                  refine r_iald C _ (dk oX10_claim_2 5 rfl) rfl (km hn rfl) rfl (by omega) (by decide) ?_
                                  rw [hFc 143 (by decide), up2_ne (by decide), up2_ne (by decide), up2_ne (by decide), hq0.2.2.2 k_ hb203]
                                  refine r_iast C _ (dk oX10_claim_2 6 rfl) rfl (km hn rfl) rfl (by omega) (by decide) ?_
                                  refine r_iinc (lo' := [(4, _), (0, _), (3, _)]) C 2 (dk oX10_claim_2 7 rfl) rfl (by first | exact nI_inc _ | rfl) (by decide) rfl ?_
                                  refine r_goto (tgt := 197) C (dk oX10_claim_2 8 rfl) (by decide) ?_
                                  refine V.sub [1, 2, 0] rfl ?_
                                  refine ih (k_ + 1) _ (by omega) (by omega) (fun q hq => by rw [up2_ne hq]; exact hFc q hq) (fun j => ?_)
                                  by_cases e : j = 120 * (sCl τ).1 + k_
                                  · rw [e, up2_at, if_pos (by omega), show 120 * (sCl τ).1 + k_ - 120 * (sCl τ).1 = k_ by omega]
                                  · rw [up2_off e, hcp j]
                                    by_cases e2 : 120 * (sCl τ).1 ≤ j ∧ j < 120 * (sCl τ).1 + k_
                                    · rw [if_pos e2, if_pos (by omega)]
                                    · rw [if_neg e2, if_neg (by omega)]
                            refine V.sub [4, 1, 0] rfl ?_
                            exact L197 (Cc.length + 1) 0 _ (by omega) (Nat.zero_le _) (fun _ _ => rfl) (fun j => (if_neg (by omega)).symm)
                          · rw [b32_n] at hb174
                            refine r_iload_n C 1 (dk oX10_claim_1 38 rfl) rfl ?_
                            refine r_ineg C (dk oX10_claim_1 39 rfl) ?_
                            refine r_topI (show -(nI (nmV (sT τ) (sL τ) (cP1 (sT τ) (sL τ)))) = cCo (sT τ) (sL τ) from by unfold cCo; rw [hb174, if_pos rfl]) ?_
                            refine r_goto (tgt := 183) C (dk oX10_claim_1 40 rfl) (by decide) ?_
                            refine r_iast C _ (dk oX10_claim_1 42 rfl) rfl (km hn rfl) rfl (by omega) (by decide) ?_
                            refine r_aload_n C 3 (dk oX10_claim_1 43 rfl) rfl ?_
                            refine r_getR C (dk oX10_claim_1 44 rfl) fl_X10_19 rfl (km hn rfl) ?_
                            refine r_iload_n C 0 (dk oX10_claim_1 45 rfl) rfl ?_
                            refine r_aload_n C 3 (dk oX10_claim_1 46 rfl) rfl ?_
                            refine r_getI C (dk oX10_claim_1 47 rfl) fl_X10_178 rfl (km hn rfl) ?_
                            rw [up2_ne (by decide), up2_off (by decide), hq0.2.2.1]
                            refine r_iast C _ (dk oX10_claim_1 48 rfl) rfl (km hn rfl) rfl (by omega) (by decide) ?_
                            refine r_iconst C (dk oX10_claim_1 49 rfl) (v := nI 0) (by decide) ?_
                            refine r_istore (lo' := [(4, _), (3, _), (2, _), (1, _), (0, _)]) C (dk oX10_claim_1 50 rfl) (by decide) rfl ?_
                            have L197 : ∀ (d_ : Nat) (k_ : Nat) (I3 : MI), Cc.length - k_ < d_ → k_ ≤ Cc.length → (∀ q, q ≠ 120 → I3 q = (up2 (up2 (up2 Ie 117 25 (nI 0)) 119 (sCl τ).1 (cCo (sT τ) (sL τ))) 121 (sCl τ).1 (nI Cc.length)) q) → (∀ j, I3 120 j = if 120 * (sCl τ).1 ≤ j ∧ j < 120 * (sCl τ).1 + k_ then nI (enc (Cc.getD (j - 120 * (sCl τ).1) 0)) else (up2 (up2 (up2 Ie 117 25 (nI 0)) 119 (sCl τ).1 (cCo (sT τ) (sL τ))) 121 (sCl τ).1 (nI Cc.length)) 120 j) → V p l e (rmL 5) s m args below meth c Q D A 5 0 0 n ad (mE cA ad I3 J) 197 [(0, .ref (ad 117)), (3, .int (nI (sCl τ).1)), (4, .int (nI k_))] [] := by
                              intro d_
                              induction d_ with
                              | zero => intros; exact absurd (by assumption) (Nat.not_lt_zero _)
                              | succ d_ ih => 
                                intro k_ I3 hd_ hk hFc hcp
                                refine r_iload C 2 (dk oX10_claim_1 51 rfl) rfl ?_
                                refine r_aload_n C 0 (dk oX10_claim_1 52 rfl) rfl ?_
                                refine r_getI C (dk oX10_claim_1 53 rfl) fl_X10_178 rfl (km hn rfl) ?_
                                rw [hFc 117 (by decide), up2_ne (by decide), up2_ne (by decide), up2_off (by decide), hq0.2.2.1]
                                refine r_icmp_ge (tgt := 231) C (dk oX10_claim_1 54 rfl) (by decide) (fun hb203 => ?_) (fun hb203 => ?_)
                                · simp (disch := omega) only [nI_leI, nI_ltI, nI_eq, nI_eq0] at hb203
                                  refine r_aload_n C 0 (dk oX10_claim_2 9 rfl) rfl ?_
                                  refine r_getR C (dk oX10_claim_2 10 rfl) fl_X10_7 rfl (km hn rfl) ?_
                                  refine r_iconst C (dk oX10_claim_2 11 rfl) (v := nI 0) (by decide) ?_
                                  refine r_dup2 C (dk oX10_claim_2 12 rfl) rfl rfl ?_
                                  refine r_iald C 0 (dk oX10_claim_2 13 rfl) rfl (km hn rfl) rfl (by decide) (by decide) ?_
                                  rw [hFc 118 (by decide), up2_ne (by decide), up2_ne (by decide), show up2 Ie 117 25 (nI 0) 118 0 = nI (sCl τ).1 from hMr.c0.2.1]
                                  refine r_iconst C (dk oX10_claim_2 14 rfl) (v := nI 1) (by decide) ?_
                                  refine r_iadd C (dk oX10_claim_2 15 rfl) ?_
                                  rw [nI_add]
                                  refine r_iast C 0 (dk oX10_claim_2 16 rfl) rfl (km hn rfl) rfl (by decide) (by decide) ?_
                                  refine r_iload_n C 1 (dk oX10_claim_2 17 rfl) rfl ?_
                                  refine hret (dk oX10_claim_2 18 rfl) rfl ?_
                                  refine ⟨stC (rdS τ 0 pl) (adC (sCl τ) (cCo (sT τ) (sL τ)) Cc), (by unfold q_claim; rw [if_neg (by omega), if_neg (by omega)]; exact ⟨0, pl, Cc, hPR, by rw [if_pos rfl]; exact ⟨rfl, rfl⟩⟩), MM.cl (τ := rdS τ 0 pl) (x := cCo (sT τ) (sL τ)) (C := Cc) hMr (by show (sCl τ).1 < 6; omega) hPRok.2 hPRok.1 (fun k hk => ?_) ?_ ?_ ?_ (fun j => ?_), fun k hk => ?_, rfl⟩
                                  · rw [up2_ne (by omega), hFc k (by omega), up2_ne (by omega), up2_ne (by omega)]
                                  · funext j
                                    rw [up2_eq]
                                    show (if j = 0 then _ else I3 118 j) = _
                                    rw [hFc 118 (by decide), up2_ne (by decide), up2_ne (by decide)]
                                    rfl
                                  · rw [up2_ne (by decide), hFc 119 (by decide), up2_ne (by decide), up2_eq]
                                    rfl
                                  · rw [up2_ne (by decide), hFc 121 (by decide), up2_eq]
                                    funext j
                                    show (if j = (sCl τ).1 then _ else _) = _
                                    rw [up2_ne (by decide)]
                                    rfl
                                  · rw [up2_ne (by decide), hcp j, show k_ = Cc.length by omega, up2_ne (by decide), up2_ne (by decide)]
                                    rfl
                                  · rw [up2_ne (by omega), hFc k (by omega), up2_ne (by omega), up2_ne (by omega), up2_ne (by omega), hmE.1 k (by omega) (by omega) (by omega)]
                                    exact hF1 k hk
                                · simp (disch := omega) only [nI_leI, nI_ltI, nI_eq, nI_eq0] at hb203
                                  have hb203 : k_ < Cc.length := by omega
                                  refine r_aload_n C 0 (dk oX10_claim_1 55 rfl) rfl ?_
                                  refine r_getR C (dk oX10_claim_1 56 rfl) fl_X10_16 rfl (km hn rfl) ?_
                                  refine r_bipush C (dk oX10_claim_1 57 rfl) (v := nI 120) (by decide) ?_
                                  refine r_iload_n C 1 (dk oX10_claim_1 58 rfl) rfl ?_
                                  refine r_imul C (dk oX10_claim_1 59 rfl) ?_
                                  rw [pk_mul]
                                  refine r_iload C 2 (dk oX10_claim_2 0 rfl) rfl ?_
                                  refine r_iadd C (dk oX10_claim_2 1 rfl) ?_
                                  rw [nI_add]
                                  refine r_aload_n C 0 (dk oX10_claim_2 2 rfl) rfl ?_
                                  refine r_getR C (dk oX10_claim_2 3 rfl) fl_X10_90 rfl (km hn rfl) ?_
                                  refine r_iload C 2 (dk oX10_claim_2 4 rfl) rfl ?_
                                  refine r_iald C _ (dk oX10_claim_2 5 rfl) rfl (km hn rfl) rfl (by omega) (by decide) ?_
                                  rw [hFc 143 (by decide), up2_ne (by decide), up2_ne (by decide), up2_ne (by decide), hq0.2.2.2 k_ hb203]
                                  refine r_iast C _ (dk oX10_claim_2 6 rfl) rfl (km hn rfl) rfl (by omega) (by decide) ?_
                                  refine r_iinc (lo' := [(4, _), (0, _), (3, _)]) C 2 (dk oX10_claim_2 7 rfl) rfl (by first | exact nI_inc _ | rfl) (by decide) rfl ?_
                                  refine r_goto (tgt := 197) C (dk oX10_claim_2 8 rfl) (by decide) ?_
                                  refine V.sub [1, 2, 0] rfl ?_
                                  refine ih (k_ + 1) _ (by omega) (by omega) (fun q hq => by rw [up2_ne hq]; exact hFc q hq) (fun j => ?_)
                                  by_cases e : j = 120 * (sCl τ).1 + k_
                                  · rw [e, up2_at, if_pos (by omega), show 120 * (sCl τ).1 + k_ - 120 * (sCl τ).1 = k_ by omega]
                                  · rw [up2_off e, hcp j]
                                    by_cases e2 : 120 * (sCl τ).1 ≤ j ∧ j < 120 * (sCl τ).1 + k_
                                    · rw [if_pos e2, if_pos (by omega)]
                                    · rw [if_neg e2, if_neg (by omega)]
                            refine V.sub [4, 1, 0] rfl ?_
                            exact L197 (Cc.length + 1) 0 _ (by omega) (Nat.zero_le _) (fun _ _ => rfl) (fun j => (if_neg (by omega)).symm)
                    · rw [show (0 : Int32) = nI 0 from rfl, nI_leI (by omega) (by omega)] at hb150
                      have hf0 : ¬ fn = 0 := by omega
                      refine r_bipush C (dk oX10_claim_1 23 rfl) (v := -10) (by decide) ?_
                      refine r_aload_n C 2 (dk oX10_claim_1 24 rfl) rfl ?_
                      refine r_getI C (dk oX10_claim_1 25 rfl) fl_X10_145 rfl (km hn rfl) ?_
                      rw [up2_off (by decide), h29e]
                      refine r_isub C (dk oX10_claim_1 26 rfl) ?_
                      refine hret (dk oX10_claim_1 27 rfl) rfl ?_
                      exact ⟨rdS τ fn pl, (by unfold q_claim; rw [if_neg (by omega), if_neg (by omega)]; exact ⟨fn, pl, Cc, hPR, by rw [if_neg hf0]; exact ⟨rfl, rfl⟩⟩), hMr, fun k hk => by rw [up2_ne (by omega), hmE.1 k (by omega) (by omega) (by omega)]; exact hF1 k hk, rfl⟩
                  · rw [b32_n, decide_eq_true_eq] at hb134
                    have hb134 := want_1 (by decide) hb134
                    have hI131 := want_f hW131 hb134
                    subst hI131
                    refine r_aload_n C 2 (dk oX10_claim_1 15 rfl) rfl ?_
                    refine r_ivv C Z (dk oX10_claim_1 16 rfl) cl_X10_225 ci_X10_takeCase rfl (km hn rfl) (c_X10_takeCase hn I131 J (sT τ) (sL τ) ((cP2 (sT τ) (sL τ)) + 2) hL12 (hT94.tk hfb) (by rw [h26b, wd_end hb134]; rfl) (isW_lt (w := sWd 2) hP2L hb134) ((hfb.2 29 (by decide) (by decide) (by decide)).trans (by rw [hn1, hz106])) ((hfb.2 30 (by decide) (by decide) (by decide)).trans (by rw [hn2, if_pos hz106]; exact (hfa.2 30 (by decide) (by decide) (by decide)).trans hB30))) rfl rfl (Nat.le_of_ble_eq_true rfl) ⟨Nat.le_of_ble_eq_true rfl, Nat.le_of_ble_eq_true rfl⟩ ⟨Nat.zero_le _, Nat.zero_le _⟩ (fun I138 J138 h138 => ?_)
                    obtain ⟨e2_, hX138, f1, p1, C1, hf1, hr0, hq0c, hr1, h29c, h30c⟩ := h138
                    have e2_ := e2_.symm
                    subst e2_
                    obtain ⟨Ie, hIe⟩ : ∃ X, X = I138 := ⟨_, rfl⟩
                    have hE : ∃ fn pl Cc, clE τ I1 (I138) fn pl Cc := ⟨f1, p1, C1, PR_4 hb86 hz106 hb134 hf1 hr0 hr1, (hBm.tr (hfa.X.m.tr (hnf.X.m.tr hfb.X.m))).tr hX138.m, h29c, h30c, hq0c⟩
                    rw [← hIe] at hE
                    rw [← hIe]
                    clear hIe
                    obtain ⟨fn, pl, Cc, hE1⟩ := hE
                    obtain ⟨hPR, hmE, h29e, h30e, hqE⟩ := hE1
                    have hfn := hPR.1
                    have hMr := hMM1.rc (f := fn) (pl := pl) hmE h30e
                    refine r_aload_n C 2 (dk oX10_claim_1 17 rfl) rfl ?_
                    refine r_iconst C (dk oX10_claim_1 18 rfl) (v := nI 0) (by decide) ?_
                    refine r_putI C (dk oX10_claim_1 19 rfl) fl_X10_136 ft_10_25 rfl (km hn rfl) ?_
                    refine r_aload_n C 2 (dk oX10_claim_1 20 rfl) rfl ?_
                    refine r_getI C (dk oX10_claim_1 21 rfl) fl_X10_145 rfl (km hn rfl) ?_
                    rw [up2_off (by decide), h29e]
                    refine r_if_le (tgt := 161) C (dk oX10_claim_1 22 rfl) (by decide) (fun hb150 => ?_) (fun hb150 => ?_)
                    · first
                        | (exfalso; rw [show (0 : Int32) = nI 0 from rfl, nI_leI (by omega) (by omega)] at hb150; omega)
                        | rw [show (0 : Int32) = nI 0 from rfl, nI_leI (by omega) (by omega)] at hb150
                          have hf0 : fn = 0 := by omega
                          subst hf0
                          have hq0 := hqE rfl
                          have hPRok := hPR.ok hL12
                          have hlen : Cc.length ≤ 120 := hPRok.1.1
                          refine r_aload_n C 2 (dk oX10_claim_1 28 rfl) rfl ?_
                          refine r_getR C (dk oX10_claim_1 29 rfl) fl_X10_7 rfl (km hn rfl) ?_
                          refine r_iconst C (dk oX10_claim_1 30 rfl) (v := nI 0) (by decide) ?_
                          refine r_iald C 0 (dk oX10_claim_1 31 rfl) rfl (km hn rfl) rfl (by decide) (by decide) ?_
                          rw [show up2 Ie 117 25 (nI 0) 118 0 = nI (sCl τ).1 from hMr.c0.2.1]
                          refine r_istore_n (lo' := [(3, _), (2, _), (1, _), (0, _)]) C (dk oX10_claim_1 32 rfl) rfl (by decide) rfl ?_
                          refine r_aload_n C 3 (dk oX10_claim_1 33 rfl) rfl ?_
                          refine r_getR C (dk oX10_claim_1 34 rfl) fl_X10_13 rfl (km hn rfl) ?_
                          refine r_iload_n C 0 (dk oX10_claim_1 35 rfl) rfl ?_
                          refine r_iload_n C 2 (dk oX10_claim_1 36 rfl) rfl ?_
                          refine r_if_eq (tgt := 182) C (dk oX10_claim_1 37 rfl) (by decide) (fun hb174 => ?_) (fun hb174 => ?_)
                          · rw [b32_0] at hb174
                            refine r_iload_n C 1 (dk oX10_claim_1 41 rfl) rfl ?_
                            refine r_topI (show nI (nmV (sT τ) (sL τ) (cP1 (sT τ) (sL τ))) = cCo (sT τ) (sL τ) from by unfold cCo; rw [hb174, if_neg (by decide)]) ?_
                            refine r_iast C _ (dk oX10_claim_1 42 rfl) rfl (km hn rfl) rfl (by omega) (by decide) ?_
                            refine r_aload_n C 3 (dk oX10_claim_1 43 rfl) rfl ?_
                            refine r_getR C (dk oX10_claim_1 44 rfl) fl_X10_19 rfl (km hn rfl) ?_
                            refine r_iload_n C 0 (dk oX10_claim_1 45 rfl) rfl ?_
                            refine r_aload_n C 3 (dk oX10_claim_1 46 rfl) rfl ?_
                            refine r_getI C (dk oX10_claim_1 47 rfl) fl_X10_178 rfl (km hn rfl) ?_
                            rw [up2_ne (by decide), up2_off (by decide), hq0.2.2.1]
                            refine r_iast C _ (dk oX10_claim_1 48 rfl) rfl (km hn rfl) rfl (by omega) (by decide) ?_
                            refine r_iconst C (dk oX10_claim_1 49 rfl) (v := nI 0) (by decide) ?_
                            refine r_istore (lo' := [(4, _), (3, _), (2, _), (1, _), (0, _)]) C (dk oX10_claim_1 50 rfl) (by decide) rfl ?_
                            have L197 : ∀ (d_ : Nat) (k_ : Nat) (I3 : MI), Cc.length - k_ < d_ → k_ ≤ Cc.length → (∀ q, q ≠ 120 → I3 q = (up2 (up2 (up2 Ie 117 25 (nI 0)) 119 (sCl τ).1 (cCo (sT τ) (sL τ))) 121 (sCl τ).1 (nI Cc.length)) q) → (∀ j, I3 120 j = if 120 * (sCl τ).1 ≤ j ∧ j < 120 * (sCl τ).1 + k_ then nI (enc (Cc.getD (j - 120 * (sCl τ).1) 0)) else (up2 (up2 (up2 Ie 117 25 (nI 0)) 119 (sCl τ).1 (cCo (sT τ) (sL τ))) 121 (sCl τ).1 (nI Cc.length)) 120 j) → V p l e (rmL 5) s m args below meth c Q D A 5 0 0 n ad (mE cA ad I3 J) 197 [(0, .ref (ad 117)), (3, .int (nI (sCl τ).1)), (4, .int (nI k_))] [] := by
                              intro d_
                              induction d_ with
                              | zero => intros; exact absurd (by assumption) (Nat.not_lt_zero _)
                              | succ d_ ih => 
                                intro k_ I3 hd_ hk hFc hcp
                                refine r_iload C 2 (dk oX10_claim_1 51 rfl) rfl ?_
                                refine r_aload_n C 0 (dk oX10_claim_1 52 rfl) rfl ?_
                                refine r_getI C (dk oX10_claim_1 53 rfl) fl_X10_178 rfl (km hn rfl) ?_
                                rw [hFc 117 (by decide), up2_ne (by decide), up2_ne (by decide), up2_off (by decide), hq0.2.2.1]
                                refine r_icmp_ge (tgt := 231) C (dk oX10_claim_1 54 rfl) (by decide) (fun hb203 => ?_) (fun hb203 => ?_)
                                · simp (disch := omega) only [nI_leI, nI_ltI, nI_eq, nI_eq0] at hb203
                                  refine r_aload_n C 0 (dk oX10_claim_2 9 rfl) rfl ?_
                                  refine r_getR C (dk oX10_claim_2 10 rfl) fl_X10_7 rfl (km hn rfl) ?_
                                  refine r_iconst C (dk oX10_claim_2 11 rfl) (v := nI 0) (by decide) ?_
                                  refine r_dup2 C (dk oX10_claim_2 12 rfl) rfl rfl ?_
                                  refine r_iald C 0 (dk oX10_claim_2 13 rfl) rfl (km hn rfl) rfl (by decide) (by decide) ?_
                                  rw [hFc 118 (by decide), up2_ne (by decide), up2_ne (by decide), show up2 Ie 117 25 (nI 0) 118 0 = nI (sCl τ).1 from hMr.c0.2.1]
                                  refine r_iconst C (dk oX10_claim_2 14 rfl) (v := nI 1) (by decide) ?_
                                  refine r_iadd C (dk oX10_claim_2 15 rfl) ?_
                                  rw [nI_add]
                                  refine r_iast C 0 (dk oX10_claim_2 16 rfl) rfl (km hn rfl) rfl (by decide) (by decide) ?_
                                  refine r_iload_n C 1 (dk oX10_claim_2 17 rfl) rfl ?_
                                  refine hret (dk oX10_claim_2 18 rfl) rfl ?_
                                  refine ⟨stC (rdS τ 0 pl) (adC (sCl τ) (cCo (sT τ) (sL τ)) Cc), (by unfold q_claim; rw [if_neg (by omega), if_neg (by omega)]; exact ⟨0, pl, Cc, hPR, by rw [if_pos rfl]; exact ⟨rfl, rfl⟩⟩), MM.cl (τ := rdS τ 0 pl) (x := cCo (sT τ) (sL τ)) (C := Cc) hMr (by show (sCl τ).1 < 6; omega) hPRok.2 hPRok.1 (fun k hk => ?_) ?_ ?_ ?_ (fun j => ?_), fun k hk => ?_, rfl⟩
                                  · rw [up2_ne (by omega), hFc k (by omega), up2_ne (by omega), up2_ne (by omega)]
                                  · funext j
                                    rw [up2_eq]
                                    show (if j = 0 then _ else I3 118 j) = _
                                    rw [hFc 118 (by decide), up2_ne (by decide), up2_ne (by decide)]
                                    rfl
                                  · rw [up2_ne (by decide), hFc 119 (by decide), up2_ne (by decide), up2_eq]
                                    rfl
                                  · rw [up2_ne (by decide), hFc 121 (by decide), up2_eq]
                                    funext j
                                    show (if j = (sCl τ).1 then _ else _) = _
                                    rw [up2_ne (by decide)]
                                    rfl
                                  · rw [up2_ne (by decide), hcp j, show k_ = Cc.length by omega, up2_ne (by decide), up2_ne (by decide)]
                                    rfl
                                  · rw [up2_ne (by omega), hFc k (by omega), up2_ne (by omega), up2_ne (by omega), up2_ne (by omega), hmE.1 k (by omega) (by omega) (by omega)]
                                    exact hF1 k hk
                                · simp (disch := omega) only [nI_leI, nI_ltI, nI_eq, nI_eq0] at hb203
                                  have hb203 : k_ < Cc.length := by omega
                                  refine r_aload_n C 0 (dk oX10_claim_1 55 rfl) rfl ?_
                                  refine r_getR C (dk oX10_claim_1 56 rfl) fl_X10_16 rfl (km hn rfl) ?_
                                  refine r_bipush C (dk oX10_claim_1 57 rfl) (v := nI 120) (by decide) ?_
                                  refine r_iload_n C 1 (dk oX10_claim_1 58 rfl) rfl ?_
                                  refine r_imul C (dk oX10_claim_1 59 rfl) ?_
                                  rw [pk_mul]
                                  refine r_iload C 2 (dk oX10_claim_2 0 rfl) rfl ?_
                                  refine r_iadd C (dk oX10_claim_2 1 rfl) ?_
                                  rw [nI_add]
                                  refine r_aload_n C 0 (dk oX10_claim_2 2 rfl) rfl ?_
                                  refine r_getR C (dk oX10_claim_2 3 rfl) fl_X10_90 rfl (km hn rfl) ?_
                                  refine r_iload C 2 (dk oX10_claim_2 4 rfl) rfl ?_
                                  refine r_iald C _ (dk oX10_claim_2 5 rfl) rfl (km hn rfl) rfl (by omega) (by decide) ?_
                                  rw [hFc 143 (by decide), up2_ne (by decide), up2_ne (by decide), up2_ne (by decide), hq0.2.2.2 k_ hb203]
                                  refine r_iast C _ (dk oX10_claim_2 6 rfl) rfl (km hn rfl) rfl (by omega) (by decide) ?_
                                  refine r_iinc (lo' := [(4, _), (0, _), (3, _)]) C 2 (dk oX10_claim_2 7 rfl) rfl (by first | exact nI_inc _ | rfl) (by decide) rfl ?_
                                  refine r_goto (tgt := 197) C (dk oX10_claim_2 8 rfl) (by decide) ?_
                                  refine V.sub [1, 2, 0] rfl ?_
                                  refine ih (k_ + 1) _ (by omega) (by omega) (fun q hq => by rw [up2_ne hq]; exact hFc q hq) (fun j => ?_)
                                  by_cases e : j = 120 * (sCl τ).1 + k_
                                  · rw [e, up2_at, if_pos (by omega), show 120 * (sCl τ).1 + k_ - 120 * (sCl τ).1 = k_ by omega]
                                  · rw [up2_off e, hcp j]
                                    by_cases e2 : 120 * (sCl τ).1 ≤ j ∧ j < 120 * (sCl τ).1 + k_
                                    · rw [if_pos e2, if_pos (by omega)]
                                    · rw [if_neg e2, if_neg (by omega)]
                            refine V.sub [4, 1, 0] rfl ?_
                            exact L197 (Cc.length + 1) 0 _ (by omega) (Nat.zero_le _) (fun _ _ => rfl) (fun j => (if_neg (by omega)).symm)
                          · rw [b32_n] at hb174
                            refine r_iload_n C 1 (dk oX10_claim_1 38 rfl) rfl ?_
                            refine r_ineg C (dk oX10_claim_1 39 rfl) ?_
                            refine r_topI (show -(nI (nmV (sT τ) (sL τ) (cP1 (sT τ) (sL τ)))) = cCo (sT τ) (sL τ) from by unfold cCo; rw [hb174, if_pos rfl]) ?_
                            refine r_goto (tgt := 183) C (dk oX10_claim_1 40 rfl) (by decide) ?_
                            refine r_iast C _ (dk oX10_claim_1 42 rfl) rfl (km hn rfl) rfl (by omega) (by decide) ?_
                            refine r_aload_n C 3 (dk oX10_claim_1 43 rfl) rfl ?_
                            refine r_getR C (dk oX10_claim_1 44 rfl) fl_X10_19 rfl (km hn rfl) ?_
                            refine r_iload_n C 0 (dk oX10_claim_1 45 rfl) rfl ?_
                            refine r_aload_n C 3 (dk oX10_claim_1 46 rfl) rfl ?_
                            refine r_getI C (dk oX10_claim_1 47 rfl) fl_X10_178 rfl (km hn rfl) ?_
                            rw [up2_ne (by decide), up2_off (by decide), hq0.2.2.1]
                            refine r_iast C _ (dk oX10_claim_1 48 rfl) rfl (km hn rfl) rfl (by omega) (by decide) ?_
                            refine r_iconst C (dk oX10_claim_1 49 rfl) (v := nI 0) (by decide) ?_
                            refine r_istore (lo' := [(4, _), (3, _), (2, _), (1, _), (0, _)]) C (dk oX10_claim_1 50 rfl) (by decide) rfl ?_
                            have L197 : ∀ (d_ : Nat) (k_ : Nat) (I3 : MI), Cc.length - k_ < d_ → k_ ≤ Cc.length → (∀ q, q ≠ 120 → I3 q = (up2 (up2 (up2 Ie 117 25 (nI 0)) 119 (sCl τ).1 (cCo (sT τ) (sL τ))) 121 (sCl τ).1 (nI Cc.length)) q) → (∀ j, I3 120 j = if 120 * (sCl τ).1 ≤ j ∧ j < 120 * (sCl τ).1 + k_ then nI (enc (Cc.getD (j - 120 * (sCl τ).1) 0)) else (up2 (up2 (up2 Ie 117 25 (nI 0)) 119 (sCl τ).1 (cCo (sT τ) (sL τ))) 121 (sCl τ).1 (nI Cc.length)) 120 j) → V p l e (rmL 5) s m args below meth c Q D A 5 0 0 n ad (mE cA ad I3 J) 197 [(0, .ref (ad 117)), (3, .int (nI (sCl τ).1)), (4, .int (nI k_))] [] := by
                              intro d_
                              induction d_ with
                              | zero => intros; exact absurd (by assumption) (Nat.not_lt_zero _)
                              | succ d_ ih => 
                                intro k_ I3 hd_ hk hFc hcp
                                refine r_iload C 2 (dk oX10_claim_1 51 rfl) rfl ?_
                                refine r_aload_n C 0 (dk oX10_claim_1 52 rfl) rfl ?_
                                refine r_getI C (dk oX10_claim_1 53 rfl) fl_X10_178 rfl (km hn rfl) ?_
                                rw [hFc 117 (by decide), up2_ne (by decide), up2_ne (by decide), up2_off (by decide), hq0.2.2.1]
                                refine r_icmp_ge (tgt := 231) C (dk oX10_claim_1 54 rfl) (by decide) (fun hb203 => ?_) (fun hb203 => ?_)
                                · simp (disch := omega) only [nI_leI, nI_ltI, nI_eq, nI_eq0] at hb203
                                  refine r_aload_n C 0 (dk oX10_claim_2 9 rfl) rfl ?_
                                  refine r_getR C (dk oX10_claim_2 10 rfl) fl_X10_7 rfl (km hn rfl) ?_
                                  refine r_iconst C (dk oX10_claim_2 11 rfl) (v := nI 0) (by decide) ?_
                                  refine r_dup2 C (dk oX10_claim_2 12 rfl) rfl rfl ?_
                                  refine r_iald C 0 (dk oX10_claim_2 13 rfl) rfl (km hn rfl) rfl (by decide) (by decide) ?_
                                  rw [hFc 118 (by decide), up2_ne (by decide), up2_ne (by decide), show up2 Ie 117 25 (nI 0) 118 0 = nI (sCl τ).1 from hMr.c0.2.1]
                                  refine r_iconst C (dk oX10_claim_2 14 rfl) (v := nI 1) (by decide) ?_
                                  refine r_iadd C (dk oX10_claim_2 15 rfl) ?_
                                  rw [nI_add]
                                  refine r_iast C 0 (dk oX10_claim_2 16 rfl) rfl (km hn rfl) rfl (by decide) (by decide) ?_
                                  refine r_iload_n C 1 (dk oX10_claim_2 17 rfl) rfl ?_
                                  refine hret (dk oX10_claim_2 18 rfl) rfl ?_
                                  refine ⟨stC (rdS τ 0 pl) (adC (sCl τ) (cCo (sT τ) (sL τ)) Cc), (by unfold q_claim; rw [if_neg (by omega), if_neg (by omega)]; exact ⟨0, pl, Cc, hPR, by rw [if_pos rfl]; exact ⟨rfl, rfl⟩⟩), MM.cl (τ := rdS τ 0 pl) (x := cCo (sT τ) (sL τ)) (C := Cc) hMr (by show (sCl τ).1 < 6; omega) hPRok.2 hPRok.1 (fun k hk => ?_) ?_ ?_ ?_ (fun j => ?_), fun k hk => ?_, rfl⟩
                                  · rw [up2_ne (by omega), hFc k (by omega), up2_ne (by omega), up2_ne (by omega)]
                                  · funext j
                                    rw [up2_eq]
                                    show (if j = 0 then _ else I3 118 j) = _
                                    rw [hFc 118 (by decide), up2_ne (by decide), up2_ne (by decide)]
                                    rfl
                                  · rw [up2_ne (by decide), hFc 119 (by decide), up2_ne (by decide), up2_eq]
                                    rfl
                                  · rw [up2_ne (by decide), hFc 121 (by decide), up2_eq]
                                    funext j
                                    show (if j = (sCl τ).1 then _ else _) = _
                                    rw [up2_ne (by decide)]
                                    rfl
                                  · rw [up2_ne (by decide), hcp j, show k_ = Cc.length by omega, up2_ne (by decide), up2_ne (by decide)]
                                    rfl
                                  · rw [up2_ne (by omega), hFc k (by omega), up2_ne (by omega), up2_ne (by omega), up2_ne (by omega), hmE.1 k (by omega) (by omega) (by omega)]
                                    exact hF1 k hk
                                · simp (disch := omega) only [nI_leI, nI_ltI, nI_eq, nI_eq0] at hb203
                                  have hb203 : k_ < Cc.length := by omega
                                  refine r_aload_n C 0 (dk oX10_claim_1 55 rfl) rfl ?_
                                  refine r_getR C (dk oX10_claim_1 56 rfl) fl_X10_16 rfl (km hn rfl) ?_
                                  refine r_bipush C (dk oX10_claim_1 57 rfl) (v := nI 120) (by decide) ?_
                                  refine r_iload_n C 1 (dk oX10_claim_1 58 rfl) rfl ?_
                                  refine r_imul C (dk oX10_claim_1 59 rfl) ?_
                                  rw [pk_mul]
                                  refine r_iload C 2 (dk oX10_claim_2 0 rfl) rfl ?_
                                  refine r_iadd C (dk oX10_claim_2 1 rfl) ?_
                                  rw [nI_add]
                                  refine r_aload_n C 0 (dk oX10_claim_2 2 rfl) rfl ?_
                                  refine r_getR C (dk oX10_claim_2 3 rfl) fl_X10_90 rfl (km hn rfl) ?_
                                  refine r_iload C 2 (dk oX10_claim_2 4 rfl) rfl ?_
                                  refine r_iald C _ (dk oX10_claim_2 5 rfl) rfl (km hn rfl) rfl (by omega) (by decide) ?_
                                  rw [hFc 143 (by decide), up2_ne (by decide), up2_ne (by decide), up2_ne (by decide), hq0.2.2.2 k_ hb203]
                                  refine r_iast C _ (dk oX10_claim_2 6 rfl) rfl (km hn rfl) rfl (by omega) (by decide) ?_
                                  refine r_iinc (lo' := [(4, _), (0, _), (3, _)]) C 2 (dk oX10_claim_2 7 rfl) rfl (by first | exact nI_inc _ | rfl) (by decide) rfl ?_
                                  refine r_goto (tgt := 197) C (dk oX10_claim_2 8 rfl) (by decide) ?_
                                  refine V.sub [1, 2, 0] rfl ?_
                                  refine ih (k_ + 1) _ (by omega) (by omega) (fun q hq => by rw [up2_ne hq]; exact hFc q hq) (fun j => ?_)
                                  by_cases e : j = 120 * (sCl τ).1 + k_
                                  · rw [e, up2_at, if_pos (by omega), show 120 * (sCl τ).1 + k_ - 120 * (sCl τ).1 = k_ by omega]
                                  · rw [up2_off e, hcp j]
                                    by_cases e2 : 120 * (sCl τ).1 ≤ j ∧ j < 120 * (sCl τ).1 + k_
                                    · rw [if_pos e2, if_pos (by omega)]
                                    · rw [if_neg e2, if_neg (by omega)]
                            refine V.sub [4, 1, 0] rfl ?_
                            exact L197 (Cc.length + 1) 0 _ (by omega) (Nat.zero_le _) (fun _ _ => rfl) (fun j => (if_neg (by omega)).symm)
                    · rw [show (0 : Int32) = nI 0 from rfl, nI_leI (by omega) (by omega)] at hb150
                      have hf0 : ¬ fn = 0 := by omega
                      refine r_bipush C (dk oX10_claim_1 23 rfl) (v := -10) (by decide) ?_
                      refine r_aload_n C 2 (dk oX10_claim_1 24 rfl) rfl ?_
                      refine r_getI C (dk oX10_claim_1 25 rfl) fl_X10_145 rfl (km hn rfl) ?_
                      rw [up2_off (by decide), h29e]
                      refine r_isub C (dk oX10_claim_1 26 rfl) ?_
                      refine hret (dk oX10_claim_1 27 rfl) rfl ?_
                      exact ⟨rdS τ fn pl, (by unfold q_claim; rw [if_neg (by omega), if_neg (by omega)]; exact ⟨fn, pl, Cc, hPR, by rw [if_neg hf0]; exact ⟨rfl, rfl⟩⟩), hMr, fun k hk => by rw [up2_ne (by omega), hmE.1 k (by omega) (by omega) (by omega)]; exact hF1 k hk, rfl⟩
        · rw [b32_n] at hb70
          refine r_iconst C (dk oX10_claim_0 41 rfl) (v := nI 1) (by decide) ?_
          refine r_topI (show nI 1 = b32 (decide (cOwe (sT τ) (sL τ) = true ∨ cPay (sT τ) (sL τ) = true)) from by
            first
              | exact b32_dt (Or.inl hb54)
              | exact b32_dt (Or.inr hb70)) ?_
          refine r_goto (tgt := 78) C (dk oX10_claim_0 42 rfl) (by decide) ?_
          refine r_iconst C (dk oX10_claim_0 44 rfl) (v := nI 1) (by decide) ?_
          refine r_aload_n C 1 (dk oX10_claim_0 45 rfl) rfl ?_
          refine r_getI C (dk oX10_claim_0 46 rfl) fl_X10_152 rfl (km hn rfl) ?_
          rw [h27a]
          refine r_ivi C Z (dk oX10_claim_0 47 rfl) cl_X10_173 ci_X10_want rfl (km hn rfl) (c_X10_want hn I35 J (decide ((cOwe (sT τ) (sL τ) = true ∨ cPay (sT τ) (sL τ) = true))) (nI 1) (nI (sk (sT τ) (sL τ) 0)) (nI 0) ((hfa.2 29 (by decide) (by decide) (by decide)).trans hB29)) rfl rfl (Nat.le_of_ble_eq_true rfl) ⟨Nat.le_of_ble_eq_true rfl, Nat.le_of_ble_eq_true rfl⟩ ⟨Nat.zero_le _, Nat.zero_le _⟩ (fun r83 I83 J83 h83 => ?_)
          obtain ⟨e1_, hW83, e2_⟩ := h83
          have e1_ := e1_.symm
          have e2_ := e2_.symm
          subst e1_
          subst e2_
          refine r_if_eq (tgt := 100) C (dk oX10_claim_0 48 rfl) (by decide) (fun hb86 => ?_) (fun hb86 => ?_)
          · rw [b32_0, decide_eq_false_iff_not] at hb86
            have hb86 := want_0 hb86
            have hI83 := want_t hW83 hb86
            subst hI83
            refine r_iconst C (dk oX10_claim_0 54 rfl) (v := nI 0) (by decide) ?_
            refine r_istore_n (lo' := [(2, _), (1, _), (0, _)]) C (dk oX10_claim_0 55 rfl) rfl (by decide) rfl ?_
            refine r_aload_n C 2 (dk oX10_claim_0 56 rfl) rfl ?_
            refine r_getI C (dk oX10_claim_0 57 rfl) fl_X10_145 rfl (km hn rfl) ?_
            first
              | rw [hn1]
              | rw [up2_off (by decide), up2_at]
            refine r_if_ne (tgt := 141) C (dk oX10_claim_0 58 rfl) (by decide) (fun hb106 => ?_) (fun hb106 => ?_)
            · first
                | (fail)
                | obtain ⟨Ie, hIe⟩ : ∃ X, X = up2 (up2 I35 117 29 (nI 1)) 117 30 (nI (sk (sT τ) (sL τ) 0)) := ⟨_, rfl⟩
                  have hE : ∃ fn pl Cc, clE τ I1 (up2 (up2 I35 117 29 (nI 1)) 117 30 (nI (sk (sT τ) (sL τ) 0))) fn pl Cc ∧ fn ≠ 0 := ⟨1, (sk (sT τ) (sL τ) 0), [], ⟨PR_1 hb86, ((hBm.tr hfa.X.m).up 29 _ (by decide)).up 30 _ (by decide), by rw [up2_off (by decide), up2_at], by rw [up2_at, if_neg (by decide)], fun e => absurd e (by decide)⟩, by decide⟩
                  rw [← hIe] at hE
                  rw [← hIe]
                  clear hIe
                  obtain ⟨fn, pl, Cc, hE1, hne0⟩ := hE
                  obtain ⟨hPR, hmE, h29e, h30e, hqE⟩ := hE1
                  have hfn := hPR.1
                  have hMr := hMM1.rc (f := fn) (pl := pl) hmE h30e
                  refine r_aload_n C 2 (dk oX10_claim_1 17 rfl) rfl ?_
                  refine r_iconst C (dk oX10_claim_1 18 rfl) (v := nI 0) (by decide) ?_
                  refine r_putI C (dk oX10_claim_1 19 rfl) fl_X10_136 ft_10_25 rfl (km hn rfl) ?_
                  refine r_aload_n C 2 (dk oX10_claim_1 20 rfl) rfl ?_
                  refine r_getI C (dk oX10_claim_1 21 rfl) fl_X10_145 rfl (km hn rfl) ?_
                  rw [up2_off (by decide), h29e]
                  refine r_if_le (tgt := 161) C (dk oX10_claim_1 22 rfl) (by decide) (fun hb150 => ?_) (fun hb150 => ?_)
                  · first
                      | (exfalso; rw [show (0 : Int32) = nI 0 from rfl, nI_leI (by omega) (by omega)] at hb150; omega)
                      | rw [show (0 : Int32) = nI 0 from rfl, nI_leI (by omega) (by omega)] at hb150
                        have hf0 : fn = 0 := by omega
                        subst hf0
                        have hq0 := hqE rfl
                        have hPRok := hPR.ok hL12
                        have hlen : Cc.length ≤ 120 := hPRok.1.1
                        refine r_aload_n C 2 (dk oX10_claim_1 28 rfl) rfl ?_
                        refine r_getR C (dk oX10_claim_1 29 rfl) fl_X10_7 rfl (km hn rfl) ?_
                        refine r_iconst C (dk oX10_claim_1 30 rfl) (v := nI 0) (by decide) ?_
                        refine r_iald C 0 (dk oX10_claim_1 31 rfl) rfl (km hn rfl) rfl (by decide) (by decide) ?_
                        rw [show up2 Ie 117 25 (nI 0) 118 0 = nI (sCl τ).1 from hMr.c0.2.1]
                        refine r_istore_n (lo' := [(3, _), (2, _), (1, _), (0, _)]) C (dk oX10_claim_1 32 rfl) rfl (by decide) rfl ?_
                        refine r_aload_n C 3 (dk oX10_claim_1 33 rfl) rfl ?_
                        refine r_getR C (dk oX10_claim_1 34 rfl) fl_X10_13 rfl (km hn rfl) ?_
                        refine r_iload_n C 0 (dk oX10_claim_1 35 rfl) rfl ?_
                        refine r_iload_n C 2 (dk oX10_claim_1 36 rfl) rfl ?_
                        refine r_if_eq (tgt := 182) C (dk oX10_claim_1 37 rfl) (by decide) (fun hb174 => ?_) (fun hb174 => ?_)
                        · rw [b32_0] at hb174
                          refine r_iload_n C 1 (dk oX10_claim_1 41 rfl) rfl ?_
                          refine r_topI (show nI (nmV (sT τ) (sL τ) (cP1 (sT τ) (sL τ))) = cCo (sT τ) (sL τ) from by unfold cCo; rw [hb174, if_neg (by decide)]) ?_
                          refine r_iast C _ (dk oX10_claim_1 42 rfl) rfl (km hn rfl) rfl (by omega) (by decide) ?_
                          refine r_aload_n C 3 (dk oX10_claim_1 43 rfl) rfl ?_
                          refine r_getR C (dk oX10_claim_1 44 rfl) fl_X10_19 rfl (km hn rfl) ?_
                          refine r_iload_n C 0 (dk oX10_claim_1 45 rfl) rfl ?_
                          refine r_aload_n C 3 (dk oX10_claim_1 46 rfl) rfl ?_
                          refine r_getI C (dk oX10_claim_1 47 rfl) fl_X10_178 rfl (km hn rfl) ?_
                          rw [up2_ne (by decide), up2_off (by decide), hq0.2.2.1]
                          refine r_iast C _ (dk oX10_claim_1 48 rfl) rfl (km hn rfl) rfl (by omega) (by decide) ?_
                          refine r_iconst C (dk oX10_claim_1 49 rfl) (v := nI 0) (by decide) ?_
                          refine r_istore (lo' := [(4, _), (3, _), (2, _), (1, _), (0, _)]) C (dk oX10_claim_1 50 rfl) (by decide) rfl ?_
                          have L197 : ∀ (d_ : Nat) (k_ : Nat) (I3 : MI), Cc.length - k_ < d_ → k_ ≤ Cc.length → (∀ q, q ≠ 120 → I3 q = (up2 (up2 (up2 Ie 117 25 (nI 0)) 119 (sCl τ).1 (cCo (sT τ) (sL τ))) 121 (sCl τ).1 (nI Cc.length)) q) → (∀ j, I3 120 j = if 120 * (sCl τ).1 ≤ j ∧ j < 120 * (sCl τ).1 + k_ then nI (enc (Cc.getD (j - 120 * (sCl τ).1) 0)) else (up2 (up2 (up2 Ie 117 25 (nI 0)) 119 (sCl τ).1 (cCo (sT τ) (sL τ))) 121 (sCl τ).1 (nI Cc.length)) 120 j) → V p l e (rmL 5) s m args below meth c Q D A 5 0 0 n ad (mE cA ad I3 J) 197 [(0, .ref (ad 117)), (3, .int (nI (sCl τ).1)), (4, .int (nI k_))] [] := by
                            intro d_
                            induction d_ with
                            | zero => intros; exact absurd (by assumption) (Nat.not_lt_zero _)
                            | succ d_ ih => 
                              intro k_ I3 hd_ hk hFc hcp
                              refine r_iload C 2 (dk oX10_claim_1 51 rfl) rfl ?_
                              refine r_aload_n C 0 (dk oX10_claim_1 52 rfl) rfl ?_
                              refine r_getI C (dk oX10_claim_1 53 rfl) fl_X10_178 rfl (km hn rfl) ?_
                              rw [hFc 117 (by decide), up2_ne (by decide), up2_ne (by decide), up2_off (by decide), hq0.2.2.1]
                              refine r_icmp_ge (tgt := 231) C (dk oX10_claim_1 54 rfl) (by decide) (fun hb203 => ?_) (fun hb203 => ?_)
                              · simp (disch := omega) only [nI_leI, nI_ltI, nI_eq, nI_eq0] at hb203
                                refine r_aload_n C 0 (dk oX10_claim_2 9 rfl) rfl ?_
                                refine r_getR C (dk oX10_claim_2 10 rfl) fl_X10_7 rfl (km hn rfl) ?_
                                refine r_iconst C (dk oX10_claim_2 11 rfl) (v := nI 0) (by decide) ?_
                                refine r_dup2 C (dk oX10_claim_2 12 rfl) rfl rfl ?_
                                refine r_iald C 0 (dk oX10_claim_2 13 rfl) rfl (km hn rfl) rfl (by decide) (by decide) ?_
                                rw [hFc 118 (by decide), up2_ne (by decide), up2_ne (by decide), show up2 Ie 117 25 (nI 0) 118 0 = nI (sCl τ).1 from hMr.c0.2.1]
                                refine r_iconst C (dk oX10_claim_2 14 rfl) (v := nI 1) (by decide) ?_
                                refine r_iadd C (dk oX10_claim_2 15 rfl) ?_
                                rw [nI_add]
                                refine r_iast C 0 (dk oX10_claim_2 16 rfl) rfl (km hn rfl) rfl (by decide) (by decide) ?_
                                refine r_iload_n C 1 (dk oX10_claim_2 17 rfl) rfl ?_
                                refine hret (dk oX10_claim_2 18 rfl) rfl ?_
                                refine ⟨stC (rdS τ 0 pl) (adC (sCl τ) (cCo (sT τ) (sL τ)) Cc), (by unfold q_claim; rw [if_neg (by omega), if_neg (by omega)]; exact ⟨0, pl, Cc, hPR, by rw [if_pos rfl]; exact ⟨rfl, rfl⟩⟩), MM.cl (τ := rdS τ 0 pl) (x := cCo (sT τ) (sL τ)) (C := Cc) hMr (by show (sCl τ).1 < 6; omega) hPRok.2 hPRok.1 (fun k hk => ?_) ?_ ?_ ?_ (fun j => ?_), fun k hk => ?_, rfl⟩
                                · rw [up2_ne (by omega), hFc k (by omega), up2_ne (by omega), up2_ne (by omega)]
                                · funext j
                                  rw [up2_eq]
                                  show (if j = 0 then _ else I3 118 j) = _
                                  rw [hFc 118 (by decide), up2_ne (by decide), up2_ne (by decide)]
                                  rfl
                                · rw [up2_ne (by decide), hFc 119 (by decide), up2_ne (by decide), up2_eq]
                                  rfl
                                · rw [up2_ne (by decide), hFc 121 (by decide), up2_eq]
                                  funext j
                                  show (if j = (sCl τ).1 then _ else _) = _
                                  rw [up2_ne (by decide)]
                                  rfl
                                · rw [up2_ne (by decide), hcp j, show k_ = Cc.length by omega, up2_ne (by decide), up2_ne (by decide)]
                                  rfl
                                · rw [up2_ne (by omega), hFc k (by omega), up2_ne (by omega), up2_ne (by omega), up2_ne (by omega), hmE.1 k (by omega) (by omega) (by omega)]
                                  exact hF1 k hk
                              · simp (disch := omega) only [nI_leI, nI_ltI, nI_eq, nI_eq0] at hb203
                                have hb203 : k_ < Cc.length := by omega
                                refine r_aload_n C 0 (dk oX10_claim_1 55 rfl) rfl ?_
                                refine r_getR C (dk oX10_claim_1 56 rfl) fl_X10_16 rfl (km hn rfl) ?_
                                refine r_bipush C (dk oX10_claim_1 57 rfl) (v := nI 120) (by decide) ?_
                                refine r_iload_n C 1 (dk oX10_claim_1 58 rfl) rfl ?_
                                refine r_imul C (dk oX10_claim_1 59 rfl) ?_
                                rw [pk_mul]
                                refine r_iload C 2 (dk oX10_claim_2 0 rfl) rfl ?_
                                refine r_iadd C (dk oX10_claim_2 1 rfl) ?_
                                rw [nI_add]
                                refine r_aload_n C 0 (dk oX10_claim_2 2 rfl) rfl ?_
                                refine r_getR C (dk oX10_claim_2 3 rfl) fl_X10_90 rfl (km hn rfl) ?_
                                refine r_iload C 2 (dk oX10_claim_2 4 rfl) rfl ?_
                                refine r_iald C _ (dk oX10_claim_2 5 rfl) rfl (km hn rfl) rfl (by omega) (by decide) ?_
                                rw [hFc 143 (by decide), up2_ne (by decide), up2_ne (by decide), up2_ne (by decide), hq0.2.2.2 k_ hb203]
                                refine r_iast C _ (dk oX10_claim_2 6 rfl) rfl (km hn rfl) rfl (by omega) (by decide) ?_
                                refine r_iinc (lo' := [(4, _), (0, _), (3, _)]) C 2 (dk oX10_claim_2 7 rfl) rfl (by first | exact nI_inc _ | rfl) (by decide) rfl ?_
                                refine r_goto (tgt := 197) C (dk oX10_claim_2 8 rfl) (by decide) ?_
                                refine V.sub [1, 2, 0] rfl ?_
                                refine ih (k_ + 1) _ (by omega) (by omega) (fun q hq => by rw [up2_ne hq]; exact hFc q hq) (fun j => ?_)
                                by_cases e : j = 120 * (sCl τ).1 + k_
                                · rw [e, up2_at, if_pos (by omega), show 120 * (sCl τ).1 + k_ - 120 * (sCl τ).1 = k_ by omega]
                                · rw [up2_off e, hcp j]
                                  by_cases e2 : 120 * (sCl τ).1 ≤ j ∧ j < 120 * (sCl τ).1 + k_
                                  · rw [if_pos e2, if_pos (by omega)]
                                  · rw [if_neg e2, if_neg (by omega)]
                          refine V.sub [4, 1, 0] rfl ?_
                          exact L197 (Cc.length + 1) 0 _ (by omega) (Nat.zero_le _) (fun _ _ => rfl) (fun j => (if_neg (by omega)).symm)
                        · rw [b32_n] at hb174
                          refine r_iload_n C 1 (dk oX10_claim_1 38 rfl) rfl ?_
                          refine r_ineg C (dk oX10_claim_1 39 rfl) ?_
                          refine r_topI (show -(nI (nmV (sT τ) (sL τ) (cP1 (sT τ) (sL τ)))) = cCo (sT τ) (sL τ) from by unfold cCo; rw [hb174, if_pos rfl]) ?_
                          refine r_goto (tgt := 183) C (dk oX10_claim_1 40 rfl) (by decide) ?_
                          refine r_iast C _ (dk oX10_claim_1 42 rfl) rfl (km hn rfl) rfl (by omega) (by decide) ?_
                          refine r_aload_n C 3 (dk oX10_claim_1 43 rfl) rfl ?_
                          refine r_getR C (dk oX10_claim_1 44 rfl) fl_X10_19 rfl (km hn rfl) ?_
                          refine r_iload_n C 0 (dk oX10_claim_1 45 rfl) rfl ?_
                          refine r_aload_n C 3 (dk oX10_claim_1 46 rfl) rfl ?_
                          refine r_getI C (dk oX10_claim_1 47 rfl) fl_X10_178 rfl (km hn rfl) ?_
                          rw [up2_ne (by decide), up2_off (by decide), hq0.2.2.1]
                          refine r_iast C _ (dk oX10_claim_1 48 rfl) rfl (km hn rfl) rfl (by omega) (by decide) ?_
                          refine r_iconst C (dk oX10_claim_1 49 rfl) (v := nI 0) (by decide) ?_
                          refine r_istore (lo' := [(4, _), (3, _), (2, _), (1, _), (0, _)]) C (dk oX10_claim_1 50 rfl) (by decide) rfl ?_
                          have L197 : ∀ (d_ : Nat) (k_ : Nat) (I3 : MI), Cc.length - k_ < d_ → k_ ≤ Cc.length → (∀ q, q ≠ 120 → I3 q = (up2 (up2 (up2 Ie 117 25 (nI 0)) 119 (sCl τ).1 (cCo (sT τ) (sL τ))) 121 (sCl τ).1 (nI Cc.length)) q) → (∀ j, I3 120 j = if 120 * (sCl τ).1 ≤ j ∧ j < 120 * (sCl τ).1 + k_ then nI (enc (Cc.getD (j - 120 * (sCl τ).1) 0)) else (up2 (up2 (up2 Ie 117 25 (nI 0)) 119 (sCl τ).1 (cCo (sT τ) (sL τ))) 121 (sCl τ).1 (nI Cc.length)) 120 j) → V p l e (rmL 5) s m args below meth c Q D A 5 0 0 n ad (mE cA ad I3 J) 197 [(0, .ref (ad 117)), (3, .int (nI (sCl τ).1)), (4, .int (nI k_))] [] := by
                            intro d_
                            induction d_ with
                            | zero => intros; exact absurd (by assumption) (Nat.not_lt_zero _)
                            | succ d_ ih => 
                              intro k_ I3 hd_ hk hFc hcp
                              refine r_iload C 2 (dk oX10_claim_1 51 rfl) rfl ?_
                              refine r_aload_n C 0 (dk oX10_claim_1 52 rfl) rfl ?_
                              refine r_getI C (dk oX10_claim_1 53 rfl) fl_X10_178 rfl (km hn rfl) ?_
                              rw [hFc 117 (by decide), up2_ne (by decide), up2_ne (by decide), up2_off (by decide), hq0.2.2.1]
                              refine r_icmp_ge (tgt := 231) C (dk oX10_claim_1 54 rfl) (by decide) (fun hb203 => ?_) (fun hb203 => ?_)
                              · simp (disch := omega) only [nI_leI, nI_ltI, nI_eq, nI_eq0] at hb203
                                refine r_aload_n C 0 (dk oX10_claim_2 9 rfl) rfl ?_
                                refine r_getR C (dk oX10_claim_2 10 rfl) fl_X10_7 rfl (km hn rfl) ?_
                                refine r_iconst C (dk oX10_claim_2 11 rfl) (v := nI 0) (by decide) ?_
                                refine r_dup2 C (dk oX10_claim_2 12 rfl) rfl rfl ?_
                                refine r_iald C 0 (dk oX10_claim_2 13 rfl) rfl (km hn rfl) rfl (by decide) (by decide) ?_
                                rw [hFc 118 (by decide), up2_ne (by decide), up2_ne (by decide), show up2 Ie 117 25 (nI 0) 118 0 = nI (sCl τ).1 from hMr.c0.2.1]
                                refine r_iconst C (dk oX10_claim_2 14 rfl) (v := nI 1) (by decide) ?_
                                refine r_iadd C (dk oX10_claim_2 15 rfl) ?_
                                rw [nI_add]
                                refine r_iast C 0 (dk oX10_claim_2 16 rfl) rfl (km hn rfl) rfl (by decide) (by decide) ?_
                                refine r_iload_n C 1 (dk oX10_claim_2 17 rfl) rfl ?_
                                refine hret (dk oX10_claim_2 18 rfl) rfl ?_
                                refine ⟨stC (rdS τ 0 pl) (adC (sCl τ) (cCo (sT τ) (sL τ)) Cc), (by unfold q_claim; rw [if_neg (by omega), if_neg (by omega)]; exact ⟨0, pl, Cc, hPR, by rw [if_pos rfl]; exact ⟨rfl, rfl⟩⟩), MM.cl (τ := rdS τ 0 pl) (x := cCo (sT τ) (sL τ)) (C := Cc) hMr (by show (sCl τ).1 < 6; omega) hPRok.2 hPRok.1 (fun k hk => ?_) ?_ ?_ ?_ (fun j => ?_), fun k hk => ?_, rfl⟩
                                · rw [up2_ne (by omega), hFc k (by omega), up2_ne (by omega), up2_ne (by omega)]
                                · funext j
                                  rw [up2_eq]
                                  show (if j = 0 then _ else I3 118 j) = _
                                  rw [hFc 118 (by decide), up2_ne (by decide), up2_ne (by decide)]
                                  rfl
                                · rw [up2_ne (by decide), hFc 119 (by decide), up2_ne (by decide), up2_eq]
                                  rfl
                                · rw [up2_ne (by decide), hFc 121 (by decide), up2_eq]
                                  funext j
                                  show (if j = (sCl τ).1 then _ else _) = _
                                  rw [up2_ne (by decide)]
                                  rfl
                                · rw [up2_ne (by decide), hcp j, show k_ = Cc.length by omega, up2_ne (by decide), up2_ne (by decide)]
                                  rfl
                                · rw [up2_ne (by omega), hFc k (by omega), up2_ne (by omega), up2_ne (by omega), up2_ne (by omega), hmE.1 k (by omega) (by omega) (by omega)]
                                  exact hF1 k hk
                              · simp (disch := omega) only [nI_leI, nI_ltI, nI_eq, nI_eq0] at hb203
                                have hb203 : k_ < Cc.length := by omega
                                refine r_aload_n C 0 (dk oX10_claim_1 55 rfl) rfl ?_
                                refine r_getR C (dk oX10_claim_1 56 rfl) fl_X10_16 rfl (km hn rfl) ?_
                                refine r_bipush C (dk oX10_claim_1 57 rfl) (v := nI 120) (by decide) ?_
                                refine r_iload_n C 1 (dk oX10_claim_1 58 rfl) rfl ?_
                                refine r_imul C (dk oX10_claim_1 59 rfl) ?_
                                rw [pk_mul]
                                refine r_iload C 2 (dk oX10_claim_2 0 rfl) rfl ?_
                                refine r_iadd C (dk oX10_claim_2 1 rfl) ?_
                                rw [nI_add]
                                refine r_aload_n C 0 (dk oX10_claim_2 2 rfl) rfl ?_
                                refine r_getR C (dk oX10_claim_2 3 rfl) fl_X10_90 rfl (km hn rfl) ?_
                                refine r_iload C 2 (dk oX10_claim_2 4 rfl) rfl ?_
                                refine r_iald C _ (dk oX10_claim_2 5 rfl) rfl (km hn rfl) rfl (by omega) (by decide) ?_
                                rw [hFc 143 (by decide), up2_ne (by decide), up2_ne (by decide), up2_ne (by decide), hq0.2.2.2 k_ hb203]
                                refine r_iast C _ (dk oX10_claim_2 6 rfl) rfl (km hn rfl) rfl (by omega) (by decide) ?_
                                refine r_iinc (lo' := [(4, _), (0, _), (3, _)]) C 2 (dk oX10_claim_2 7 rfl) rfl (by first | exact nI_inc _ | rfl) (by decide) rfl ?_
                                refine r_goto (tgt := 197) C (dk oX10_claim_2 8 rfl) (by decide) ?_
                                refine V.sub [1, 2, 0] rfl ?_
                                refine ih (k_ + 1) _ (by omega) (by omega) (fun q hq => by rw [up2_ne hq]; exact hFc q hq) (fun j => ?_)
                                by_cases e : j = 120 * (sCl τ).1 + k_
                                · rw [e, up2_at, if_pos (by omega), show 120 * (sCl τ).1 + k_ - 120 * (sCl τ).1 = k_ by omega]
                                · rw [up2_off e, hcp j]
                                  by_cases e2 : 120 * (sCl τ).1 ≤ j ∧ j < 120 * (sCl τ).1 + k_
                                  · rw [if_pos e2, if_pos (by omega)]
                                  · rw [if_neg e2, if_neg (by omega)]
                          refine V.sub [4, 1, 0] rfl ?_
                          exact L197 (Cc.length + 1) 0 _ (by omega) (Nat.zero_le _) (fun _ _ => rfl) (fun j => (if_neg (by omega)).symm)
                  · rw [show (0 : Int32) = nI 0 from rfl, nI_leI (by omega) (by omega)] at hb150
                    have hf0 : ¬ fn = 0 := by omega
                    refine r_bipush C (dk oX10_claim_1 23 rfl) (v := -10) (by decide) ?_
                    refine r_aload_n C 2 (dk oX10_claim_1 24 rfl) rfl ?_
                    refine r_getI C (dk oX10_claim_1 25 rfl) fl_X10_145 rfl (km hn rfl) ?_
                    rw [up2_off (by decide), h29e]
                    refine r_isub C (dk oX10_claim_1 26 rfl) ?_
                    refine hret (dk oX10_claim_1 27 rfl) rfl ?_
                    exact ⟨rdS τ fn pl, (by unfold q_claim; rw [if_neg (by omega), if_neg (by omega)]; exact ⟨fn, pl, Cc, hPR, by rw [if_neg hf0]; exact ⟨rfl, rfl⟩⟩), hMr, fun k hk => by rw [up2_ne (by omega), hmE.1 k (by omega) (by omega) (by omega)]; exact hF1 k hk, rfl⟩
            · first
                | (exact absurd hb106 (by decide))
                | have hz106 : (nmF (sT τ) (sL τ) (cP1 (sT τ) (sL τ)) 1 999) = 0 := by
                    have := @nmF_lt (sT τ) (sL τ) (cP1 (sT τ) (sL τ)) 1 999
                    rw [nI_eq0 (by omega)] at hb106
                    exact hb106
                  obtain ⟨hrv, h26v⟩ := hn4 hz106
                  have hrv := hrv.symm
                  subst hrv
                  refine r_aload_n C 2 (dk oX10_claim_0 59 rfl) rfl ?_
                  refine r_ivv C Z (dk oX10_claim_1 0 rfl) cl_X10_162 ci_X10_takeWord rfl (km hn rfl) (c_X10_takeWord hn I94 J (sT τ) (sL τ) hT94 (nE (sT τ) (sL τ) (cP1 (sT τ) (sL τ))) h26v (nE_le hP1L)) rfl rfl (Nat.le_of_ble_eq_true rfl) ⟨Nat.le_of_ble_eq_true rfl, Nat.le_of_ble_eq_true rfl⟩ ⟨Nat.zero_le _, Nat.zero_le _⟩ (fun I110 J110 h110 => ?_)
                  obtain ⟨h26b, h27b, h28b, hfb, e2_⟩ := h110
                  rw [show sk (sT τ) (sL τ) (nE (sT τ) (sL τ) (cP1 (sT τ) (sL τ))) = (cP2 (sT τ) (sL τ)) from rfl] at h26b h27b h28b
                  have e2_ := e2_.symm
                  subst e2_
                  have hP2L : (cP2 (sT τ) (sL τ)) ≤ sL τ := sk_le (nE_le hP1L)
                  refine r_aload_n C 2 (dk oX10_claim_1 1 rfl) rfl ?_
                  refine r_aload_n C 2 (dk oX10_claim_1 2 rfl) rfl ?_
                  refine r_iconst C (dk oX10_claim_1 3 rfl) (v := nI 2) (by decide) ?_
                  refine r_bipush C (dk oX10_claim_1 4 rfl) (v := nI 105) (by decide) ?_
                  refine r_bipush C (dk oX10_claim_1 5 rfl) (v := nI 102) (by decide) ?_
                  refine r_iconst C (dk oX10_claim_1 6 rfl) (v := nI 0) (by decide) ?_
                  refine r_iconst C (dk oX10_claim_1 7 rfl) (v := nI 0) (by decide) ?_
                  refine r_iconst C (dk oX10_claim_1 8 rfl) (v := nI 0) (by decide) ?_
                  refine r_ivi C Z (dk oX10_claim_1 9 rfl) cl_X10_165 ci_X10_isWord rfl (km hn rfl) (c_X10_isWord hn I110 J (sT τ) (sL τ) (hT94.tk hfb) (cP2 (sT τ) (sL τ)) h27b hP2L h28b 2 105 102 0 0 0 (by decide) (by decide) (sWd 2) (by decide)) rfl rfl (Nat.le_of_ble_eq_true rfl) ⟨Nat.le_of_ble_eq_true rfl, Nat.le_of_ble_eq_true rfl⟩ ⟨Nat.zero_le _, Nat.zero_le _⟩ (fun r123 I123 J123 h123 => ?_)
                  obtain ⟨h123, e1_, e2_⟩ := h123
                  have e1_ := e1_.symm
                  have e2_ := e2_.symm
                  subst e1_
                  subst e2_
                  subst h123
                  refine r_topI (show b32 (isW (sT τ) (sL τ) (cP2 (sT τ) (sL τ)) (sWd 2)) = b32 (decide (isW (sT τ) (sL τ) (cP2 (sT τ) (sL τ)) (sWd 2) = true)) from by cases isW (sT τ) (sL τ) (cP2 (sT τ) (sL τ)) (sWd 2) <;> rfl) ?_
                  refine r_iconst C (dk oX10_claim_1 10 rfl) (v := nI 1) (by decide) ?_
                  refine r_aload_n C 2 (dk oX10_claim_1 11 rfl) rfl ?_
                  refine r_getI C (dk oX10_claim_1 12 rfl) fl_X10_152 rfl (km hn rfl) ?_
                  rw [h27b]
                  refine r_ivi C Z (dk oX10_claim_1 13 rfl) cl_X10_173 ci_X10_want rfl (km hn rfl) (c_X10_want hn I110 J (decide (isW (sT τ) (sL τ) (cP2 (sT τ) (sL τ)) (sWd 2) = true)) (nI 1) (nI (cP2 (sT τ) (sL τ))) (nI 0) ((hfb.2 29 (by decide) (by decide) (by decide)).trans (by rw [hn1, hz106]))) rfl rfl (Nat.le_of_ble_eq_true rfl) ⟨Nat.le_of_ble_eq_true rfl, Nat.le_of_ble_eq_true rfl⟩ ⟨Nat.zero_le _, Nat.zero_le _⟩ (fun r131 I131 J131 h131 => ?_)
                  obtain ⟨e1_, hW131, e2_⟩ := h131
                  have e1_ := e1_.symm
                  have e2_ := e2_.symm
                  subst e1_
                  subst e2_
                  refine r_if_eq (tgt := 141) C (dk oX10_claim_1 14 rfl) (by decide) (fun hb134 => ?_) (fun hb134 => ?_)
                  · rw [b32_0, decide_eq_false_iff_not] at hb134
                    have hb134 := want_0 hb134
                    have hI131 := want_t hW131 hb134
                    subst hI131
                    obtain ⟨Ie, hIe⟩ : ∃ X, X = up2 (up2 I110 117 29 (nI 1)) 117 30 (nI (cP2 (sT τ) (sL τ))) := ⟨_, rfl⟩
                    have hE : ∃ fn pl Cc, clE τ I1 (up2 (up2 I110 117 29 (nI 1)) 117 30 (nI (cP2 (sT τ) (sL τ)))) fn pl Cc ∧ fn ≠ 0 := ⟨1, (cP2 (sT τ) (sL τ)), [], ⟨PR_3 hb86 hz106 hb134, ((hBm.tr (hfa.X.m.tr (hnf.X.m.tr hfb.X.m))).up 29 _ (by decide)).up 30 _ (by decide), by rw [up2_off (by decide), up2_at], by rw [up2_at, if_neg (by decide)], fun e => absurd e (by decide)⟩, by decide⟩
                    rw [← hIe] at hE
                    rw [← hIe]
                    clear hIe
                    obtain ⟨fn, pl, Cc, hE1, hne0⟩ := hE
                    obtain ⟨hPR, hmE, h29e, h30e, hqE⟩ := hE1
                    have hfn := hPR.1
                    have hMr := hMM1.rc (f := fn) (pl := pl) hmE h30e
                    refine r_aload_n C 2 (dk oX10_claim_1 17 rfl) rfl ?_
                    refine r_iconst C (dk oX10_claim_1 18 rfl) (v := nI 0) (by decide) ?_
                    refine r_putI C (dk oX10_claim_1 19 rfl) fl_X10_136 ft_10_25 rfl (km hn rfl) ?_
                    refine r_aload_n C 2 (dk oX10_claim_1 20 rfl) rfl ?_
                    refine r_getI C (dk oX10_claim_1 21 rfl) fl_X10_145 rfl (km hn rfl) ?_
                    rw [up2_off (by decide), h29e]
                    refine r_if_le (tgt := 161) C (dk oX10_claim_1 22 rfl) (by decide) (fun hb150 => ?_) (fun hb150 => ?_)
                    · first
                        | (exfalso; rw [show (0 : Int32) = nI 0 from rfl, nI_leI (by omega) (by omega)] at hb150; omega)
                        | rw [show (0 : Int32) = nI 0 from rfl, nI_leI (by omega) (by omega)] at hb150
                          have hf0 : fn = 0 := by omega
                          subst hf0
                          have hq0 := hqE rfl
                          have hPRok := hPR.ok hL12
                          have hlen : Cc.length ≤ 120 := hPRok.1.1
                          refine r_aload_n C 2 (dk oX10_claim_1 28 rfl) rfl ?_
                          refine r_getR C (dk oX10_claim_1 29 rfl) fl_X10_7 rfl (km hn rfl) ?_
                          refine r_iconst C (dk oX10_claim_1 30 rfl) (v := nI 0) (by decide) ?_
                          refine r_iald C 0 (dk oX10_claim_1 31 rfl) rfl (km hn rfl) rfl (by decide) (by decide) ?_
                          rw [show up2 Ie 117 25 (nI 0) 118 0 = nI (sCl τ).1 from hMr.c0.2.1]
                          refine r_istore_n (lo' := [(3, _), (2, _), (1, _), (0, _)]) C (dk oX10_claim_1 32 rfl) rfl (by decide) rfl ?_
                          refine r_aload_n C 3 (dk oX10_claim_1 33 rfl) rfl ?_
                          refine r_getR C (dk oX10_claim_1 34 rfl) fl_X10_13 rfl (km hn rfl) ?_
                          refine r_iload_n C 0 (dk oX10_claim_1 35 rfl) rfl ?_
                          refine r_iload_n C 2 (dk oX10_claim_1 36 rfl) rfl ?_
                          refine r_if_eq (tgt := 182) C (dk oX10_claim_1 37 rfl) (by decide) (fun hb174 => ?_) (fun hb174 => ?_)
                          · rw [b32_0] at hb174
                            refine r_iload_n C 1 (dk oX10_claim_1 41 rfl) rfl ?_
                            refine r_topI (show nI (nmV (sT τ) (sL τ) (cP1 (sT τ) (sL τ))) = cCo (sT τ) (sL τ) from by unfold cCo; rw [hb174, if_neg (by decide)]) ?_
                            refine r_iast C _ (dk oX10_claim_1 42 rfl) rfl (km hn rfl) rfl (by omega) (by decide) ?_
                            refine r_aload_n C 3 (dk oX10_claim_1 43 rfl) rfl ?_
                            refine r_getR C (dk oX10_claim_1 44 rfl) fl_X10_19 rfl (km hn rfl) ?_
                            refine r_iload_n C 0 (dk oX10_claim_1 45 rfl) rfl ?_
                            refine r_aload_n C 3 (dk oX10_claim_1 46 rfl) rfl ?_
                            refine r_getI C (dk oX10_claim_1 47 rfl) fl_X10_178 rfl (km hn rfl) ?_
                            rw [up2_ne (by decide), up2_off (by decide), hq0.2.2.1]
                            refine r_iast C _ (dk oX10_claim_1 48 rfl) rfl (km hn rfl) rfl (by omega) (by decide) ?_
                            refine r_iconst C (dk oX10_claim_1 49 rfl) (v := nI 0) (by decide) ?_
                            refine r_istore (lo' := [(4, _), (3, _), (2, _), (1, _), (0, _)]) C (dk oX10_claim_1 50 rfl) (by decide) rfl ?_
                            have L197 : ∀ (d_ : Nat) (k_ : Nat) (I3 : MI), Cc.length - k_ < d_ → k_ ≤ Cc.length → (∀ q, q ≠ 120 → I3 q = (up2 (up2 (up2 Ie 117 25 (nI 0)) 119 (sCl τ).1 (cCo (sT τ) (sL τ))) 121 (sCl τ).1 (nI Cc.length)) q) → (∀ j, I3 120 j = if 120 * (sCl τ).1 ≤ j ∧ j < 120 * (sCl τ).1 + k_ then nI (enc (Cc.getD (j - 120 * (sCl τ).1) 0)) else (up2 (up2 (up2 Ie 117 25 (nI 0)) 119 (sCl τ).1 (cCo (sT τ) (sL τ))) 121 (sCl τ).1 (nI Cc.length)) 120 j) → V p l e (rmL 5) s m args below meth c Q D A 5 0 0 n ad (mE cA ad I3 J) 197 [(0, .ref (ad 117)), (3, .int (nI (sCl τ).1)), (4, .int (nI k_))] [] := by
                              intro d_
                              induction d_ with
                              | zero => intros; exact absurd (by assumption) (Nat.not_lt_zero _)
                              | succ d_ ih => 
                                intro k_ I3 hd_ hk hFc hcp
                                refine r_iload C 2 (dk oX10_claim_1 51 rfl) rfl ?_
                                refine r_aload_n C 0 (dk oX10_claim_1 52 rfl) rfl ?_
                                refine r_getI C (dk oX10_claim_1 53 rfl) fl_X10_178 rfl (km hn rfl) ?_
                                rw [hFc 117 (by decide), up2_ne (by decide), up2_ne (by decide), up2_off (by decide), hq0.2.2.1]
                                refine r_icmp_ge (tgt := 231) C (dk oX10_claim_1 54 rfl) (by decide) (fun hb203 => ?_) (fun hb203 => ?_)
                                · simp (disch := omega) only [nI_leI, nI_ltI, nI_eq, nI_eq0] at hb203
                                  refine r_aload_n C 0 (dk oX10_claim_2 9 rfl) rfl ?_
                                  refine r_getR C (dk oX10_claim_2 10 rfl) fl_X10_7 rfl (km hn rfl) ?_
                                  refine r_iconst C (dk oX10_claim_2 11 rfl) (v := nI 0) (by decide) ?_
                                  refine r_dup2 C (dk oX10_claim_2 12 rfl) rfl rfl ?_
                                  refine r_iald C 0 (dk oX10_claim_2 13 rfl) rfl (km hn rfl) rfl (by decide) (by decide) ?_
                                  rw [hFc 118 (by decide), up2_ne (by decide), up2_ne (by decide), show up2 Ie 117 25 (nI 0) 118 0 = nI (sCl τ).1 from hMr.c0.2.1]
                                  refine r_iconst C (dk oX10_claim_2 14 rfl) (v := nI 1) (by decide) ?_
                                  refine r_iadd C (dk oX10_claim_2 15 rfl) ?_
                                  rw [nI_add]
                                  refine r_iast C 0 (dk oX10_claim_2 16 rfl) rfl (km hn rfl) rfl (by decide) (by decide) ?_
                                  refine r_iload_n C 1 (dk oX10_claim_2 17 rfl) rfl ?_
                                  refine hret (dk oX10_claim_2 18 rfl) rfl ?_
                                  refine ⟨stC (rdS τ 0 pl) (adC (sCl τ) (cCo (sT τ) (sL τ)) Cc), (by unfold q_claim; rw [if_neg (by omega), if_neg (by omega)]; exact ⟨0, pl, Cc, hPR, by rw [if_pos rfl]; exact ⟨rfl, rfl⟩⟩), MM.cl (τ := rdS τ 0 pl) (x := cCo (sT τ) (sL τ)) (C := Cc) hMr (by show (sCl τ).1 < 6; omega) hPRok.2 hPRok.1 (fun k hk => ?_) ?_ ?_ ?_ (fun j => ?_), fun k hk => ?_, rfl⟩
                                  · rw [up2_ne (by omega), hFc k (by omega), up2_ne (by omega), up2_ne (by omega)]
                                  · funext j
                                    rw [up2_eq]
                                    show (if j = 0 then _ else I3 118 j) = _
                                    rw [hFc 118 (by decide), up2_ne (by decide), up2_ne (by decide)]
                                    rfl
                                  · rw [up2_ne (by decide), hFc 119 (by decide), up2_ne (by decide), up2_eq]
                                    rfl
                                  · rw [up2_ne (by decide), hFc 121 (by decide), up2_eq]
                                    funext j
                                    show (if j = (sCl τ).1 then _ else _) = _
                                    rw [up2_ne (by decide)]
                                    rfl
                                  · rw [up2_ne (by decide), hcp j, show k_ = Cc.length by omega, up2_ne (by decide), up2_ne (by decide)]
                                    rfl
                                  · rw [up2_ne (by omega), hFc k (by omega), up2_ne (by omega), up2_ne (by omega), up2_ne (by omega), hmE.1 k (by omega) (by omega) (by omega)]
                                    exact hF1 k hk
                                · simp (disch := omega) only [nI_leI, nI_ltI, nI_eq, nI_eq0] at hb203
                                  have hb203 : k_ < Cc.length := by omega
                                  refine r_aload_n C 0 (dk oX10_claim_1 55 rfl) rfl ?_
                                  refine r_getR C (dk oX10_claim_1 56 rfl) fl_X10_16 rfl (km hn rfl) ?_
                                  refine r_bipush C (dk oX10_claim_1 57 rfl) (v := nI 120) (by decide) ?_
                                  refine r_iload_n C 1 (dk oX10_claim_1 58 rfl) rfl ?_
                                  refine r_imul C (dk oX10_claim_1 59 rfl) ?_
                                  rw [pk_mul]
                                  refine r_iload C 2 (dk oX10_claim_2 0 rfl) rfl ?_
                                  refine r_iadd C (dk oX10_claim_2 1 rfl) ?_
                                  rw [nI_add]
                                  refine r_aload_n C 0 (dk oX10_claim_2 2 rfl) rfl ?_
                                  refine r_getR C (dk oX10_claim_2 3 rfl) fl_X10_90 rfl (km hn rfl) ?_
                                  refine r_iload C 2 (dk oX10_claim_2 4 rfl) rfl ?_
                                  refine r_iald C _ (dk oX10_claim_2 5 rfl) rfl (km hn rfl) rfl (by omega) (by decide) ?_
                                  rw [hFc 143 (by decide), up2_ne (by decide), up2_ne (by decide), up2_ne (by decide), hq0.2.2.2 k_ hb203]
                                  refine r_iast C _ (dk oX10_claim_2 6 rfl) rfl (km hn rfl) rfl (by omega) (by decide) ?_
                                  refine r_iinc (lo' := [(4, _), (0, _), (3, _)]) C 2 (dk oX10_claim_2 7 rfl) rfl (by first | exact nI_inc _ | rfl) (by decide) rfl ?_
                                  refine r_goto (tgt := 197) C (dk oX10_claim_2 8 rfl) (by decide) ?_
                                  refine V.sub [1, 2, 0] rfl ?_
                                  refine ih (k_ + 1) _ (by omega) (by omega) (fun q hq => by rw [up2_ne hq]; exact hFc q hq) (fun j => ?_)
                                  by_cases e : j = 120 * (sCl τ).1 + k_
                                  · rw [e, up2_at, if_pos (by omega), show 120 * (sCl τ).1 + k_ - 120 * (sCl τ).1 = k_ by omega]
                                  · rw [up2_off e, hcp j]
                                    by_cases e2 : 120 * (sCl τ).1 ≤ j ∧ j < 120 * (sCl τ).1 + k_
                                    · rw [if_pos e2, if_pos (by omega)]
                                    · rw [if_neg e2, if_neg (by omega)]
                            refine V.sub [4, 1, 0] rfl ?_
                            exact L197 (Cc.length + 1) 0 _ (by omega) (Nat.zero_le _) (fun _ _ => rfl) (fun j => (if_neg (by omega)).symm)
                          · rw [b32_n] at hb174
                            refine r_iload_n C 1 (dk oX10_claim_1 38 rfl) rfl ?_
                            refine r_ineg C (dk oX10_claim_1 39 rfl) ?_
                            refine r_topI (show -(nI (nmV (sT τ) (sL τ) (cP1 (sT τ) (sL τ)))) = cCo (sT τ) (sL τ) from by unfold cCo; rw [hb174, if_pos rfl]) ?_
                            refine r_goto (tgt := 183) C (dk oX10_claim_1 40 rfl) (by decide) ?_
                            refine r_iast C _ (dk oX10_claim_1 42 rfl) rfl (km hn rfl) rfl (by omega) (by decide) ?_
                            refine r_aload_n C 3 (dk oX10_claim_1 43 rfl) rfl ?_
                            refine r_getR C (dk oX10_claim_1 44 rfl) fl_X10_19 rfl (km hn rfl) ?_
                            refine r_iload_n C 0 (dk oX10_claim_1 45 rfl) rfl ?_
                            refine r_aload_n C 3 (dk oX10_claim_1 46 rfl) rfl ?_
                            refine r_getI C (dk oX10_claim_1 47 rfl) fl_X10_178 rfl (km hn rfl) ?_
                            rw [up2_ne (by decide), up2_off (by decide), hq0.2.2.1]
                            refine r_iast C _ (dk oX10_claim_1 48 rfl) rfl (km hn rfl) rfl (by omega) (by decide) ?_
                            refine r_iconst C (dk oX10_claim_1 49 rfl) (v := nI 0) (by decide) ?_
                            refine r_istore (lo' := [(4, _), (3, _), (2, _), (1, _), (0, _)]) C (dk oX10_claim_1 50 rfl) (by decide) rfl ?_
                            have L197 : ∀ (d_ : Nat) (k_ : Nat) (I3 : MI), Cc.length - k_ < d_ → k_ ≤ Cc.length → (∀ q, q ≠ 120 → I3 q = (up2 (up2 (up2 Ie 117 25 (nI 0)) 119 (sCl τ).1 (cCo (sT τ) (sL τ))) 121 (sCl τ).1 (nI Cc.length)) q) → (∀ j, I3 120 j = if 120 * (sCl τ).1 ≤ j ∧ j < 120 * (sCl τ).1 + k_ then nI (enc (Cc.getD (j - 120 * (sCl τ).1) 0)) else (up2 (up2 (up2 Ie 117 25 (nI 0)) 119 (sCl τ).1 (cCo (sT τ) (sL τ))) 121 (sCl τ).1 (nI Cc.length)) 120 j) → V p l e (rmL 5) s m args below meth c Q D A 5 0 0 n ad (mE cA ad I3 J) 197 [(0, .ref (ad 117)), (3, .int (nI (sCl τ).1)), (4, .int (nI k_))] [] := by
                              intro d_
                              induction d_ with
                              | zero => intros; exact absurd (by assumption) (Nat.not_lt_zero _)
                              | succ d_ ih => 
                                intro k_ I3 hd_ hk hFc hcp
                                refine r_iload C 2 (dk oX10_claim_1 51 rfl) rfl ?_
                                refine r_aload_n C 0 (dk oX10_claim_1 52 rfl) rfl ?_
                                refine r_getI C (dk oX10_claim_1 53 rfl) fl_X10_178 rfl (km hn rfl) ?_
                                rw [hFc 117 (by decide), up2_ne (by decide), up2_ne (by decide), up2_off (by decide), hq0.2.2.1]
                                refine r_icmp_ge (tgt := 231) C (dk oX10_claim_1 54 rfl) (by decide) (fun hb203 => ?_) (fun hb203 => ?_)
                                · simp (disch := omega) only [nI_leI, nI_ltI, nI_eq, nI_eq0] at hb203
                                  refine r_aload_n C 0 (dk oX10_claim_2 9 rfl) rfl ?_
                                  refine r_getR C (dk oX10_claim_2 10 rfl) fl_X10_7 rfl (km hn rfl) ?_
                                  refine r_iconst C (dk oX10_claim_2 11 rfl) (v := nI 0) (by decide) ?_
                                  refine r_dup2 C (dk oX10_claim_2 12 rfl) rfl rfl ?_
                                  refine r_iald C 0 (dk oX10_claim_2 13 rfl) rfl (km hn rfl) rfl (by decide) (by decide) ?_
                                  rw [hFc 118 (by decide), up2_ne (by decide), up2_ne (by decide), show up2 Ie 117 25 (nI 0) 118 0 = nI (sCl τ).1 from hMr.c0.2.1]
                                  refine r_iconst C (dk oX10_claim_2 14 rfl) (v := nI 1) (by decide) ?_
                                  refine r_iadd C (dk oX10_claim_2 15 rfl) ?_
                                  rw [nI_add]
                                  refine r_iast C 0 (dk oX10_claim_2 16 rfl) rfl (km hn rfl) rfl (by decide) (by decide) ?_
                                  refine r_iload_n C 1 (dk oX10_claim_2 17 rfl) rfl ?_
                                  refine hret (dk oX10_claim_2 18 rfl) rfl ?_
                                  refine ⟨stC (rdS τ 0 pl) (adC (sCl τ) (cCo (sT τ) (sL τ)) Cc), (by unfold q_claim; rw [if_neg (by omega), if_neg (by omega)]; exact ⟨0, pl, Cc, hPR, by rw [if_pos rfl]; exact ⟨rfl, rfl⟩⟩), MM.cl (τ := rdS τ 0 pl) (x := cCo (sT τ) (sL τ)) (C := Cc) hMr (by show (sCl τ).1 < 6; omega) hPRok.2 hPRok.1 (fun k hk => ?_) ?_ ?_ ?_ (fun j => ?_), fun k hk => ?_, rfl⟩
                                  · rw [up2_ne (by omega), hFc k (by omega), up2_ne (by omega), up2_ne (by omega)]
                                  · funext j
                                    rw [up2_eq]
                                    show (if j = 0 then _ else I3 118 j) = _
                                    rw [hFc 118 (by decide), up2_ne (by decide), up2_ne (by decide)]
                                    rfl
                                  · rw [up2_ne (by decide), hFc 119 (by decide), up2_ne (by decide), up2_eq]
                                    rfl
                                  · rw [up2_ne (by decide), hFc 121 (by decide), up2_eq]
                                    funext j
                                    show (if j = (sCl τ).1 then _ else _) = _
                                    rw [up2_ne (by decide)]
                                    rfl
                                  · rw [up2_ne (by decide), hcp j, show k_ = Cc.length by omega, up2_ne (by decide), up2_ne (by decide)]
                                    rfl
                                  · rw [up2_ne (by omega), hFc k (by omega), up2_ne (by omega), up2_ne (by omega), up2_ne (by omega), hmE.1 k (by omega) (by omega) (by omega)]
                                    exact hF1 k hk
                                · simp (disch := omega) only [nI_leI, nI_ltI, nI_eq, nI_eq0] at hb203
                                  have hb203 : k_ < Cc.length := by omega
                                  refine r_aload_n C 0 (dk oX10_claim_1 55 rfl) rfl ?_
                                  refine r_getR C (dk oX10_claim_1 56 rfl) fl_X10_16 rfl (km hn rfl) ?_
                                  refine r_bipush C (dk oX10_claim_1 57 rfl) (v := nI 120) (by decide) ?_
                                  refine r_iload_n C 1 (dk oX10_claim_1 58 rfl) rfl ?_
                                  refine r_imul C (dk oX10_claim_1 59 rfl) ?_
                                  rw [pk_mul]
                                  refine r_iload C 2 (dk oX10_claim_2 0 rfl) rfl ?_
                                  refine r_iadd C (dk oX10_claim_2 1 rfl) ?_
                                  rw [nI_add]
                                  refine r_aload_n C 0 (dk oX10_claim_2 2 rfl) rfl ?_
                                  refine r_getR C (dk oX10_claim_2 3 rfl) fl_X10_90 rfl (km hn rfl) ?_
                                  refine r_iload C 2 (dk oX10_claim_2 4 rfl) rfl ?_
                                  refine r_iald C _ (dk oX10_claim_2 5 rfl) rfl (km hn rfl) rfl (by omega) (by decide) ?_
                                  rw [hFc 143 (by decide), up2_ne (by decide), up2_ne (by decide), up2_ne (by decide), hq0.2.2.2 k_ hb203]
                                  refine r_iast C _ (dk oX10_claim_2 6 rfl) rfl (km hn rfl) rfl (by omega) (by decide) ?_
                                  refine r_iinc (lo' := [(4, _), (0, _), (3, _)]) C 2 (dk oX10_claim_2 7 rfl) rfl (by first | exact nI_inc _ | rfl) (by decide) rfl ?_
                                  refine r_goto (tgt := 197) C (dk oX10_claim_2 8 rfl) (by decide) ?_
                                  refine V.sub [1, 2, 0] rfl ?_
                                  refine ih (k_ + 1) _ (by omega) (by omega) (fun q hq => by rw [up2_ne hq]; exact hFc q hq) (fun j => ?_)
                                  by_cases e : j = 120 * (sCl τ).1 + k_
                                  · rw [e, up2_at, if_pos (by omega), show 120 * (sCl τ).1 + k_ - 120 * (sCl τ).1 = k_ by omega]
                                  · rw [up2_off e, hcp j]
                                    by_cases e2 : 120 * (sCl τ).1 ≤ j ∧ j < 120 * (sCl τ).1 + k_
                                    · rw [if_pos e2, if_pos (by omega)]
                                    · rw [if_neg e2, if_neg (by omega)]
                            refine V.sub [4, 1, 0] rfl ?_
                            exact L197 (Cc.length + 1) 0 _ (by omega) (Nat.zero_le _) (fun _ _ => rfl) (fun j => (if_neg (by omega)).symm)
                    · rw [show (0 : Int32) = nI 0 from rfl, nI_leI (by omega) (by omega)] at hb150
                      have hf0 : ¬ fn = 0 := by omega
                      refine r_bipush C (dk oX10_claim_1 23 rfl) (v := -10) (by decide) ?_
                      refine r_aload_n C 2 (dk oX10_claim_1 24 rfl) rfl ?_
                      refine r_getI C (dk oX10_claim_1 25 rfl) fl_X10_145 rfl (km hn rfl) ?_
                      rw [up2_off (by decide), h29e]
                      refine r_isub C (dk oX10_claim_1 26 rfl) ?_
                      refine hret (dk oX10_claim_1 27 rfl) rfl ?_
                      exact ⟨rdS τ fn pl, (by unfold q_claim; rw [if_neg (by omega), if_neg (by omega)]; exact ⟨fn, pl, Cc, hPR, by rw [if_neg hf0]; exact ⟨rfl, rfl⟩⟩), hMr, fun k hk => by rw [up2_ne (by omega), hmE.1 k (by omega) (by omega) (by omega)]; exact hF1 k hk, rfl⟩
                  · rw [b32_n, decide_eq_true_eq] at hb134
                    have hb134 := want_1 (by decide) hb134
                    have hI131 := want_f hW131 hb134
                    subst hI131
                    refine r_aload_n C 2 (dk oX10_claim_1 15 rfl) rfl ?_
                    refine r_ivv C Z (dk oX10_claim_1 16 rfl) cl_X10_225 ci_X10_takeCase rfl (km hn rfl) (c_X10_takeCase hn I131 J (sT τ) (sL τ) ((cP2 (sT τ) (sL τ)) + 2) hL12 (hT94.tk hfb) (by rw [h26b, wd_end hb134]; rfl) (isW_lt (w := sWd 2) hP2L hb134) ((hfb.2 29 (by decide) (by decide) (by decide)).trans (by rw [hn1, hz106])) ((hfb.2 30 (by decide) (by decide) (by decide)).trans (by rw [hn2, if_pos hz106]; exact (hfa.2 30 (by decide) (by decide) (by decide)).trans hB30))) rfl rfl (Nat.le_of_ble_eq_true rfl) ⟨Nat.le_of_ble_eq_true rfl, Nat.le_of_ble_eq_true rfl⟩ ⟨Nat.zero_le _, Nat.zero_le _⟩ (fun I138 J138 h138 => ?_)
                    obtain ⟨e2_, hX138, f1, p1, C1, hf1, hr0, hq0c, hr1, h29c, h30c⟩ := h138
                    have e2_ := e2_.symm
                    subst e2_
                    obtain ⟨Ie, hIe⟩ : ∃ X, X = I138 := ⟨_, rfl⟩
                    have hE : ∃ fn pl Cc, clE τ I1 (I138) fn pl Cc := ⟨f1, p1, C1, PR_4 hb86 hz106 hb134 hf1 hr0 hr1, (hBm.tr (hfa.X.m.tr (hnf.X.m.tr hfb.X.m))).tr hX138.m, h29c, h30c, hq0c⟩
                    rw [← hIe] at hE
                    rw [← hIe]
                    clear hIe
                    obtain ⟨fn, pl, Cc, hE1⟩ := hE
                    obtain ⟨hPR, hmE, h29e, h30e, hqE⟩ := hE1
                    have hfn := hPR.1
                    have hMr := hMM1.rc (f := fn) (pl := pl) hmE h30e
                    refine r_aload_n C 2 (dk oX10_claim_1 17 rfl) rfl ?_
                    refine r_iconst C (dk oX10_claim_1 18 rfl) (v := nI 0) (by decide) ?_
                    refine r_putI C (dk oX10_claim_1 19 rfl) fl_X10_136 ft_10_25 rfl (km hn rfl) ?_
                    refine r_aload_n C 2 (dk oX10_claim_1 20 rfl) rfl ?_
                    refine r_getI C (dk oX10_claim_1 21 rfl) fl_X10_145 rfl (km hn rfl) ?_
                    rw [up2_off (by decide), h29e]
                    refine r_if_le (tgt := 161) C (dk oX10_claim_1 22 rfl) (by decide) (fun hb150 => ?_) (fun hb150 => ?_)
                    · first
                        | (exfalso; rw [show (0 : Int32) = nI 0 from rfl, nI_leI (by omega) (by omega)] at hb150; omega)
                        | rw [show (0 : Int32) = nI 0 from rfl, nI_leI (by omega) (by omega)] at hb150
                          have hf0 : fn = 0 := by omega
                          subst hf0
                          have hq0 := hqE rfl
                          have hPRok := hPR.ok hL12
                          have hlen : Cc.length ≤ 120 := hPRok.1.1
                          refine r_aload_n C 2 (dk oX10_claim_1 28 rfl) rfl ?_
                          refine r_getR C (dk oX10_claim_1 29 rfl) fl_X10_7 rfl (km hn rfl) ?_
                          refine r_iconst C (dk oX10_claim_1 30 rfl) (v := nI 0) (by decide) ?_
                          refine r_iald C 0 (dk oX10_claim_1 31 rfl) rfl (km hn rfl) rfl (by decide) (by decide) ?_
                          rw [show up2 Ie 117 25 (nI 0) 118 0 = nI (sCl τ).1 from hMr.c0.2.1]
                          refine r_istore_n (lo' := [(3, _), (2, _), (1, _), (0, _)]) C (dk oX10_claim_1 32 rfl) rfl (by decide) rfl ?_
                          refine r_aload_n C 3 (dk oX10_claim_1 33 rfl) rfl ?_
                          refine r_getR C (dk oX10_claim_1 34 rfl) fl_X10_13 rfl (km hn rfl) ?_
                          refine r_iload_n C 0 (dk oX10_claim_1 35 rfl) rfl ?_
                          refine r_iload_n C 2 (dk oX10_claim_1 36 rfl) rfl ?_
                          refine r_if_eq (tgt := 182) C (dk oX10_claim_1 37 rfl) (by decide) (fun hb174 => ?_) (fun hb174 => ?_)
                          · rw [b32_0] at hb174
                            refine r_iload_n C 1 (dk oX10_claim_1 41 rfl) rfl ?_
                            refine r_topI (show nI (nmV (sT τ) (sL τ) (cP1 (sT τ) (sL τ))) = cCo (sT τ) (sL τ) from by unfold cCo; rw [hb174, if_neg (by decide)]) ?_
                            refine r_iast C _ (dk oX10_claim_1 42 rfl) rfl (km hn rfl) rfl (by omega) (by decide) ?_
                            refine r_aload_n C 3 (dk oX10_claim_1 43 rfl) rfl ?_
                            refine r_getR C (dk oX10_claim_1 44 rfl) fl_X10_19 rfl (km hn rfl) ?_
                            refine r_iload_n C 0 (dk oX10_claim_1 45 rfl) rfl ?_
                            refine r_aload_n C 3 (dk oX10_claim_1 46 rfl) rfl ?_
                            refine r_getI C (dk oX10_claim_1 47 rfl) fl_X10_178 rfl (km hn rfl) ?_
                            rw [up2_ne (by decide), up2_off (by decide), hq0.2.2.1]
                            refine r_iast C _ (dk oX10_claim_1 48 rfl) rfl (km hn rfl) rfl (by omega) (by decide) ?_
                            refine r_iconst C (dk oX10_claim_1 49 rfl) (v := nI 0) (by decide) ?_
                            refine r_istore (lo' := [(4, _), (3, _), (2, _), (1, _), (0, _)]) C (dk oX10_claim_1 50 rfl) (by decide) rfl ?_
                            have L197 : ∀ (d_ : Nat) (k_ : Nat) (I3 : MI), Cc.length - k_ < d_ → k_ ≤ Cc.length → (∀ q, q ≠ 120 → I3 q = (up2 (up2 (up2 Ie 117 25 (nI 0)) 119 (sCl τ).1 (cCo (sT τ) (sL τ))) 121 (sCl τ).1 (nI Cc.length)) q) → (∀ j, I3 120 j = if 120 * (sCl τ).1 ≤ j ∧ j < 120 * (sCl τ).1 + k_ then nI (enc (Cc.getD (j - 120 * (sCl τ).1) 0)) else (up2 (up2 (up2 Ie 117 25 (nI 0)) 119 (sCl τ).1 (cCo (sT τ) (sL τ))) 121 (sCl τ).1 (nI Cc.length)) 120 j) → V p l e (rmL 5) s m args below meth c Q D A 5 0 0 n ad (mE cA ad I3 J) 197 [(0, .ref (ad 117)), (3, .int (nI (sCl τ).1)), (4, .int (nI k_))] [] := by
                              intro d_
                              induction d_ with
                              | zero => intros; exact absurd (by assumption) (Nat.not_lt_zero _)
                              | succ d_ ih => 
                                intro k_ I3 hd_ hk hFc hcp
                                refine r_iload C 2 (dk oX10_claim_1 51 rfl) rfl ?_
                                refine r_aload_n C 0 (dk oX10_claim_1 52 rfl) rfl ?_
                                refine r_getI C (dk oX10_claim_1 53 rfl) fl_X10_178 rfl (km hn rfl) ?_
                                rw [hFc 117 (by decide), up2_ne (by decide), up2_ne (by decide), up2_off (by decide), hq0.2.2.1]
                                refine r_icmp_ge (tgt := 231) C (dk oX10_claim_1 54 rfl) (by decide) (fun hb203 => ?_) (fun hb203 => ?_)
                                · simp (disch := omega) only [nI_leI, nI_ltI, nI_eq, nI_eq0] at hb203
                                  refine r_aload_n C 0 (dk oX10_claim_2 9 rfl) rfl ?_
                                  refine r_getR C (dk oX10_claim_2 10 rfl) fl_X10_7 rfl (km hn rfl) ?_
                                  refine r_iconst C (dk oX10_claim_2 11 rfl) (v := nI 0) (by decide) ?_
                                  refine r_dup2 C (dk oX10_claim_2 12 rfl) rfl rfl ?_
                                  refine r_iald C 0 (dk oX10_claim_2 13 rfl) rfl (km hn rfl) rfl (by decide) (by decide) ?_
                                  rw [hFc 118 (by decide), up2_ne (by decide), up2_ne (by decide), show up2 Ie 117 25 (nI 0) 118 0 = nI (sCl τ).1 from hMr.c0.2.1]
                                  refine r_iconst C (dk oX10_claim_2 14 rfl) (v := nI 1) (by decide) ?_
                                  refine r_iadd C (dk oX10_claim_2 15 rfl) ?_
                                  rw [nI_add]
                                  refine r_iast C 0 (dk oX10_claim_2 16 rfl) rfl (km hn rfl) rfl (by decide) (by decide) ?_
                                  refine r_iload_n C 1 (dk oX10_claim_2 17 rfl) rfl ?_
                                  refine hret (dk oX10_claim_2 18 rfl) rfl ?_
                                  refine ⟨stC (rdS τ 0 pl) (adC (sCl τ) (cCo (sT τ) (sL τ)) Cc), (by unfold q_claim; rw [if_neg (by omega), if_neg (by omega)]; exact ⟨0, pl, Cc, hPR, by rw [if_pos rfl]; exact ⟨rfl, rfl⟩⟩), MM.cl (τ := rdS τ 0 pl) (x := cCo (sT τ) (sL τ)) (C := Cc) hMr (by show (sCl τ).1 < 6; omega) hPRok.2 hPRok.1 (fun k hk => ?_) ?_ ?_ ?_ (fun j => ?_), fun k hk => ?_, rfl⟩
                                  · rw [up2_ne (by omega), hFc k (by omega), up2_ne (by omega), up2_ne (by omega)]
                                  · funext j
                                    rw [up2_eq]
                                    show (if j = 0 then _ else I3 118 j) = _
                                    rw [hFc 118 (by decide), up2_ne (by decide), up2_ne (by decide)]
                                    rfl
                                  · rw [up2_ne (by decide), hFc 119 (by decide), up2_ne (by decide), up2_eq]
                                    rfl
                                  · rw [up2_ne (by decide), hFc 121 (by decide), up2_eq]
                                    funext j
                                    show (if j = (sCl τ).1 then _ else _) = _
                                    rw [up2_ne (by decide)]
                                    rfl
                                  · rw [up2_ne (by decide), hcp j, show k_ = Cc.length by omega, up2_ne (by decide), up2_ne (by decide)]
                                    rfl
                                  · rw [up2_ne (by omega), hFc k (by omega), up2_ne (by omega), up2_ne (by omega), up2_ne (by omega), hmE.1 k (by omega) (by omega) (by omega)]
                                    exact hF1 k hk
                                · simp (disch := omega) only [nI_leI, nI_ltI, nI_eq, nI_eq0] at hb203
                                  have hb203 : k_ < Cc.length := by omega
                                  refine r_aload_n C 0 (dk oX10_claim_1 55 rfl) rfl ?_
                                  refine r_getR C (dk oX10_claim_1 56 rfl) fl_X10_16 rfl (km hn rfl) ?_
                                  refine r_bipush C (dk oX10_claim_1 57 rfl) (v := nI 120) (by decide) ?_
                                  refine r_iload_n C 1 (dk oX10_claim_1 58 rfl) rfl ?_
                                  refine r_imul C (dk oX10_claim_1 59 rfl) ?_
                                  rw [pk_mul]
                                  refine r_iload C 2 (dk oX10_claim_2 0 rfl) rfl ?_
                                  refine r_iadd C (dk oX10_claim_2 1 rfl) ?_
                                  rw [nI_add]
                                  refine r_aload_n C 0 (dk oX10_claim_2 2 rfl) rfl ?_
                                  refine r_getR C (dk oX10_claim_2 3 rfl) fl_X10_90 rfl (km hn rfl) ?_
                                  refine r_iload C 2 (dk oX10_claim_2 4 rfl) rfl ?_
                                  refine r_iald C _ (dk oX10_claim_2 5 rfl) rfl (km hn rfl) rfl (by omega) (by decide) ?_
                                  rw [hFc 143 (by decide), up2_ne (by decide), up2_ne (by decide), up2_ne (by decide), hq0.2.2.2 k_ hb203]
                                  refine r_iast C _ (dk oX10_claim_2 6 rfl) rfl (km hn rfl) rfl (by omega) (by decide) ?_
                                  refine r_iinc (lo' := [(4, _), (0, _), (3, _)]) C 2 (dk oX10_claim_2 7 rfl) rfl (by first | exact nI_inc _ | rfl) (by decide) rfl ?_
                                  refine r_goto (tgt := 197) C (dk oX10_claim_2 8 rfl) (by decide) ?_
                                  refine V.sub [1, 2, 0] rfl ?_
                                  refine ih (k_ + 1) _ (by omega) (by omega) (fun q hq => by rw [up2_ne hq]; exact hFc q hq) (fun j => ?_)
                                  by_cases e : j = 120 * (sCl τ).1 + k_
                                  · rw [e, up2_at, if_pos (by omega), show 120 * (sCl τ).1 + k_ - 120 * (sCl τ).1 = k_ by omega]
                                  · rw [up2_off e, hcp j]
                                    by_cases e2 : 120 * (sCl τ).1 ≤ j ∧ j < 120 * (sCl τ).1 + k_
                                    · rw [if_pos e2, if_pos (by omega)]
                                    · rw [if_neg e2, if_neg (by omega)]
                            refine V.sub [4, 1, 0] rfl ?_
                            exact L197 (Cc.length + 1) 0 _ (by omega) (Nat.zero_le _) (fun _ _ => rfl) (fun j => (if_neg (by omega)).symm)
                          · rw [b32_n] at hb174
                            refine r_iload_n C 1 (dk oX10_claim_1 38 rfl) rfl ?_
                            refine r_ineg C (dk oX10_claim_1 39 rfl) ?_
                            refine r_topI (show -(nI (nmV (sT τ) (sL τ) (cP1 (sT τ) (sL τ)))) = cCo (sT τ) (sL τ) from by unfold cCo; rw [hb174, if_pos rfl]) ?_
                            refine r_goto (tgt := 183) C (dk oX10_claim_1 40 rfl) (by decide) ?_
                            refine r_iast C _ (dk oX10_claim_1 42 rfl) rfl (km hn rfl) rfl (by omega) (by decide) ?_
                            refine r_aload_n C 3 (dk oX10_claim_1 43 rfl) rfl ?_
                            refine r_getR C (dk oX10_claim_1 44 rfl) fl_X10_19 rfl (km hn rfl) ?_
                            refine r_iload_n C 0 (dk oX10_claim_1 45 rfl) rfl ?_
                            refine r_aload_n C 3 (dk oX10_claim_1 46 rfl) rfl ?_
                            refine r_getI C (dk oX10_claim_1 47 rfl) fl_X10_178 rfl (km hn rfl) ?_
                            rw [up2_ne (by decide), up2_off (by decide), hq0.2.2.1]
                            refine r_iast C _ (dk oX10_claim_1 48 rfl) rfl (km hn rfl) rfl (by omega) (by decide) ?_
                            refine r_iconst C (dk oX10_claim_1 49 rfl) (v := nI 0) (by decide) ?_
                            refine r_istore (lo' := [(4, _), (3, _), (2, _), (1, _), (0, _)]) C (dk oX10_claim_1 50 rfl) (by decide) rfl ?_
                            have L197 : ∀ (d_ : Nat) (k_ : Nat) (I3 : MI), Cc.length - k_ < d_ → k_ ≤ Cc.length → (∀ q, q ≠ 120 → I3 q = (up2 (up2 (up2 Ie 117 25 (nI 0)) 119 (sCl τ).1 (cCo (sT τ) (sL τ))) 121 (sCl τ).1 (nI Cc.length)) q) → (∀ j, I3 120 j = if 120 * (sCl τ).1 ≤ j ∧ j < 120 * (sCl τ).1 + k_ then nI (enc (Cc.getD (j - 120 * (sCl τ).1) 0)) else (up2 (up2 (up2 Ie 117 25 (nI 0)) 119 (sCl τ).1 (cCo (sT τ) (sL τ))) 121 (sCl τ).1 (nI Cc.length)) 120 j) → V p l e (rmL 5) s m args below meth c Q D A 5 0 0 n ad (mE cA ad I3 J) 197 [(0, .ref (ad 117)), (3, .int (nI (sCl τ).1)), (4, .int (nI k_))] [] := by
                              intro d_
                              induction d_ with
                              | zero => intros; exact absurd (by assumption) (Nat.not_lt_zero _)
                              | succ d_ ih => 
                                intro k_ I3 hd_ hk hFc hcp
                                refine r_iload C 2 (dk oX10_claim_1 51 rfl) rfl ?_
                                refine r_aload_n C 0 (dk oX10_claim_1 52 rfl) rfl ?_
                                refine r_getI C (dk oX10_claim_1 53 rfl) fl_X10_178 rfl (km hn rfl) ?_
                                rw [hFc 117 (by decide), up2_ne (by decide), up2_ne (by decide), up2_off (by decide), hq0.2.2.1]
                                refine r_icmp_ge (tgt := 231) C (dk oX10_claim_1 54 rfl) (by decide) (fun hb203 => ?_) (fun hb203 => ?_)
                                · simp (disch := omega) only [nI_leI, nI_ltI, nI_eq, nI_eq0] at hb203
                                  refine r_aload_n C 0 (dk oX10_claim_2 9 rfl) rfl ?_
                                  refine r_getR C (dk oX10_claim_2 10 rfl) fl_X10_7 rfl (km hn rfl) ?_
                                  refine r_iconst C (dk oX10_claim_2 11 rfl) (v := nI 0) (by decide) ?_
                                  refine r_dup2 C (dk oX10_claim_2 12 rfl) rfl rfl ?_
                                  refine r_iald C 0 (dk oX10_claim_2 13 rfl) rfl (km hn rfl) rfl (by decide) (by decide) ?_
                                  rw [hFc 118 (by decide), up2_ne (by decide), up2_ne (by decide), show up2 Ie 117 25 (nI 0) 118 0 = nI (sCl τ).1 from hMr.c0.2.1]
                                  refine r_iconst C (dk oX10_claim_2 14 rfl) (v := nI 1) (by decide) ?_
                                  refine r_iadd C (dk oX10_claim_2 15 rfl) ?_
                                  rw [nI_add]
                                  refine r_iast C 0 (dk oX10_claim_2 16 rfl) rfl (km hn rfl) rfl (by decide) (by decide) ?_
                                  refine r_iload_n C 1 (dk oX10_claim_2 17 rfl) rfl ?_
                                  refine hret (dk oX10_claim_2 18 rfl) rfl ?_
                                  refine ⟨stC (rdS τ 0 pl) (adC (sCl τ) (cCo (sT τ) (sL τ)) Cc), (by unfold q_claim; rw [if_neg (by omega), if_neg (by omega)]; exact ⟨0, pl, Cc, hPR, by rw [if_pos rfl]; exact ⟨rfl, rfl⟩⟩), MM.cl (τ := rdS τ 0 pl) (x := cCo (sT τ) (sL τ)) (C := Cc) hMr (by show (sCl τ).1 < 6; omega) hPRok.2 hPRok.1 (fun k hk => ?_) ?_ ?_ ?_ (fun j => ?_), fun k hk => ?_, rfl⟩
                                  · rw [up2_ne (by omega), hFc k (by omega), up2_ne (by omega), up2_ne (by omega)]
                                  · funext j
                                    rw [up2_eq]
                                    show (if j = 0 then _ else I3 118 j) = _
                                    rw [hFc 118 (by decide), up2_ne (by decide), up2_ne (by decide)]
                                    rfl
                                  · rw [up2_ne (by decide), hFc 119 (by decide), up2_ne (by decide), up2_eq]
                                    rfl
                                  · rw [up2_ne (by decide), hFc 121 (by decide), up2_eq]
                                    funext j
                                    show (if j = (sCl τ).1 then _ else _) = _
                                    rw [up2_ne (by decide)]
                                    rfl
                                  · rw [up2_ne (by decide), hcp j, show k_ = Cc.length by omega, up2_ne (by decide), up2_ne (by decide)]
                                    rfl
                                  · rw [up2_ne (by omega), hFc k (by omega), up2_ne (by omega), up2_ne (by omega), up2_ne (by omega), hmE.1 k (by omega) (by omega) (by omega)]
                                    exact hF1 k hk
                                · simp (disch := omega) only [nI_leI, nI_ltI, nI_eq, nI_eq0] at hb203
                                  have hb203 : k_ < Cc.length := by omega
                                  refine r_aload_n C 0 (dk oX10_claim_1 55 rfl) rfl ?_
                                  refine r_getR C (dk oX10_claim_1 56 rfl) fl_X10_16 rfl (km hn rfl) ?_
                                  refine r_bipush C (dk oX10_claim_1 57 rfl) (v := nI 120) (by decide) ?_
                                  refine r_iload_n C 1 (dk oX10_claim_1 58 rfl) rfl ?_
                                  refine r_imul C (dk oX10_claim_1 59 rfl) ?_
                                  rw [pk_mul]
                                  refine r_iload C 2 (dk oX10_claim_2 0 rfl) rfl ?_
                                  refine r_iadd C (dk oX10_claim_2 1 rfl) ?_
                                  rw [nI_add]
                                  refine r_aload_n C 0 (dk oX10_claim_2 2 rfl) rfl ?_
                                  refine r_getR C (dk oX10_claim_2 3 rfl) fl_X10_90 rfl (km hn rfl) ?_
                                  refine r_iload C 2 (dk oX10_claim_2 4 rfl) rfl ?_
                                  refine r_iald C _ (dk oX10_claim_2 5 rfl) rfl (km hn rfl) rfl (by omega) (by decide) ?_
                                  rw [hFc 143 (by decide), up2_ne (by decide), up2_ne (by decide), up2_ne (by decide), hq0.2.2.2 k_ hb203]
                                  refine r_iast C _ (dk oX10_claim_2 6 rfl) rfl (km hn rfl) rfl (by omega) (by decide) ?_
                                  refine r_iinc (lo' := [(4, _), (0, _), (3, _)]) C 2 (dk oX10_claim_2 7 rfl) rfl (by first | exact nI_inc _ | rfl) (by decide) rfl ?_
                                  refine r_goto (tgt := 197) C (dk oX10_claim_2 8 rfl) (by decide) ?_
                                  refine V.sub [1, 2, 0] rfl ?_
                                  refine ih (k_ + 1) _ (by omega) (by omega) (fun q hq => by rw [up2_ne hq]; exact hFc q hq) (fun j => ?_)
                                  by_cases e : j = 120 * (sCl τ).1 + k_
                                  · rw [e, up2_at, if_pos (by omega), show 120 * (sCl τ).1 + k_ - 120 * (sCl τ).1 = k_ by omega]
                                  · rw [up2_off e, hcp j]
                                    by_cases e2 : 120 * (sCl τ).1 ≤ j ∧ j < 120 * (sCl τ).1 + k_
                                    · rw [if_pos e2, if_pos (by omega)]
                                    · rw [if_neg e2, if_neg (by omega)]
                            refine V.sub [4, 1, 0] rfl ?_
                            exact L197 (Cc.length + 1) 0 _ (by omega) (Nat.zero_le _) (fun _ _ => rfl) (fun j => (if_neg (by omega)).symm)
                    · rw [show (0 : Int32) = nI 0 from rfl, nI_leI (by omega) (by omega)] at hb150
                      have hf0 : ¬ fn = 0 := by omega
                      refine r_bipush C (dk oX10_claim_1 23 rfl) (v := -10) (by decide) ?_
                      refine r_aload_n C 2 (dk oX10_claim_1 24 rfl) rfl ?_
                      refine r_getI C (dk oX10_claim_1 25 rfl) fl_X10_145 rfl (km hn rfl) ?_
                      rw [up2_off (by decide), h29e]
                      refine r_isub C (dk oX10_claim_1 26 rfl) ?_
                      refine hret (dk oX10_claim_1 27 rfl) rfl ?_
                      exact ⟨rdS τ fn pl, (by unfold q_claim; rw [if_neg (by omega), if_neg (by omega)]; exact ⟨fn, pl, Cc, hPR, by rw [if_neg hf0]; exact ⟨rfl, rfl⟩⟩), hMr, fun k hk => by rw [up2_ne (by omega), hmE.1 k (by omega) (by omega) (by omega)]; exact hF1 k hk, rfl⟩
          · rw [b32_n, decide_eq_true_eq] at hb86
            have hb86 := want_1 (by decide) hb86
            have hI83 := want_f hW83 hb86
            subst hI83
            have hs3L : (sk (sT τ) (sL τ) 0) + 3 ≤ sL τ := by
              rcases hb86 with h | h
              · exact isW_lt (w := sWd 0) hs0L h
              · exact isW_lt (w := sWd 1) hs0L h
            refine r_aload_n C 1 (dk oX10_claim_0 49 rfl) rfl ?_
            refine r_iconst C (dk oX10_claim_0 50 rfl) (v := nI 1) (by decide) ?_
            refine r_sipush C (dk oX10_claim_0 51 rfl) (v := nI 999) (by decide) ?_
            refine r_ivi C Z (dk oX10_claim_0 52 rfl) cl_X10_204 ci_X10_takeNumber rfl (km hn rfl) (c_X10_takeNumber hn I83 J (sT τ) (sL τ) (hTB.tk hfa) ((sk (sT τ) (sL τ) 0) + 3) (by rw [h26a, cPw hb86]) hs3L ((hfa.2 29 (by decide) (by decide) (by decide)).trans hB29) 1 999 (by decide) (by decide)) rfl rfl (Nat.le_of_ble_eq_true rfl) ⟨Nat.le_of_ble_eq_true rfl, Nat.le_of_ble_eq_true rfl⟩ ⟨Nat.zero_le _, Nat.zero_le _⟩ (fun r94 I94 J94 h94 => ?_)
            obtain ⟨hn1, hn2, hn3, hn4, hn5, hnf, e2_⟩ := h94
            rw [show sk (sT τ) (sL τ) ((sk (sT τ) (sL τ) 0) + 3) = (cP1 (sT τ) (sL τ)) from rfl] at hn1 hn2 hn3 hn4
            have e2_ := e2_.symm
            subst e2_
            have hP1L : (cP1 (sT τ) (sL τ)) ≤ sL τ := sk_le hs3L
            have hT94 : MTx I94 (sT τ) (sL τ) := (hTB.tk hfa).of (hnf.2 25 (by decide) (by decide) (by decide) (by decide)) (hnf.1 141 (by decide))
            refine r_goto (tgt := 101) C (dk oX10_claim_0 53 rfl) (by decide) ?_
            refine r_istore_n (lo' := [(2, _), (1, _), (0, _)]) C (dk oX10_claim_0 55 rfl) rfl (by decide) rfl ?_
            refine r_aload_n C 2 (dk oX10_claim_0 56 rfl) rfl ?_
            refine r_getI C (dk oX10_claim_0 57 rfl) fl_X10_145 rfl (km hn rfl) ?_
            first
              | rw [hn1]
              | rw [up2_off (by decide), up2_at]
            refine r_if_ne (tgt := 141) C (dk oX10_claim_0 58 rfl) (by decide) (fun hb106 => ?_) (fun hb106 => ?_)
            · first
                | (fail)
                | have hz106 : ¬ (nmF (sT τ) (sL τ) (cP1 (sT τ) (sL τ)) 1 999) = 0 := by
                    have := @nmF_lt (sT τ) (sL τ) (cP1 (sT τ) (sL τ)) 1 999
                    rw [nI_eq0 (by omega)] at hb106
                    exact hb106
                  obtain ⟨Ie, hIe⟩ : ∃ X, X = I94 := ⟨_, rfl⟩
                  have hE : ∃ fn pl Cc, clE τ I1 (I94) fn pl Cc ∧ fn ≠ 0 := ⟨(nmF (sT τ) (sL τ) (cP1 (sT τ) (sL τ)) 1 999), (cP1 (sT τ) (sL τ)), [], ⟨PR_2 hb86 hz106, (hBm.tr hfa.X.m).tr hnf.X.m, hn1, by rw [hn2, if_neg hz106, if_neg hz106], fun e => absurd e hz106⟩, hz106⟩
                  rw [← hIe] at hE
                  rw [← hIe]
                  clear hIe
                  obtain ⟨fn, pl, Cc, hE1, hne0⟩ := hE
                  obtain ⟨hPR, hmE, h29e, h30e, hqE⟩ := hE1
                  have hfn := hPR.1
                  have hMr := hMM1.rc (f := fn) (pl := pl) hmE h30e
                  refine r_aload_n C 2 (dk oX10_claim_1 17 rfl) rfl ?_
                  refine r_iconst C (dk oX10_claim_1 18 rfl) (v := nI 0) (by decide) ?_
                  refine r_putI C (dk oX10_claim_1 19 rfl) fl_X10_136 ft_10_25 rfl (km hn rfl) ?_
                  refine r_aload_n C 2 (dk oX10_claim_1 20 rfl) rfl ?_
                  refine r_getI C (dk oX10_claim_1 21 rfl) fl_X10_145 rfl (km hn rfl) ?_
                  rw [up2_off (by decide), h29e]
                  refine r_if_le (tgt := 161) C (dk oX10_claim_1 22 rfl) (by decide) (fun hb150 => ?_) (fun hb150 => ?_)
                  · first
                      | (exfalso; rw [show (0 : Int32) = nI 0 from rfl, nI_leI (by omega) (by omega)] at hb150; omega)
                      | rw [show (0 : Int32) = nI 0 from rfl, nI_leI (by omega) (by omega)] at hb150
                        have hf0 : fn = 0 := by omega
                        subst hf0
                        have hq0 := hqE rfl
                        have hPRok := hPR.ok hL12
                        have hlen : Cc.length ≤ 120 := hPRok.1.1
                        refine r_aload_n C 2 (dk oX10_claim_1 28 rfl) rfl ?_
                        refine r_getR C (dk oX10_claim_1 29 rfl) fl_X10_7 rfl (km hn rfl) ?_
                        refine r_iconst C (dk oX10_claim_1 30 rfl) (v := nI 0) (by decide) ?_
                        refine r_iald C 0 (dk oX10_claim_1 31 rfl) rfl (km hn rfl) rfl (by decide) (by decide) ?_
                        rw [show up2 Ie 117 25 (nI 0) 118 0 = nI (sCl τ).1 from hMr.c0.2.1]
                        refine r_istore_n (lo' := [(3, _), (2, _), (1, _), (0, _)]) C (dk oX10_claim_1 32 rfl) rfl (by decide) rfl ?_
                        refine r_aload_n C 3 (dk oX10_claim_1 33 rfl) rfl ?_
                        refine r_getR C (dk oX10_claim_1 34 rfl) fl_X10_13 rfl (km hn rfl) ?_
                        refine r_iload_n C 0 (dk oX10_claim_1 35 rfl) rfl ?_
                        refine r_iload_n C 2 (dk oX10_claim_1 36 rfl) rfl ?_
                        refine r_if_eq (tgt := 182) C (dk oX10_claim_1 37 rfl) (by decide) (fun hb174 => ?_) (fun hb174 => ?_)
                        · rw [b32_0] at hb174
                          refine r_iload_n C 1 (dk oX10_claim_1 41 rfl) rfl ?_
                          refine r_topI (show nI (nmV (sT τ) (sL τ) (cP1 (sT τ) (sL τ))) = cCo (sT τ) (sL τ) from by unfold cCo; rw [hb174, if_neg (by decide)]) ?_
                          refine r_iast C _ (dk oX10_claim_1 42 rfl) rfl (km hn rfl) rfl (by omega) (by decide) ?_
                          refine r_aload_n C 3 (dk oX10_claim_1 43 rfl) rfl ?_
                          refine r_getR C (dk oX10_claim_1 44 rfl) fl_X10_19 rfl (km hn rfl) ?_
                          refine r_iload_n C 0 (dk oX10_claim_1 45 rfl) rfl ?_
                          refine r_aload_n C 3 (dk oX10_claim_1 46 rfl) rfl ?_
                          refine r_getI C (dk oX10_claim_1 47 rfl) fl_X10_178 rfl (km hn rfl) ?_
                          rw [up2_ne (by decide), up2_off (by decide), hq0.2.2.1]
                          refine r_iast C _ (dk oX10_claim_1 48 rfl) rfl (km hn rfl) rfl (by omega) (by decide) ?_
                          refine r_iconst C (dk oX10_claim_1 49 rfl) (v := nI 0) (by decide) ?_
                          refine r_istore (lo' := [(4, _), (3, _), (2, _), (1, _), (0, _)]) C (dk oX10_claim_1 50 rfl) (by decide) rfl ?_
                          have L197 : ∀ (d_ : Nat) (k_ : Nat) (I3 : MI), Cc.length - k_ < d_ → k_ ≤ Cc.length → (∀ q, q ≠ 120 → I3 q = (up2 (up2 (up2 Ie 117 25 (nI 0)) 119 (sCl τ).1 (cCo (sT τ) (sL τ))) 121 (sCl τ).1 (nI Cc.length)) q) → (∀ j, I3 120 j = if 120 * (sCl τ).1 ≤ j ∧ j < 120 * (sCl τ).1 + k_ then nI (enc (Cc.getD (j - 120 * (sCl τ).1) 0)) else (up2 (up2 (up2 Ie 117 25 (nI 0)) 119 (sCl τ).1 (cCo (sT τ) (sL τ))) 121 (sCl τ).1 (nI Cc.length)) 120 j) → V p l e (rmL 5) s m args below meth c Q D A 5 0 0 n ad (mE cA ad I3 J) 197 [(0, .ref (ad 117)), (3, .int (nI (sCl τ).1)), (4, .int (nI k_))] [] := by
                            intro d_
                            induction d_ with
                            | zero => intros; exact absurd (by assumption) (Nat.not_lt_zero _)
                            | succ d_ ih => 
                              intro k_ I3 hd_ hk hFc hcp
                              refine r_iload C 2 (dk oX10_claim_1 51 rfl) rfl ?_
                              refine r_aload_n C 0 (dk oX10_claim_1 52 rfl) rfl ?_
                              refine r_getI C (dk oX10_claim_1 53 rfl) fl_X10_178 rfl (km hn rfl) ?_
                              rw [hFc 117 (by decide), up2_ne (by decide), up2_ne (by decide), up2_off (by decide), hq0.2.2.1]
                              refine r_icmp_ge (tgt := 231) C (dk oX10_claim_1 54 rfl) (by decide) (fun hb203 => ?_) (fun hb203 => ?_)
                              · simp (disch := omega) only [nI_leI, nI_ltI, nI_eq, nI_eq0] at hb203
                                refine r_aload_n C 0 (dk oX10_claim_2 9 rfl) rfl ?_
                                refine r_getR C (dk oX10_claim_2 10 rfl) fl_X10_7 rfl (km hn rfl) ?_
                                refine r_iconst C (dk oX10_claim_2 11 rfl) (v := nI 0) (by decide) ?_
                                refine r_dup2 C (dk oX10_claim_2 12 rfl) rfl rfl ?_
                                refine r_iald C 0 (dk oX10_claim_2 13 rfl) rfl (km hn rfl) rfl (by decide) (by decide) ?_
                                rw [hFc 118 (by decide), up2_ne (by decide), up2_ne (by decide), show up2 Ie 117 25 (nI 0) 118 0 = nI (sCl τ).1 from hMr.c0.2.1]
                                refine r_iconst C (dk oX10_claim_2 14 rfl) (v := nI 1) (by decide) ?_
                                refine r_iadd C (dk oX10_claim_2 15 rfl) ?_
                                rw [nI_add]
                                refine r_iast C 0 (dk oX10_claim_2 16 rfl) rfl (km hn rfl) rfl (by decide) (by decide) ?_
                                refine r_iload_n C 1 (dk oX10_claim_2 17 rfl) rfl ?_
                                refine hret (dk oX10_claim_2 18 rfl) rfl ?_
                                refine ⟨stC (rdS τ 0 pl) (adC (sCl τ) (cCo (sT τ) (sL τ)) Cc), (by unfold q_claim; rw [if_neg (by omega), if_neg (by omega)]; exact ⟨0, pl, Cc, hPR, by rw [if_pos rfl]; exact ⟨rfl, rfl⟩⟩), MM.cl (τ := rdS τ 0 pl) (x := cCo (sT τ) (sL τ)) (C := Cc) hMr (by show (sCl τ).1 < 6; omega) hPRok.2 hPRok.1 (fun k hk => ?_) ?_ ?_ ?_ (fun j => ?_), fun k hk => ?_, rfl⟩
                                · rw [up2_ne (by omega), hFc k (by omega), up2_ne (by omega), up2_ne (by omega)]
                                · funext j
                                  rw [up2_eq]
                                  show (if j = 0 then _ else I3 118 j) = _
                                  rw [hFc 118 (by decide), up2_ne (by decide), up2_ne (by decide)]
                                  rfl
                                · rw [up2_ne (by decide), hFc 119 (by decide), up2_ne (by decide), up2_eq]
                                  rfl
                                · rw [up2_ne (by decide), hFc 121 (by decide), up2_eq]
                                  funext j
                                  show (if j = (sCl τ).1 then _ else _) = _
                                  rw [up2_ne (by decide)]
                                  rfl
                                · rw [up2_ne (by decide), hcp j, show k_ = Cc.length by omega, up2_ne (by decide), up2_ne (by decide)]
                                  rfl
                                · rw [up2_ne (by omega), hFc k (by omega), up2_ne (by omega), up2_ne (by omega), up2_ne (by omega), hmE.1 k (by omega) (by omega) (by omega)]
                                  exact hF1 k hk
                              · simp (disch := omega) only [nI_leI, nI_ltI, nI_eq, nI_eq0] at hb203
                                have hb203 : k_ < Cc.length := by omega
                                refine r_aload_n C 0 (dk oX10_claim_1 55 rfl) rfl ?_
                                refine r_getR C (dk oX10_claim_1 56 rfl) fl_X10_16 rfl (km hn rfl) ?_
                                refine r_bipush C (dk oX10_claim_1 57 rfl) (v := nI 120) (by decide) ?_
                                refine r_iload_n C 1 (dk oX10_claim_1 58 rfl) rfl ?_
                                refine r_imul C (dk oX10_claim_1 59 rfl) ?_
                                rw [pk_mul]
                                refine r_iload C 2 (dk oX10_claim_2 0 rfl) rfl ?_
                                refine r_iadd C (dk oX10_claim_2 1 rfl) ?_
                                rw [nI_add]
                                refine r_aload_n C 0 (dk oX10_claim_2 2 rfl) rfl ?_
                                refine r_getR C (dk oX10_claim_2 3 rfl) fl_X10_90 rfl (km hn rfl) ?_
                                refine r_iload C 2 (dk oX10_claim_2 4 rfl) rfl ?_
                                refine r_iald C _ (dk oX10_claim_2 5 rfl) rfl (km hn rfl) rfl (by omega) (by decide) ?_
                                rw [hFc 143 (by decide), up2_ne (by decide), up2_ne (by decide), up2_ne (by decide), hq0.2.2.2 k_ hb203]
                                refine r_iast C _ (dk oX10_claim_2 6 rfl) rfl (km hn rfl) rfl (by omega) (by decide) ?_
                                refine r_iinc (lo' := [(4, _), (0, _), (3, _)]) C 2 (dk oX10_claim_2 7 rfl) rfl (by first | exact nI_inc _ | rfl) (by decide) rfl ?_
                                refine r_goto (tgt := 197) C (dk oX10_claim_2 8 rfl) (by decide) ?_
                                refine V.sub [1, 2, 0] rfl ?_
                                refine ih (k_ + 1) _ (by omega) (by omega) (fun q hq => by rw [up2_ne hq]; exact hFc q hq) (fun j => ?_)
                                by_cases e : j = 120 * (sCl τ).1 + k_
                                · rw [e, up2_at, if_pos (by omega), show 120 * (sCl τ).1 + k_ - 120 * (sCl τ).1 = k_ by omega]
                                · rw [up2_off e, hcp j]
                                  by_cases e2 : 120 * (sCl τ).1 ≤ j ∧ j < 120 * (sCl τ).1 + k_
                                  · rw [if_pos e2, if_pos (by omega)]
                                  · rw [if_neg e2, if_neg (by omega)]
                          refine V.sub [4, 1, 0] rfl ?_
                          exact L197 (Cc.length + 1) 0 _ (by omega) (Nat.zero_le _) (fun _ _ => rfl) (fun j => (if_neg (by omega)).symm)
                        · rw [b32_n] at hb174
                          refine r_iload_n C 1 (dk oX10_claim_1 38 rfl) rfl ?_
                          refine r_ineg C (dk oX10_claim_1 39 rfl) ?_
                          refine r_topI (show -(nI (nmV (sT τ) (sL τ) (cP1 (sT τ) (sL τ)))) = cCo (sT τ) (sL τ) from by unfold cCo; rw [hb174, if_pos rfl]) ?_
                          refine r_goto (tgt := 183) C (dk oX10_claim_1 40 rfl) (by decide) ?_
                          refine r_iast C _ (dk oX10_claim_1 42 rfl) rfl (km hn rfl) rfl (by omega) (by decide) ?_
                          refine r_aload_n C 3 (dk oX10_claim_1 43 rfl) rfl ?_
                          refine r_getR C (dk oX10_claim_1 44 rfl) fl_X10_19 rfl (km hn rfl) ?_
                          refine r_iload_n C 0 (dk oX10_claim_1 45 rfl) rfl ?_
                          refine r_aload_n C 3 (dk oX10_claim_1 46 rfl) rfl ?_
                          refine r_getI C (dk oX10_claim_1 47 rfl) fl_X10_178 rfl (km hn rfl) ?_
                          rw [up2_ne (by decide), up2_off (by decide), hq0.2.2.1]
                          refine r_iast C _ (dk oX10_claim_1 48 rfl) rfl (km hn rfl) rfl (by omega) (by decide) ?_
                          refine r_iconst C (dk oX10_claim_1 49 rfl) (v := nI 0) (by decide) ?_
                          refine r_istore (lo' := [(4, _), (3, _), (2, _), (1, _), (0, _)]) C (dk oX10_claim_1 50 rfl) (by decide) rfl ?_
                          have L197 : ∀ (d_ : Nat) (k_ : Nat) (I3 : MI), Cc.length - k_ < d_ → k_ ≤ Cc.length → (∀ q, q ≠ 120 → I3 q = (up2 (up2 (up2 Ie 117 25 (nI 0)) 119 (sCl τ).1 (cCo (sT τ) (sL τ))) 121 (sCl τ).1 (nI Cc.length)) q) → (∀ j, I3 120 j = if 120 * (sCl τ).1 ≤ j ∧ j < 120 * (sCl τ).1 + k_ then nI (enc (Cc.getD (j - 120 * (sCl τ).1) 0)) else (up2 (up2 (up2 Ie 117 25 (nI 0)) 119 (sCl τ).1 (cCo (sT τ) (sL τ))) 121 (sCl τ).1 (nI Cc.length)) 120 j) → V p l e (rmL 5) s m args below meth c Q D A 5 0 0 n ad (mE cA ad I3 J) 197 [(0, .ref (ad 117)), (3, .int (nI (sCl τ).1)), (4, .int (nI k_))] [] := by
                            intro d_
                            induction d_ with
                            | zero => intros; exact absurd (by assumption) (Nat.not_lt_zero _)
                            | succ d_ ih => 
                              intro k_ I3 hd_ hk hFc hcp
                              refine r_iload C 2 (dk oX10_claim_1 51 rfl) rfl ?_
                              refine r_aload_n C 0 (dk oX10_claim_1 52 rfl) rfl ?_
                              refine r_getI C (dk oX10_claim_1 53 rfl) fl_X10_178 rfl (km hn rfl) ?_
                              rw [hFc 117 (by decide), up2_ne (by decide), up2_ne (by decide), up2_off (by decide), hq0.2.2.1]
                              refine r_icmp_ge (tgt := 231) C (dk oX10_claim_1 54 rfl) (by decide) (fun hb203 => ?_) (fun hb203 => ?_)
                              · simp (disch := omega) only [nI_leI, nI_ltI, nI_eq, nI_eq0] at hb203
                                refine r_aload_n C 0 (dk oX10_claim_2 9 rfl) rfl ?_
                                refine r_getR C (dk oX10_claim_2 10 rfl) fl_X10_7 rfl (km hn rfl) ?_
                                refine r_iconst C (dk oX10_claim_2 11 rfl) (v := nI 0) (by decide) ?_
                                refine r_dup2 C (dk oX10_claim_2 12 rfl) rfl rfl ?_
                                refine r_iald C 0 (dk oX10_claim_2 13 rfl) rfl (km hn rfl) rfl (by decide) (by decide) ?_
                                rw [hFc 118 (by decide), up2_ne (by decide), up2_ne (by decide), show up2 Ie 117 25 (nI 0) 118 0 = nI (sCl τ).1 from hMr.c0.2.1]
                                refine r_iconst C (dk oX10_claim_2 14 rfl) (v := nI 1) (by decide) ?_
                                refine r_iadd C (dk oX10_claim_2 15 rfl) ?_
                                rw [nI_add]
                                refine r_iast C 0 (dk oX10_claim_2 16 rfl) rfl (km hn rfl) rfl (by decide) (by decide) ?_
                                refine r_iload_n C 1 (dk oX10_claim_2 17 rfl) rfl ?_
                                refine hret (dk oX10_claim_2 18 rfl) rfl ?_
                                refine ⟨stC (rdS τ 0 pl) (adC (sCl τ) (cCo (sT τ) (sL τ)) Cc), (by unfold q_claim; rw [if_neg (by omega), if_neg (by omega)]; exact ⟨0, pl, Cc, hPR, by rw [if_pos rfl]; exact ⟨rfl, rfl⟩⟩), MM.cl (τ := rdS τ 0 pl) (x := cCo (sT τ) (sL τ)) (C := Cc) hMr (by show (sCl τ).1 < 6; omega) hPRok.2 hPRok.1 (fun k hk => ?_) ?_ ?_ ?_ (fun j => ?_), fun k hk => ?_, rfl⟩
                                · rw [up2_ne (by omega), hFc k (by omega), up2_ne (by omega), up2_ne (by omega)]
                                · funext j
                                  rw [up2_eq]
                                  show (if j = 0 then _ else I3 118 j) = _
                                  rw [hFc 118 (by decide), up2_ne (by decide), up2_ne (by decide)]
                                  rfl
                                · rw [up2_ne (by decide), hFc 119 (by decide), up2_ne (by decide), up2_eq]
                                  rfl
                                · rw [up2_ne (by decide), hFc 121 (by decide), up2_eq]
                                  funext j
                                  show (if j = (sCl τ).1 then _ else _) = _
                                  rw [up2_ne (by decide)]
                                  rfl
                                · rw [up2_ne (by decide), hcp j, show k_ = Cc.length by omega, up2_ne (by decide), up2_ne (by decide)]
                                  rfl
                                · rw [up2_ne (by omega), hFc k (by omega), up2_ne (by omega), up2_ne (by omega), up2_ne (by omega), hmE.1 k (by omega) (by omega) (by omega)]
                                  exact hF1 k hk
                              · simp (disch := omega) only [nI_leI, nI_ltI, nI_eq, nI_eq0] at hb203
                                have hb203 : k_ < Cc.length := by omega
                                refine r_aload_n C 0 (dk oX10_claim_1 55 rfl) rfl ?_
                                refine r_getR C (dk oX10_claim_1 56 rfl) fl_X10_16 rfl (km hn rfl) ?_
                                refine r_bipush C (dk oX10_claim_1 57 rfl) (v := nI 120) (by decide) ?_
                                refine r_iload_n C 1 (dk oX10_claim_1 58 rfl) rfl ?_
                                refine r_imul C (dk oX10_claim_1 59 rfl) ?_
                                rw [pk_mul]
                                refine r_iload C 2 (dk oX10_claim_2 0 rfl) rfl ?_
                                refine r_iadd C (dk oX10_claim_2 1 rfl) ?_
                                rw [nI_add]
                                refine r_aload_n C 0 (dk oX10_claim_2 2 rfl) rfl ?_
                                refine r_getR C (dk oX10_claim_2 3 rfl) fl_X10_90 rfl (km hn rfl) ?_
                                refine r_iload C 2 (dk oX10_claim_2 4 rfl) rfl ?_
                                refine r_iald C _ (dk oX10_claim_2 5 rfl) rfl (km hn rfl) rfl (by omega) (by decide) ?_
                                rw [hFc 143 (by decide), up2_ne (by decide), up2_ne (by decide), up2_ne (by decide), hq0.2.2.2 k_ hb203]
                                refine r_iast C _ (dk oX10_claim_2 6 rfl) rfl (km hn rfl) rfl (by omega) (by decide) ?_
                                refine r_iinc (lo' := [(4, _), (0, _), (3, _)]) C 2 (dk oX10_claim_2 7 rfl) rfl (by first | exact nI_inc _ | rfl) (by decide) rfl ?_
                                refine r_goto (tgt := 197) C (dk oX10_claim_2 8 rfl) (by decide) ?_
                                refine V.sub [1, 2, 0] rfl ?_
                                refine ih (k_ + 1) _ (by omega) (by omega) (fun q hq => by rw [up2_ne hq]; exact hFc q hq) (fun j => ?_)
                                by_cases e : j = 120 * (sCl τ).1 + k_
                                · rw [e, up2_at, if_pos (by omega), show 120 * (sCl τ).1 + k_ - 120 * (sCl τ).1 = k_ by omega]
                                · rw [up2_off e, hcp j]
                                  by_cases e2 : 120 * (sCl τ).1 ≤ j ∧ j < 120 * (sCl τ).1 + k_
                                  · rw [if_pos e2, if_pos (by omega)]
                                  · rw [if_neg e2, if_neg (by omega)]
                          refine V.sub [4, 1, 0] rfl ?_
                          exact L197 (Cc.length + 1) 0 _ (by omega) (Nat.zero_le _) (fun _ _ => rfl) (fun j => (if_neg (by omega)).symm)
                  · rw [show (0 : Int32) = nI 0 from rfl, nI_leI (by omega) (by omega)] at hb150
                    have hf0 : ¬ fn = 0 := by omega
                    refine r_bipush C (dk oX10_claim_1 23 rfl) (v := -10) (by decide) ?_
                    refine r_aload_n C 2 (dk oX10_claim_1 24 rfl) rfl ?_
                    refine r_getI C (dk oX10_claim_1 25 rfl) fl_X10_145 rfl (km hn rfl) ?_
                    rw [up2_off (by decide), h29e]
                    refine r_isub C (dk oX10_claim_1 26 rfl) ?_
                    refine hret (dk oX10_claim_1 27 rfl) rfl ?_
                    exact ⟨rdS τ fn pl, (by unfold q_claim; rw [if_neg (by omega), if_neg (by omega)]; exact ⟨fn, pl, Cc, hPR, by rw [if_neg hf0]; exact ⟨rfl, rfl⟩⟩), hMr, fun k hk => by rw [up2_ne (by omega), hmE.1 k (by omega) (by omega) (by omega)]; exact hF1 k hk, rfl⟩
            · first
                | (exact absurd hb106 (by decide))
                | have hz106 : (nmF (sT τ) (sL τ) (cP1 (sT τ) (sL τ)) 1 999) = 0 := by
                    have := @nmF_lt (sT τ) (sL τ) (cP1 (sT τ) (sL τ)) 1 999
                    rw [nI_eq0 (by omega)] at hb106
                    exact hb106
                  obtain ⟨hrv, h26v⟩ := hn4 hz106
                  have hrv := hrv.symm
                  subst hrv
                  refine r_aload_n C 2 (dk oX10_claim_0 59 rfl) rfl ?_
                  refine r_ivv C Z (dk oX10_claim_1 0 rfl) cl_X10_162 ci_X10_takeWord rfl (km hn rfl) (c_X10_takeWord hn I94 J (sT τ) (sL τ) hT94 (nE (sT τ) (sL τ) (cP1 (sT τ) (sL τ))) h26v (nE_le hP1L)) rfl rfl (Nat.le_of_ble_eq_true rfl) ⟨Nat.le_of_ble_eq_true rfl, Nat.le_of_ble_eq_true rfl⟩ ⟨Nat.zero_le _, Nat.zero_le _⟩ (fun I110 J110 h110 => ?_)
                  obtain ⟨h26b, h27b, h28b, hfb, e2_⟩ := h110
                  rw [show sk (sT τ) (sL τ) (nE (sT τ) (sL τ) (cP1 (sT τ) (sL τ))) = (cP2 (sT τ) (sL τ)) from rfl] at h26b h27b h28b
                  have e2_ := e2_.symm
                  subst e2_
                  have hP2L : (cP2 (sT τ) (sL τ)) ≤ sL τ := sk_le (nE_le hP1L)
                  refine r_aload_n C 2 (dk oX10_claim_1 1 rfl) rfl ?_
                  refine r_aload_n C 2 (dk oX10_claim_1 2 rfl) rfl ?_
                  refine r_iconst C (dk oX10_claim_1 3 rfl) (v := nI 2) (by decide) ?_
                  refine r_bipush C (dk oX10_claim_1 4 rfl) (v := nI 105) (by decide) ?_
                  refine r_bipush C (dk oX10_claim_1 5 rfl) (v := nI 102) (by decide) ?_
                  refine r_iconst C (dk oX10_claim_1 6 rfl) (v := nI 0) (by decide) ?_
                  refine r_iconst C (dk oX10_claim_1 7 rfl) (v := nI 0) (by decide) ?_
                  refine r_iconst C (dk oX10_claim_1 8 rfl) (v := nI 0) (by decide) ?_
                  refine r_ivi C Z (dk oX10_claim_1 9 rfl) cl_X10_165 ci_X10_isWord rfl (km hn rfl) (c_X10_isWord hn I110 J (sT τ) (sL τ) (hT94.tk hfb) (cP2 (sT τ) (sL τ)) h27b hP2L h28b 2 105 102 0 0 0 (by decide) (by decide) (sWd 2) (by decide)) rfl rfl (Nat.le_of_ble_eq_true rfl) ⟨Nat.le_of_ble_eq_true rfl, Nat.le_of_ble_eq_true rfl⟩ ⟨Nat.zero_le _, Nat.zero_le _⟩ (fun r123 I123 J123 h123 => ?_)
                  obtain ⟨h123, e1_, e2_⟩ := h123
                  have e1_ := e1_.symm
                  have e2_ := e2_.symm
                  subst e1_
                  subst e2_
                  subst h123
                  refine r_topI (show b32 (isW (sT τ) (sL τ) (cP2 (sT τ) (sL τ)) (sWd 2)) = b32 (decide (isW (sT τ) (sL τ) (cP2 (sT τ) (sL τ)) (sWd 2) = true)) from by cases isW (sT τ) (sL τ) (cP2 (sT τ) (sL τ)) (sWd 2) <;> rfl) ?_
                  refine r_iconst C (dk oX10_claim_1 10 rfl) (v := nI 1) (by decide) ?_
                  refine r_aload_n C 2 (dk oX10_claim_1 11 rfl) rfl ?_
                  refine r_getI C (dk oX10_claim_1 12 rfl) fl_X10_152 rfl (km hn rfl) ?_
                  rw [h27b]
                  refine r_ivi C Z (dk oX10_claim_1 13 rfl) cl_X10_173 ci_X10_want rfl (km hn rfl) (c_X10_want hn I110 J (decide (isW (sT τ) (sL τ) (cP2 (sT τ) (sL τ)) (sWd 2) = true)) (nI 1) (nI (cP2 (sT τ) (sL τ))) (nI 0) ((hfb.2 29 (by decide) (by decide) (by decide)).trans (by rw [hn1, hz106]))) rfl rfl (Nat.le_of_ble_eq_true rfl) ⟨Nat.le_of_ble_eq_true rfl, Nat.le_of_ble_eq_true rfl⟩ ⟨Nat.zero_le _, Nat.zero_le _⟩ (fun r131 I131 J131 h131 => ?_)
                  obtain ⟨e1_, hW131, e2_⟩ := h131
                  have e1_ := e1_.symm
                  have e2_ := e2_.symm
                  subst e1_
                  subst e2_
                  refine r_if_eq (tgt := 141) C (dk oX10_claim_1 14 rfl) (by decide) (fun hb134 => ?_) (fun hb134 => ?_)
                  · rw [b32_0, decide_eq_false_iff_not] at hb134
                    have hb134 := want_0 hb134
                    have hI131 := want_t hW131 hb134
                    subst hI131
                    obtain ⟨Ie, hIe⟩ : ∃ X, X = up2 (up2 I110 117 29 (nI 1)) 117 30 (nI (cP2 (sT τ) (sL τ))) := ⟨_, rfl⟩
                    have hE : ∃ fn pl Cc, clE τ I1 (up2 (up2 I110 117 29 (nI 1)) 117 30 (nI (cP2 (sT τ) (sL τ)))) fn pl Cc ∧ fn ≠ 0 := ⟨1, (cP2 (sT τ) (sL τ)), [], ⟨PR_3 hb86 hz106 hb134, ((hBm.tr (hfa.X.m.tr (hnf.X.m.tr hfb.X.m))).up 29 _ (by decide)).up 30 _ (by decide), by rw [up2_off (by decide), up2_at], by rw [up2_at, if_neg (by decide)], fun e => absurd e (by decide)⟩, by decide⟩
                    rw [← hIe] at hE
                    rw [← hIe]
                    clear hIe
                    obtain ⟨fn, pl, Cc, hE1, hne0⟩ := hE
                    obtain ⟨hPR, hmE, h29e, h30e, hqE⟩ := hE1
                    have hfn := hPR.1
                    have hMr := hMM1.rc (f := fn) (pl := pl) hmE h30e
                    refine r_aload_n C 2 (dk oX10_claim_1 17 rfl) rfl ?_
                    refine r_iconst C (dk oX10_claim_1 18 rfl) (v := nI 0) (by decide) ?_
                    refine r_putI C (dk oX10_claim_1 19 rfl) fl_X10_136 ft_10_25 rfl (km hn rfl) ?_
                    refine r_aload_n C 2 (dk oX10_claim_1 20 rfl) rfl ?_
                    refine r_getI C (dk oX10_claim_1 21 rfl) fl_X10_145 rfl (km hn rfl) ?_
                    rw [up2_off (by decide), h29e]
                    refine r_if_le (tgt := 161) C (dk oX10_claim_1 22 rfl) (by decide) (fun hb150 => ?_) (fun hb150 => ?_)
                    · first
                        | (exfalso; rw [show (0 : Int32) = nI 0 from rfl, nI_leI (by omega) (by omega)] at hb150; omega)
                        | rw [show (0 : Int32) = nI 0 from rfl, nI_leI (by omega) (by omega)] at hb150
                          have hf0 : fn = 0 := by omega
                          subst hf0
                          have hq0 := hqE rfl
                          have hPRok := hPR.ok hL12
                          have hlen : Cc.length ≤ 120 := hPRok.1.1
                          refine r_aload_n C 2 (dk oX10_claim_1 28 rfl) rfl ?_
                          refine r_getR C (dk oX10_claim_1 29 rfl) fl_X10_7 rfl (km hn rfl) ?_
                          refine r_iconst C (dk oX10_claim_1 30 rfl) (v := nI 0) (by decide) ?_
                          refine r_iald C 0 (dk oX10_claim_1 31 rfl) rfl (km hn rfl) rfl (by decide) (by decide) ?_
                          rw [show up2 Ie 117 25 (nI 0) 118 0 = nI (sCl τ).1 from hMr.c0.2.1]
                          refine r_istore_n (lo' := [(3, _), (2, _), (1, _), (0, _)]) C (dk oX10_claim_1 32 rfl) rfl (by decide) rfl ?_
                          refine r_aload_n C 3 (dk oX10_claim_1 33 rfl) rfl ?_
                          refine r_getR C (dk oX10_claim_1 34 rfl) fl_X10_13 rfl (km hn rfl) ?_
                          refine r_iload_n C 0 (dk oX10_claim_1 35 rfl) rfl ?_
                          refine r_iload_n C 2 (dk oX10_claim_1 36 rfl) rfl ?_
                          refine r_if_eq (tgt := 182) C (dk oX10_claim_1 37 rfl) (by decide) (fun hb174 => ?_) (fun hb174 => ?_)
                          · rw [b32_0] at hb174
                            refine r_iload_n C 1 (dk oX10_claim_1 41 rfl) rfl ?_
                            refine r_topI (show nI (nmV (sT τ) (sL τ) (cP1 (sT τ) (sL τ))) = cCo (sT τ) (sL τ) from by unfold cCo; rw [hb174, if_neg (by decide)]) ?_
                            refine r_iast C _ (dk oX10_claim_1 42 rfl) rfl (km hn rfl) rfl (by omega) (by decide) ?_
                            refine r_aload_n C 3 (dk oX10_claim_1 43 rfl) rfl ?_
                            refine r_getR C (dk oX10_claim_1 44 rfl) fl_X10_19 rfl (km hn rfl) ?_
                            refine r_iload_n C 0 (dk oX10_claim_1 45 rfl) rfl ?_
                            refine r_aload_n C 3 (dk oX10_claim_1 46 rfl) rfl ?_
                            refine r_getI C (dk oX10_claim_1 47 rfl) fl_X10_178 rfl (km hn rfl) ?_
                            rw [up2_ne (by decide), up2_off (by decide), hq0.2.2.1]
                            refine r_iast C _ (dk oX10_claim_1 48 rfl) rfl (km hn rfl) rfl (by omega) (by decide) ?_
                            refine r_iconst C (dk oX10_claim_1 49 rfl) (v := nI 0) (by decide) ?_
                            refine r_istore (lo' := [(4, _), (3, _), (2, _), (1, _), (0, _)]) C (dk oX10_claim_1 50 rfl) (by decide) rfl ?_
                            have L197 : ∀ (d_ : Nat) (k_ : Nat) (I3 : MI), Cc.length - k_ < d_ → k_ ≤ Cc.length → (∀ q, q ≠ 120 → I3 q = (up2 (up2 (up2 Ie 117 25 (nI 0)) 119 (sCl τ).1 (cCo (sT τ) (sL τ))) 121 (sCl τ).1 (nI Cc.length)) q) → (∀ j, I3 120 j = if 120 * (sCl τ).1 ≤ j ∧ j < 120 * (sCl τ).1 + k_ then nI (enc (Cc.getD (j - 120 * (sCl τ).1) 0)) else (up2 (up2 (up2 Ie 117 25 (nI 0)) 119 (sCl τ).1 (cCo (sT τ) (sL τ))) 121 (sCl τ).1 (nI Cc.length)) 120 j) → V p l e (rmL 5) s m args below meth c Q D A 5 0 0 n ad (mE cA ad I3 J) 197 [(0, .ref (ad 117)), (3, .int (nI (sCl τ).1)), (4, .int (nI k_))] [] := by
                              intro d_
                              induction d_ with
                              | zero => intros; exact absurd (by assumption) (Nat.not_lt_zero _)
                              | succ d_ ih => 
                                intro k_ I3 hd_ hk hFc hcp
                                refine r_iload C 2 (dk oX10_claim_1 51 rfl) rfl ?_
                                refine r_aload_n C 0 (dk oX10_claim_1 52 rfl) rfl ?_
                                refine r_getI C (dk oX10_claim_1 53 rfl) fl_X10_178 rfl (km hn rfl) ?_
                                rw [hFc 117 (by decide), up2_ne (by decide), up2_ne (by decide), up2_off (by decide), hq0.2.2.1]
                                refine r_icmp_ge (tgt := 231) C (dk oX10_claim_1 54 rfl) (by decide) (fun hb203 => ?_) (fun hb203 => ?_)
                                · simp (disch := omega) only [nI_leI, nI_ltI, nI_eq, nI_eq0] at hb203
                                  refine r_aload_n C 0 (dk oX10_claim_2 9 rfl) rfl ?_
                                  refine r_getR C (dk oX10_claim_2 10 rfl) fl_X10_7 rfl (km hn rfl) ?_
                                  refine r_iconst C (dk oX10_claim_2 11 rfl) (v := nI 0) (by decide) ?_
                                  refine r_dup2 C (dk oX10_claim_2 12 rfl) rfl rfl ?_
                                  refine r_iald C 0 (dk oX10_claim_2 13 rfl) rfl (km hn rfl) rfl (by decide) (by decide) ?_
                                  rw [hFc 118 (by decide), up2_ne (by decide), up2_ne (by decide), show up2 Ie 117 25 (nI 0) 118 0 = nI (sCl τ).1 from hMr.c0.2.1]
                                  refine r_iconst C (dk oX10_claim_2 14 rfl) (v := nI 1) (by decide) ?_
                                  refine r_iadd C (dk oX10_claim_2 15 rfl) ?_
                                  rw [nI_add]
                                  refine r_iast C 0 (dk oX10_claim_2 16 rfl) rfl (km hn rfl) rfl (by decide) (by decide) ?_
                                  refine r_iload_n C 1 (dk oX10_claim_2 17 rfl) rfl ?_
                                  refine hret (dk oX10_claim_2 18 rfl) rfl ?_
                                  refine ⟨stC (rdS τ 0 pl) (adC (sCl τ) (cCo (sT τ) (sL τ)) Cc), (by unfold q_claim; rw [if_neg (by omega), if_neg (by omega)]; exact ⟨0, pl, Cc, hPR, by rw [if_pos rfl]; exact ⟨rfl, rfl⟩⟩), MM.cl (τ := rdS τ 0 pl) (x := cCo (sT τ) (sL τ)) (C := Cc) hMr (by show (sCl τ).1 < 6; omega) hPRok.2 hPRok.1 (fun k hk => ?_) ?_ ?_ ?_ (fun j => ?_), fun k hk => ?_, rfl⟩
                                  · rw [up2_ne (by omega), hFc k (by omega), up2_ne (by omega), up2_ne (by omega)]
                                  · funext j
                                    rw [up2_eq]
                                    show (if j = 0 then _ else I3 118 j) = _
                                    rw [hFc 118 (by decide), up2_ne (by decide), up2_ne (by decide)]
                                    rfl
                                  · rw [up2_ne (by decide), hFc 119 (by decide), up2_ne (by decide), up2_eq]
                                    rfl
                                  · rw [up2_ne (by decide), hFc 121 (by decide), up2_eq]
                                    funext j
                                    show (if j = (sCl τ).1 then _ else _) = _
                                    rw [up2_ne (by decide)]
                                    rfl
                                  · rw [up2_ne (by decide), hcp j, show k_ = Cc.length by omega, up2_ne (by decide), up2_ne (by decide)]
                                    rfl
                                  · rw [up2_ne (by omega), hFc k (by omega), up2_ne (by omega), up2_ne (by omega), up2_ne (by omega), hmE.1 k (by omega) (by omega) (by omega)]
                                    exact hF1 k hk
                                · simp (disch := omega) only [nI_leI, nI_ltI, nI_eq, nI_eq0] at hb203
                                  have hb203 : k_ < Cc.length := by omega
                                  refine r_aload_n C 0 (dk oX10_claim_1 55 rfl) rfl ?_
                                  refine r_getR C (dk oX10_claim_1 56 rfl) fl_X10_16 rfl (km hn rfl) ?_
                                  refine r_bipush C (dk oX10_claim_1 57 rfl) (v := nI 120) (by decide) ?_
                                  refine r_iload_n C 1 (dk oX10_claim_1 58 rfl) rfl ?_
                                  refine r_imul C (dk oX10_claim_1 59 rfl) ?_
                                  rw [pk_mul]
                                  refine r_iload C 2 (dk oX10_claim_2 0 rfl) rfl ?_
                                  refine r_iadd C (dk oX10_claim_2 1 rfl) ?_
                                  rw [nI_add]
                                  refine r_aload_n C 0 (dk oX10_claim_2 2 rfl) rfl ?_
                                  refine r_getR C (dk oX10_claim_2 3 rfl) fl_X10_90 rfl (km hn rfl) ?_
                                  refine r_iload C 2 (dk oX10_claim_2 4 rfl) rfl ?_
                                  refine r_iald C _ (dk oX10_claim_2 5 rfl) rfl (km hn rfl) rfl (by omega) (by decide) ?_
                                  rw [hFc 143 (by decide), up2_ne (by decide), up2_ne (by decide), up2_ne (by decide), hq0.2.2.2 k_ hb203]
                                  refine r_iast C _ (dk oX10_claim_2 6 rfl) rfl (km hn rfl) rfl (by omega) (by decide) ?_
                                  refine r_iinc (lo' := [(4, _), (0, _), (3, _)]) C 2 (dk oX10_claim_2 7 rfl) rfl (by first | exact nI_inc _ | rfl) (by decide) rfl ?_
                                  refine r_goto (tgt := 197) C (dk oX10_claim_2 8 rfl) (by decide) ?_
                                  refine V.sub [1, 2, 0] rfl ?_
                                  refine ih (k_ + 1) _ (by omega) (by omega) (fun q hq => by rw [up2_ne hq]; exact hFc q hq) (fun j => ?_)
                                  by_cases e : j = 120 * (sCl τ).1 + k_
                                  · rw [e, up2_at, if_pos (by omega), show 120 * (sCl τ).1 + k_ - 120 * (sCl τ).1 = k_ by omega]
                                  · rw [up2_off e, hcp j]
                                    by_cases e2 : 120 * (sCl τ).1 ≤ j ∧ j < 120 * (sCl τ).1 + k_
                                    · rw [if_pos e2, if_pos (by omega)]
                                    · rw [if_neg e2, if_neg (by omega)]
                            refine V.sub [4, 1, 0] rfl ?_
                            exact L197 (Cc.length + 1) 0 _ (by omega) (Nat.zero_le _) (fun _ _ => rfl) (fun j => (if_neg (by omega)).symm)
                          · rw [b32_n] at hb174
                            refine r_iload_n C 1 (dk oX10_claim_1 38 rfl) rfl ?_
                            refine r_ineg C (dk oX10_claim_1 39 rfl) ?_
                            refine r_topI (show -(nI (nmV (sT τ) (sL τ) (cP1 (sT τ) (sL τ)))) = cCo (sT τ) (sL τ) from by unfold cCo; rw [hb174, if_pos rfl]) ?_
                            refine r_goto (tgt := 183) C (dk oX10_claim_1 40 rfl) (by decide) ?_
                            refine r_iast C _ (dk oX10_claim_1 42 rfl) rfl (km hn rfl) rfl (by omega) (by decide) ?_
                            refine r_aload_n C 3 (dk oX10_claim_1 43 rfl) rfl ?_
                            refine r_getR C (dk oX10_claim_1 44 rfl) fl_X10_19 rfl (km hn rfl) ?_
                            refine r_iload_n C 0 (dk oX10_claim_1 45 rfl) rfl ?_
                            refine r_aload_n C 3 (dk oX10_claim_1 46 rfl) rfl ?_
                            refine r_getI C (dk oX10_claim_1 47 rfl) fl_X10_178 rfl (km hn rfl) ?_
                            rw [up2_ne (by decide), up2_off (by decide), hq0.2.2.1]
                            refine r_iast C _ (dk oX10_claim_1 48 rfl) rfl (km hn rfl) rfl (by omega) (by decide) ?_
                            refine r_iconst C (dk oX10_claim_1 49 rfl) (v := nI 0) (by decide) ?_
                            refine r_istore (lo' := [(4, _), (3, _), (2, _), (1, _), (0, _)]) C (dk oX10_claim_1 50 rfl) (by decide) rfl ?_
                            have L197 : ∀ (d_ : Nat) (k_ : Nat) (I3 : MI), Cc.length - k_ < d_ → k_ ≤ Cc.length → (∀ q, q ≠ 120 → I3 q = (up2 (up2 (up2 Ie 117 25 (nI 0)) 119 (sCl τ).1 (cCo (sT τ) (sL τ))) 121 (sCl τ).1 (nI Cc.length)) q) → (∀ j, I3 120 j = if 120 * (sCl τ).1 ≤ j ∧ j < 120 * (sCl τ).1 + k_ then nI (enc (Cc.getD (j - 120 * (sCl τ).1) 0)) else (up2 (up2 (up2 Ie 117 25 (nI 0)) 119 (sCl τ).1 (cCo (sT τ) (sL τ))) 121 (sCl τ).1 (nI Cc.length)) 120 j) → V p l e (rmL 5) s m args below meth c Q D A 5 0 0 n ad (mE cA ad I3 J) 197 [(0, .ref (ad 117)), (3, .int (nI (sCl τ).1)), (4, .int (nI k_))] [] := by
                              intro d_
                              induction d_ with
                              | zero => intros; exact absurd (by assumption) (Nat.not_lt_zero _)
                              | succ d_ ih => 
                                intro k_ I3 hd_ hk hFc hcp
                                refine r_iload C 2 (dk oX10_claim_1 51 rfl) rfl ?_
                                refine r_aload_n C 0 (dk oX10_claim_1 52 rfl) rfl ?_
                                refine r_getI C (dk oX10_claim_1 53 rfl) fl_X10_178 rfl (km hn rfl) ?_
                                rw [hFc 117 (by decide), up2_ne (by decide), up2_ne (by decide), up2_off (by decide), hq0.2.2.1]
                                refine r_icmp_ge (tgt := 231) C (dk oX10_claim_1 54 rfl) (by decide) (fun hb203 => ?_) (fun hb203 => ?_)
                                · simp (disch := omega) only [nI_leI, nI_ltI, nI_eq, nI_eq0] at hb203
                                  refine r_aload_n C 0 (dk oX10_claim_2 9 rfl) rfl ?_
                                  refine r_getR C (dk oX10_claim_2 10 rfl) fl_X10_7 rfl (km hn rfl) ?_
                                  refine r_iconst C (dk oX10_claim_2 11 rfl) (v := nI 0) (by decide) ?_
                                  refine r_dup2 C (dk oX10_claim_2 12 rfl) rfl rfl ?_
                                  refine r_iald C 0 (dk oX10_claim_2 13 rfl) rfl (km hn rfl) rfl (by decide) (by decide) ?_
                                  rw [hFc 118 (by decide), up2_ne (by decide), up2_ne (by decide), show up2 Ie 117 25 (nI 0) 118 0 = nI (sCl τ).1 from hMr.c0.2.1]
                                  refine r_iconst C (dk oX10_claim_2 14 rfl) (v := nI 1) (by decide) ?_
                                  refine r_iadd C (dk oX10_claim_2 15 rfl) ?_
                                  rw [nI_add]
                                  refine r_iast C 0 (dk oX10_claim_2 16 rfl) rfl (km hn rfl) rfl (by decide) (by decide) ?_
                                  refine r_iload_n C 1 (dk oX10_claim_2 17 rfl) rfl ?_
                                  refine hret (dk oX10_claim_2 18 rfl) rfl ?_
                                  refine ⟨stC (rdS τ 0 pl) (adC (sCl τ) (cCo (sT τ) (sL τ)) Cc), (by unfold q_claim; rw [if_neg (by omega), if_neg (by omega)]; exact ⟨0, pl, Cc, hPR, by rw [if_pos rfl]; exact ⟨rfl, rfl⟩⟩), MM.cl (τ := rdS τ 0 pl) (x := cCo (sT τ) (sL τ)) (C := Cc) hMr (by show (sCl τ).1 < 6; omega) hPRok.2 hPRok.1 (fun k hk => ?_) ?_ ?_ ?_ (fun j => ?_), fun k hk => ?_, rfl⟩
                                  · rw [up2_ne (by omega), hFc k (by omega), up2_ne (by omega), up2_ne (by omega)]
                                  · funext j
                                    rw [up2_eq]
                                    show (if j = 0 then _ else I3 118 j) = _
                                    rw [hFc 118 (by decide), up2_ne (by decide), up2_ne (by decide)]
                                    rfl
                                  · rw [up2_ne (by decide), hFc 119 (by decide), up2_ne (by decide), up2_eq]
                                    rfl
                                  · rw [up2_ne (by decide), hFc 121 (by decide), up2_eq]
                                    funext j
                                    show (if j = (sCl τ).1 then _ else _) = _
                                    rw [up2_ne (by decide)]
                                    rfl
                                  · rw [up2_ne (by decide), hcp j, show k_ = Cc.length by omega, up2_ne (by decide), up2_ne (by decide)]
                                    rfl
                                  · rw [up2_ne (by omega), hFc k (by omega), up2_ne (by omega), up2_ne (by omega), up2_ne (by omega), hmE.1 k (by omega) (by omega) (by omega)]
                                    exact hF1 k hk
                                · simp (disch := omega) only [nI_leI, nI_ltI, nI_eq, nI_eq0] at hb203
                                  have hb203 : k_ < Cc.length := by omega
                                  refine r_aload_n C 0 (dk oX10_claim_1 55 rfl) rfl ?_
                                  refine r_getR C (dk oX10_claim_1 56 rfl) fl_X10_16 rfl (km hn rfl) ?_
                                  refine r_bipush C (dk oX10_claim_1 57 rfl) (v := nI 120) (by decide) ?_
                                  refine r_iload_n C 1 (dk oX10_claim_1 58 rfl) rfl ?_
                                  refine r_imul C (dk oX10_claim_1 59 rfl) ?_
                                  rw [pk_mul]
                                  refine r_iload C 2 (dk oX10_claim_2 0 rfl) rfl ?_
                                  refine r_iadd C (dk oX10_claim_2 1 rfl) ?_
                                  rw [nI_add]
                                  refine r_aload_n C 0 (dk oX10_claim_2 2 rfl) rfl ?_
                                  refine r_getR C (dk oX10_claim_2 3 rfl) fl_X10_90 rfl (km hn rfl) ?_
                                  refine r_iload C 2 (dk oX10_claim_2 4 rfl) rfl ?_
                                  refine r_iald C _ (dk oX10_claim_2 5 rfl) rfl (km hn rfl) rfl (by omega) (by decide) ?_
                                  rw [hFc 143 (by decide), up2_ne (by decide), up2_ne (by decide), up2_ne (by decide), hq0.2.2.2 k_ hb203]
                                  refine r_iast C _ (dk oX10_claim_2 6 rfl) rfl (km hn rfl) rfl (by omega) (by decide) ?_
                                  refine r_iinc (lo' := [(4, _), (0, _), (3, _)]) C 2 (dk oX10_claim_2 7 rfl) rfl (by first | exact nI_inc _ | rfl) (by decide) rfl ?_
                                  refine r_goto (tgt := 197) C (dk oX10_claim_2 8 rfl) (by decide) ?_
                                  refine V.sub [1, 2, 0] rfl ?_
                                  refine ih (k_ + 1) _ (by omega) (by omega) (fun q hq => by rw [up2_ne hq]; exact hFc q hq) (fun j => ?_)
                                  by_cases e : j = 120 * (sCl τ).1 + k_
                                  · rw [e, up2_at, if_pos (by omega), show 120 * (sCl τ).1 + k_ - 120 * (sCl τ).1 = k_ by omega]
                                  · rw [up2_off e, hcp j]
                                    by_cases e2 : 120 * (sCl τ).1 ≤ j ∧ j < 120 * (sCl τ).1 + k_
                                    · rw [if_pos e2, if_pos (by omega)]
                                    · rw [if_neg e2, if_neg (by omega)]
                            refine V.sub [4, 1, 0] rfl ?_
                            exact L197 (Cc.length + 1) 0 _ (by omega) (Nat.zero_le _) (fun _ _ => rfl) (fun j => (if_neg (by omega)).symm)
                    · rw [show (0 : Int32) = nI 0 from rfl, nI_leI (by omega) (by omega)] at hb150
                      have hf0 : ¬ fn = 0 := by omega
                      refine r_bipush C (dk oX10_claim_1 23 rfl) (v := -10) (by decide) ?_
                      refine r_aload_n C 2 (dk oX10_claim_1 24 rfl) rfl ?_
                      refine r_getI C (dk oX10_claim_1 25 rfl) fl_X10_145 rfl (km hn rfl) ?_
                      rw [up2_off (by decide), h29e]
                      refine r_isub C (dk oX10_claim_1 26 rfl) ?_
                      refine hret (dk oX10_claim_1 27 rfl) rfl ?_
                      exact ⟨rdS τ fn pl, (by unfold q_claim; rw [if_neg (by omega), if_neg (by omega)]; exact ⟨fn, pl, Cc, hPR, by rw [if_neg hf0]; exact ⟨rfl, rfl⟩⟩), hMr, fun k hk => by rw [up2_ne (by omega), hmE.1 k (by omega) (by omega) (by omega)]; exact hF1 k hk, rfl⟩
                  · rw [b32_n, decide_eq_true_eq] at hb134
                    have hb134 := want_1 (by decide) hb134
                    have hI131 := want_f hW131 hb134
                    subst hI131
                    refine r_aload_n C 2 (dk oX10_claim_1 15 rfl) rfl ?_
                    refine r_ivv C Z (dk oX10_claim_1 16 rfl) cl_X10_225 ci_X10_takeCase rfl (km hn rfl) (c_X10_takeCase hn I131 J (sT τ) (sL τ) ((cP2 (sT τ) (sL τ)) + 2) hL12 (hT94.tk hfb) (by rw [h26b, wd_end hb134]; rfl) (isW_lt (w := sWd 2) hP2L hb134) ((hfb.2 29 (by decide) (by decide) (by decide)).trans (by rw [hn1, hz106])) ((hfb.2 30 (by decide) (by decide) (by decide)).trans (by rw [hn2, if_pos hz106]; exact (hfa.2 30 (by decide) (by decide) (by decide)).trans hB30))) rfl rfl (Nat.le_of_ble_eq_true rfl) ⟨Nat.le_of_ble_eq_true rfl, Nat.le_of_ble_eq_true rfl⟩ ⟨Nat.zero_le _, Nat.zero_le _⟩ (fun I138 J138 h138 => ?_)
                    obtain ⟨e2_, hX138, f1, p1, C1, hf1, hr0, hq0c, hr1, h29c, h30c⟩ := h138
                    have e2_ := e2_.symm
                    subst e2_
                    obtain ⟨Ie, hIe⟩ : ∃ X, X = I138 := ⟨_, rfl⟩
                    have hE : ∃ fn pl Cc, clE τ I1 (I138) fn pl Cc := ⟨f1, p1, C1, PR_4 hb86 hz106 hb134 hf1 hr0 hr1, (hBm.tr (hfa.X.m.tr (hnf.X.m.tr hfb.X.m))).tr hX138.m, h29c, h30c, hq0c⟩
                    rw [← hIe] at hE
                    rw [← hIe]
                    clear hIe
                    obtain ⟨fn, pl, Cc, hE1⟩ := hE
                    obtain ⟨hPR, hmE, h29e, h30e, hqE⟩ := hE1
                    have hfn := hPR.1
                    have hMr := hMM1.rc (f := fn) (pl := pl) hmE h30e
                    refine r_aload_n C 2 (dk oX10_claim_1 17 rfl) rfl ?_
                    refine r_iconst C (dk oX10_claim_1 18 rfl) (v := nI 0) (by decide) ?_
                    refine r_putI C (dk oX10_claim_1 19 rfl) fl_X10_136 ft_10_25 rfl (km hn rfl) ?_
                    refine r_aload_n C 2 (dk oX10_claim_1 20 rfl) rfl ?_
                    refine r_getI C (dk oX10_claim_1 21 rfl) fl_X10_145 rfl (km hn rfl) ?_
                    rw [up2_off (by decide), h29e]
                    refine r_if_le (tgt := 161) C (dk oX10_claim_1 22 rfl) (by decide) (fun hb150 => ?_) (fun hb150 => ?_)
                    · first
                        | (exfalso; rw [show (0 : Int32) = nI 0 from rfl, nI_leI (by omega) (by omega)] at hb150; omega)
                        | rw [show (0 : Int32) = nI 0 from rfl, nI_leI (by omega) (by omega)] at hb150
                          have hf0 : fn = 0 := by omega
                          subst hf0
                          have hq0 := hqE rfl
                          have hPRok := hPR.ok hL12
                          have hlen : Cc.length ≤ 120 := hPRok.1.1
                          refine r_aload_n C 2 (dk oX10_claim_1 28 rfl) rfl ?_
                          refine r_getR C (dk oX10_claim_1 29 rfl) fl_X10_7 rfl (km hn rfl) ?_
                          refine r_iconst C (dk oX10_claim_1 30 rfl) (v := nI 0) (by decide) ?_
                          refine r_iald C 0 (dk oX10_claim_1 31 rfl) rfl (km hn rfl) rfl (by decide) (by decide) ?_
                          rw [show up2 Ie 117 25 (nI 0) 118 0 = nI (sCl τ).1 from hMr.c0.2.1]
                          refine r_istore_n (lo' := [(3, _), (2, _), (1, _), (0, _)]) C (dk oX10_claim_1 32 rfl) rfl (by decide) rfl ?_
                          refine r_aload_n C 3 (dk oX10_claim_1 33 rfl) rfl ?_
                          refine r_getR C (dk oX10_claim_1 34 rfl) fl_X10_13 rfl (km hn rfl) ?_
                          refine r_iload_n C 0 (dk oX10_claim_1 35 rfl) rfl ?_
                          refine r_iload_n C 2 (dk oX10_claim_1 36 rfl) rfl ?_
                          refine r_if_eq (tgt := 182) C (dk oX10_claim_1 37 rfl) (by decide) (fun hb174 => ?_) (fun hb174 => ?_)
                          · rw [b32_0] at hb174
                            refine r_iload_n C 1 (dk oX10_claim_1 41 rfl) rfl ?_
                            refine r_topI (show nI (nmV (sT τ) (sL τ) (cP1 (sT τ) (sL τ))) = cCo (sT τ) (sL τ) from by unfold cCo; rw [hb174, if_neg (by decide)]) ?_
                            refine r_iast C _ (dk oX10_claim_1 42 rfl) rfl (km hn rfl) rfl (by omega) (by decide) ?_
                            refine r_aload_n C 3 (dk oX10_claim_1 43 rfl) rfl ?_
                            refine r_getR C (dk oX10_claim_1 44 rfl) fl_X10_19 rfl (km hn rfl) ?_
                            refine r_iload_n C 0 (dk oX10_claim_1 45 rfl) rfl ?_
                            refine r_aload_n C 3 (dk oX10_claim_1 46 rfl) rfl ?_
                            refine r_getI C (dk oX10_claim_1 47 rfl) fl_X10_178 rfl (km hn rfl) ?_
                            rw [up2_ne (by decide), up2_off (by decide), hq0.2.2.1]
                            refine r_iast C _ (dk oX10_claim_1 48 rfl) rfl (km hn rfl) rfl (by omega) (by decide) ?_
                            refine r_iconst C (dk oX10_claim_1 49 rfl) (v := nI 0) (by decide) ?_
                            refine r_istore (lo' := [(4, _), (3, _), (2, _), (1, _), (0, _)]) C (dk oX10_claim_1 50 rfl) (by decide) rfl ?_
                            have L197 : ∀ (d_ : Nat) (k_ : Nat) (I3 : MI), Cc.length - k_ < d_ → k_ ≤ Cc.length → (∀ q, q ≠ 120 → I3 q = (up2 (up2 (up2 Ie 117 25 (nI 0)) 119 (sCl τ).1 (cCo (sT τ) (sL τ))) 121 (sCl τ).1 (nI Cc.length)) q) → (∀ j, I3 120 j = if 120 * (sCl τ).1 ≤ j ∧ j < 120 * (sCl τ).1 + k_ then nI (enc (Cc.getD (j - 120 * (sCl τ).1) 0)) else (up2 (up2 (up2 Ie 117 25 (nI 0)) 119 (sCl τ).1 (cCo (sT τ) (sL τ))) 121 (sCl τ).1 (nI Cc.length)) 120 j) → V p l e (rmL 5) s m args below meth c Q D A 5 0 0 n ad (mE cA ad I3 J) 197 [(0, .ref (ad 117)), (3, .int (nI (sCl τ).1)), (4, .int (nI k_))] [] := by
                              intro d_
                              induction d_ with
                              | zero => intros; exact absurd (by assumption) (Nat.not_lt_zero _)
                              | succ d_ ih => 
                                intro k_ I3 hd_ hk hFc hcp
                                refine r_iload C 2 (dk oX10_claim_1 51 rfl) rfl ?_
                                refine r_aload_n C 0 (dk oX10_claim_1 52 rfl) rfl ?_
                                refine r_getI C (dk oX10_claim_1 53 rfl) fl_X10_178 rfl (km hn rfl) ?_
                                rw [hFc 117 (by decide), up2_ne (by decide), up2_ne (by decide), up2_off (by decide), hq0.2.2.1]
                                refine r_icmp_ge (tgt := 231) C (dk oX10_claim_1 54 rfl) (by decide) (fun hb203 => ?_) (fun hb203 => ?_)
                                · simp (disch := omega) only [nI_leI, nI_ltI, nI_eq, nI_eq0] at hb203
                                  refine r_aload_n C 0 (dk oX10_claim_2 9 rfl) rfl ?_
                                  refine r_getR C (dk oX10_claim_2 10 rfl) fl_X10_7 rfl (km hn rfl) ?_
                                  refine r_iconst C (dk oX10_claim_2 11 rfl) (v := nI 0) (by decide) ?_
                                  refine r_dup2 C (dk oX10_claim_2 12 rfl) rfl rfl ?_
                                  refine r_iald C 0 (dk oX10_claim_2 13 rfl) rfl (km hn rfl) rfl (by decide) (by decide) ?_
                                  rw [hFc 118 (by decide), up2_ne (by decide), up2_ne (by decide), show up2 Ie 117 25 (nI 0) 118 0 = nI (sCl τ).1 from hMr.c0.2.1]
                                  refine r_iconst C (dk oX10_claim_2 14 rfl) (v := nI 1) (by decide) ?_
                                  refine r_iadd C (dk oX10_claim_2 15 rfl) ?_
                                  rw [nI_add]
                                  refine r_iast C 0 (dk oX10_claim_2 16 rfl) rfl (km hn rfl) rfl (by decide) (by decide) ?_
                                  refine r_iload_n C 1 (dk oX10_claim_2 17 rfl) rfl ?_
                                  refine hret (dk oX10_claim_2 18 rfl) rfl ?_
                                  refine ⟨stC (rdS τ 0 pl) (adC (sCl τ) (cCo (sT τ) (sL τ)) Cc), (by unfold q_claim; rw [if_neg (by omega), if_neg (by omega)]; exact ⟨0, pl, Cc, hPR, by rw [if_pos rfl]; exact ⟨rfl, rfl⟩⟩), MM.cl (τ := rdS τ 0 pl) (x := cCo (sT τ) (sL τ)) (C := Cc) hMr (by show (sCl τ).1 < 6; omega) hPRok.2 hPRok.1 (fun k hk => ?_) ?_ ?_ ?_ (fun j => ?_), fun k hk => ?_, rfl⟩
                                  · rw [up2_ne (by omega), hFc k (by omega), up2_ne (by omega), up2_ne (by omega)]
                                  · funext j
                                    rw [up2_eq]
                                    show (if j = 0 then _ else I3 118 j) = _
                                    rw [hFc 118 (by decide), up2_ne (by decide), up2_ne (by decide)]
                                    rfl
                                  · rw [up2_ne (by decide), hFc 119 (by decide), up2_ne (by decide), up2_eq]
                                    rfl
                                  · rw [up2_ne (by decide), hFc 121 (by decide), up2_eq]
                                    funext j
                                    show (if j = (sCl τ).1 then _ else _) = _
                                    rw [up2_ne (by decide)]
                                    rfl
                                  · rw [up2_ne (by decide), hcp j, show k_ = Cc.length by omega, up2_ne (by decide), up2_ne (by decide)]
                                    rfl
                                  · rw [up2_ne (by omega), hFc k (by omega), up2_ne (by omega), up2_ne (by omega), up2_ne (by omega), hmE.1 k (by omega) (by omega) (by omega)]
                                    exact hF1 k hk
                                · simp (disch := omega) only [nI_leI, nI_ltI, nI_eq, nI_eq0] at hb203
                                  have hb203 : k_ < Cc.length := by omega
                                  refine r_aload_n C 0 (dk oX10_claim_1 55 rfl) rfl ?_
                                  refine r_getR C (dk oX10_claim_1 56 rfl) fl_X10_16 rfl (km hn rfl) ?_
                                  refine r_bipush C (dk oX10_claim_1 57 rfl) (v := nI 120) (by decide) ?_
                                  refine r_iload_n C 1 (dk oX10_claim_1 58 rfl) rfl ?_
                                  refine r_imul C (dk oX10_claim_1 59 rfl) ?_
                                  rw [pk_mul]
                                  refine r_iload C 2 (dk oX10_claim_2 0 rfl) rfl ?_
                                  refine r_iadd C (dk oX10_claim_2 1 rfl) ?_
                                  rw [nI_add]
                                  refine r_aload_n C 0 (dk oX10_claim_2 2 rfl) rfl ?_
                                  refine r_getR C (dk oX10_claim_2 3 rfl) fl_X10_90 rfl (km hn rfl) ?_
                                  refine r_iload C 2 (dk oX10_claim_2 4 rfl) rfl ?_
                                  refine r_iald C _ (dk oX10_claim_2 5 rfl) rfl (km hn rfl) rfl (by omega) (by decide) ?_
                                  rw [hFc 143 (by decide), up2_ne (by decide), up2_ne (by decide), up2_ne (by decide), hq0.2.2.2 k_ hb203]
                                  refine r_iast C _ (dk oX10_claim_2 6 rfl) rfl (km hn rfl) rfl (by omega) (by decide) ?_
                                  refine r_iinc (lo' := [(4, _), (0, _), (3, _)]) C 2 (dk oX10_claim_2 7 rfl) rfl (by first | exact nI_inc _ | rfl) (by decide) rfl ?_
                                  refine r_goto (tgt := 197) C (dk oX10_claim_2 8 rfl) (by decide) ?_
                                  refine V.sub [1, 2, 0] rfl ?_
                                  refine ih (k_ + 1) _ (by omega) (by omega) (fun q hq => by rw [up2_ne hq]; exact hFc q hq) (fun j => ?_)
                                  by_cases e : j = 120 * (sCl τ).1 + k_
                                  · rw [e, up2_at, if_pos (by omega), show 120 * (sCl τ).1 + k_ - 120 * (sCl τ).1 = k_ by omega]
                                  · rw [up2_off e, hcp j]
                                    by_cases e2 : 120 * (sCl τ).1 ≤ j ∧ j < 120 * (sCl τ).1 + k_
                                    · rw [if_pos e2, if_pos (by omega)]
                                    · rw [if_neg e2, if_neg (by omega)]
                            refine V.sub [4, 1, 0] rfl ?_
                            exact L197 (Cc.length + 1) 0 _ (by omega) (Nat.zero_le _) (fun _ _ => rfl) (fun j => (if_neg (by omega)).symm)
                          · rw [b32_n] at hb174
                            refine r_iload_n C 1 (dk oX10_claim_1 38 rfl) rfl ?_
                            refine r_ineg C (dk oX10_claim_1 39 rfl) ?_
                            refine r_topI (show -(nI (nmV (sT τ) (sL τ) (cP1 (sT τ) (sL τ)))) = cCo (sT τ) (sL τ) from by unfold cCo; rw [hb174, if_pos rfl]) ?_
                            refine r_goto (tgt := 183) C (dk oX10_claim_1 40 rfl) (by decide) ?_
                            refine r_iast C _ (dk oX10_claim_1 42 rfl) rfl (km hn rfl) rfl (by omega) (by decide) ?_
                            refine r_aload_n C 3 (dk oX10_claim_1 43 rfl) rfl ?_
                            refine r_getR C (dk oX10_claim_1 44 rfl) fl_X10_19 rfl (km hn rfl) ?_
                            refine r_iload_n C 0 (dk oX10_claim_1 45 rfl) rfl ?_
                            refine r_aload_n C 3 (dk oX10_claim_1 46 rfl) rfl ?_
                            refine r_getI C (dk oX10_claim_1 47 rfl) fl_X10_178 rfl (km hn rfl) ?_
                            rw [up2_ne (by decide), up2_off (by decide), hq0.2.2.1]
                            refine r_iast C _ (dk oX10_claim_1 48 rfl) rfl (km hn rfl) rfl (by omega) (by decide) ?_
                            refine r_iconst C (dk oX10_claim_1 49 rfl) (v := nI 0) (by decide) ?_
                            refine r_istore (lo' := [(4, _), (3, _), (2, _), (1, _), (0, _)]) C (dk oX10_claim_1 50 rfl) (by decide) rfl ?_
                            have L197 : ∀ (d_ : Nat) (k_ : Nat) (I3 : MI), Cc.length - k_ < d_ → k_ ≤ Cc.length → (∀ q, q ≠ 120 → I3 q = (up2 (up2 (up2 Ie 117 25 (nI 0)) 119 (sCl τ).1 (cCo (sT τ) (sL τ))) 121 (sCl τ).1 (nI Cc.length)) q) → (∀ j, I3 120 j = if 120 * (sCl τ).1 ≤ j ∧ j < 120 * (sCl τ).1 + k_ then nI (enc (Cc.getD (j - 120 * (sCl τ).1) 0)) else (up2 (up2 (up2 Ie 117 25 (nI 0)) 119 (sCl τ).1 (cCo (sT τ) (sL τ))) 121 (sCl τ).1 (nI Cc.length)) 120 j) → V p l e (rmL 5) s m args below meth c Q D A 5 0 0 n ad (mE cA ad I3 J) 197 [(0, .ref (ad 117)), (3, .int (nI (sCl τ).1)), (4, .int (nI k_))] [] := by
                              intro d_
                              induction d_ with
                              | zero => intros; exact absurd (by assumption) (Nat.not_lt_zero _)
                              | succ d_ ih => 
                                intro k_ I3 hd_ hk hFc hcp
                                refine r_iload C 2 (dk oX10_claim_1 51 rfl) rfl ?_
                                refine r_aload_n C 0 (dk oX10_claim_1 52 rfl) rfl ?_
                                refine r_getI C (dk oX10_claim_1 53 rfl) fl_X10_178 rfl (km hn rfl) ?_
                                rw [hFc 117 (by decide), up2_ne (by decide), up2_ne (by decide), up2_off (by decide), hq0.2.2.1]
                                refine r_icmp_ge (tgt := 231) C (dk oX10_claim_1 54 rfl) (by decide) (fun hb203 => ?_) (fun hb203 => ?_)
                                · simp (disch := omega) only [nI_leI, nI_ltI, nI_eq, nI_eq0] at hb203
                                  refine r_aload_n C 0 (dk oX10_claim_2 9 rfl) rfl ?_
                                  refine r_getR C (dk oX10_claim_2 10 rfl) fl_X10_7 rfl (km hn rfl) ?_
                                  refine r_iconst C (dk oX10_claim_2 11 rfl) (v := nI 0) (by decide) ?_
                                  refine r_dup2 C (dk oX10_claim_2 12 rfl) rfl rfl ?_
                                  refine r_iald C 0 (dk oX10_claim_2 13 rfl) rfl (km hn rfl) rfl (by decide) (by decide) ?_
                                  rw [hFc 118 (by decide), up2_ne (by decide), up2_ne (by decide), show up2 Ie 117 25 (nI 0) 118 0 = nI (sCl τ).1 from hMr.c0.2.1]
                                  refine r_iconst C (dk oX10_claim_2 14 rfl) (v := nI 1) (by decide) ?_
                                  refine r_iadd C (dk oX10_claim_2 15 rfl) ?_
                                  rw [nI_add]
                                  refine r_iast C 0 (dk oX10_claim_2 16 rfl) rfl (km hn rfl) rfl (by decide) (by decide) ?_
                                  refine r_iload_n C 1 (dk oX10_claim_2 17 rfl) rfl ?_
                                  refine hret (dk oX10_claim_2 18 rfl) rfl ?_
                                  refine ⟨stC (rdS τ 0 pl) (adC (sCl τ) (cCo (sT τ) (sL τ)) Cc), (by unfold q_claim; rw [if_neg (by omega), if_neg (by omega)]; exact ⟨0, pl, Cc, hPR, by rw [if_pos rfl]; exact ⟨rfl, rfl⟩⟩), MM.cl (τ := rdS τ 0 pl) (x := cCo (sT τ) (sL τ)) (C := Cc) hMr (by show (sCl τ).1 < 6; omega) hPRok.2 hPRok.1 (fun k hk => ?_) ?_ ?_ ?_ (fun j => ?_), fun k hk => ?_, rfl⟩
                                  · rw [up2_ne (by omega), hFc k (by omega), up2_ne (by omega), up2_ne (by omega)]
                                  · funext j
                                    rw [up2_eq]
                                    show (if j = 0 then _ else I3 118 j) = _
                                    rw [hFc 118 (by decide), up2_ne (by decide), up2_ne (by decide)]
                                    rfl
                                  · rw [up2_ne (by decide), hFc 119 (by decide), up2_ne (by decide), up2_eq]
                                    rfl
                                  · rw [up2_ne (by decide), hFc 121 (by decide), up2_eq]
                                    funext j
                                    show (if j = (sCl τ).1 then _ else _) = _
                                    rw [up2_ne (by decide)]
                                    rfl
                                  · rw [up2_ne (by decide), hcp j, show k_ = Cc.length by omega, up2_ne (by decide), up2_ne (by decide)]
                                    rfl
                                  · rw [up2_ne (by omega), hFc k (by omega), up2_ne (by omega), up2_ne (by omega), up2_ne (by omega), hmE.1 k (by omega) (by omega) (by omega)]
                                    exact hF1 k hk
                                · simp (disch := omega) only [nI_leI, nI_ltI, nI_eq, nI_eq0] at hb203
                                  have hb203 : k_ < Cc.length := by omega
                                  refine r_aload_n C 0 (dk oX10_claim_1 55 rfl) rfl ?_
                                  refine r_getR C (dk oX10_claim_1 56 rfl) fl_X10_16 rfl (km hn rfl) ?_
                                  refine r_bipush C (dk oX10_claim_1 57 rfl) (v := nI 120) (by decide) ?_
                                  refine r_iload_n C 1 (dk oX10_claim_1 58 rfl) rfl ?_
                                  refine r_imul C (dk oX10_claim_1 59 rfl) ?_
                                  rw [pk_mul]
                                  refine r_iload C 2 (dk oX10_claim_2 0 rfl) rfl ?_
                                  refine r_iadd C (dk oX10_claim_2 1 rfl) ?_
                                  rw [nI_add]
                                  refine r_aload_n C 0 (dk oX10_claim_2 2 rfl) rfl ?_
                                  refine r_getR C (dk oX10_claim_2 3 rfl) fl_X10_90 rfl (km hn rfl) ?_
                                  refine r_iload C 2 (dk oX10_claim_2 4 rfl) rfl ?_
                                  refine r_iald C _ (dk oX10_claim_2 5 rfl) rfl (km hn rfl) rfl (by omega) (by decide) ?_
                                  rw [hFc 143 (by decide), up2_ne (by decide), up2_ne (by decide), up2_ne (by decide), hq0.2.2.2 k_ hb203]
                                  refine r_iast C _ (dk oX10_claim_2 6 rfl) rfl (km hn rfl) rfl (by omega) (by decide) ?_
                                  refine r_iinc (lo' := [(4, _), (0, _), (3, _)]) C 2 (dk oX10_claim_2 7 rfl) rfl (by first | exact nI_inc _ | rfl) (by decide) rfl ?_
                                  refine r_goto (tgt := 197) C (dk oX10_claim_2 8 rfl) (by decide) ?_
                                  refine V.sub [1, 2, 0] rfl ?_
                                  refine ih (k_ + 1) _ (by omega) (by omega) (fun q hq => by rw [up2_ne hq]; exact hFc q hq) (fun j => ?_)
                                  by_cases e : j = 120 * (sCl τ).1 + k_
                                  · rw [e, up2_at, if_pos (by omega), show 120 * (sCl τ).1 + k_ - 120 * (sCl τ).1 = k_ by omega]
                                  · rw [up2_off e, hcp j]
                                    by_cases e2 : 120 * (sCl τ).1 ≤ j ∧ j < 120 * (sCl τ).1 + k_
                                    · rw [if_pos e2, if_pos (by omega)]
                                    · rw [if_neg e2, if_neg (by omega)]
                            refine V.sub [4, 1, 0] rfl ?_
                            exact L197 (Cc.length + 1) 0 _ (by omega) (Nat.zero_le _) (fun _ _ => rfl) (fun j => (if_neg (by omega)).symm)
                    · rw [show (0 : Int32) = nI 0 from rfl, nI_leI (by omega) (by omega)] at hb150
                      have hf0 : ¬ fn = 0 := by omega
                      refine r_bipush C (dk oX10_claim_1 23 rfl) (v := -10) (by decide) ?_
                      refine r_aload_n C 2 (dk oX10_claim_1 24 rfl) rfl ?_
                      refine r_getI C (dk oX10_claim_1 25 rfl) fl_X10_145 rfl (km hn rfl) ?_
                      rw [up2_off (by decide), h29e]
                      refine r_isub C (dk oX10_claim_1 26 rfl) ?_
                      refine hret (dk oX10_claim_1 27 rfl) rfl ?_
                      exact ⟨rdS τ fn pl, (by unfold q_claim; rw [if_neg (by omega), if_neg (by omega)]; exact ⟨fn, pl, Cc, hPR, by rw [if_neg hf0]; exact ⟨rfl, rfl⟩⟩), hMr, fun k hk => by rw [up2_ne (by omega), hmE.1 k (by omega) (by omega) (by omega)]; exact hF1 k hk, rfl⟩
    · simp (disch := omega) only [nI_leI, nI_ltI, nI_eq, nI_eq0] at hb24
      refine r_ldc C (dk oX10_claim_0 14 rfl) kn_X10_139 ?_
      refine hret (dk oX10_claim_0 15 rfl) rfl ?_
      exact ⟨τ, (by unfold q_claim; rw [if_neg (by omega), if_pos (by omega)]; exact ⟨rfl, rfl⟩), hMM1, hF1, rfl⟩
  · simp (disch := omega) only [nI_leI, nI_ltI, nI_eq, nI_eq0] at hb10
    refine r_ldc C (dk oX10_claim_0 6 rfl) kn_X10_221 ?_
    refine hret (dk oX10_claim_0 7 rfl) rfl ?_
    exact ⟨τ, (by unfold q_claim; rw [if_pos (by omega)]; exact ⟨rfl, rfl⟩), hMM1, hF1, rfl⟩

end MOD20
