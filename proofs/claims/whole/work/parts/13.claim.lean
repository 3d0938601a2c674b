section CLAIM
variable {l : Launch} {n : Nat} {ad : Nat → Nat} {cA : Nat → ClassId} {D : va_G} {z : Zw}
set_option maxHeartbeats 1000000 in
set_option maxRecDepth 100000 in
theorem c_X0_emit (hn : 117 ≤ n) (I : MI) (J : MJ) (k x : Nat) (hk : k ≤ 120) (h : I 3 2 = nI k) : Cv l n ad cA D z 0 yX0_emit cX0_emit 2 I J [.ref (ad 3), .int (nI x)] (fun I' J' => I' = emi I k x ∧ J' = J) := by
  refine Cv.of (by decide) (Nat.le_of_ble_eq_true rfl) ?_
  intro p e s m args below meth c A C hin Z Q hret
  refine r_aload_n C 0 (dk oX0_emit 0 rfl) rfl ?_
  refine r_getI C (dk oX0_emit 1 rfl) fl_X0_19 rfl (kn hn rfl) ?_
  rw [h]
  refine r_aload_n C 0 (dk oX0_emit 2 rfl) rfl ?_
  refine r_getR C (dk oX0_emit 3 rfl) fl_X0_9 rfl (kn hn rfl) ?_
  refine r_alen C (dk oX0_emit 4 rfl) rfl (by decide) (kn hn rfl) ?_
  refine r_icmp_ge (tgt := 32) C (dk oX0_emit 5 rfl) (by decide) (fun hb9 => ?_) (fun hb9 => ?_)
  · simp (disch := omega) only [nI_leI, nI_ltI, nI_eq, nI_eq0] at hb9
    refine hret (dk oX0_emit 18 rfl) ?_
    first | exact ⟨(if_neg (by omega)).symm, rfl⟩ | exact ⟨(if_pos (by omega)).symm, rfl⟩
  · simp (disch := omega) only [nI_leI, nI_ltI, nI_eq, nI_eq0] at hb9
    refine r_aload_n C 0 (dk oX0_emit 6 rfl) rfl ?_
    refine r_getR C (dk oX0_emit 7 rfl) fl_X0_9 rfl (kn hn rfl) ?_
    refine r_aload_n C 0 (dk oX0_emit 8 rfl) rfl ?_
    refine r_getI C (dk oX0_emit 9 rfl) fl_X0_19 rfl (kn hn rfl) ?_
    rw [h]
    refine r_iload_n C 1 (dk oX0_emit 10 rfl) rfl ?_
    refine r_iast C _ (dk oX0_emit 11 rfl) rfl (kn hn rfl) rfl (by omega) (by decide) ?_
    refine r_aload_n C 0 (dk oX0_emit 12 rfl) rfl ?_
    refine r_dup C (dk oX0_emit 13 rfl) rfl ?_
    refine r_getI C (dk oX0_emit 14 rfl) fl_X0_19 rfl (kn hn rfl) ?_
    rw [up2_ne (by decide), h]
    refine r_iconst C (dk oX0_emit 15 rfl) (v := nI 1) (by decide) ?_
    refine r_iadd C (dk oX0_emit 16 rfl) ?_
    rw [nI_add]
    refine r_putI C (dk oX0_emit 17 rfl) fl_X0_19 ft_0_2 rfl (kn hn rfl) ?_
    refine hret (dk oX0_emit 18 rfl) ?_
    first | exact ⟨(if_neg (by omega)).symm, rfl⟩ | exact ⟨(if_pos (by omega)).symm, rfl⟩

set_option maxHeartbeats 1000000 in
set_option maxRecDepth 100000 in
theorem c_X0_readFact (hn : 117 ≤ n) (I : MI) (J : MJ) (t : Nat → Nat) (L s_ : Nat) (K : List Nat) (hT : Tx I t L) (hk : Tk I t L s_) (h5 : I 1 5 = nI 0) (hC : Cd I K) (hK : K.length < 120 ∨ nmF t L s_ 0 11 ≠ 0) : Cv l n ad cA D z 2 yX0_readFact cX0_readFact 3 I J [.ref (ad 3), .ref (ad 1)] (fun I' J' => J' = J ∧ ((nmF t L s_ 0 11 ≠ 0 ∧ I' = flt I (nmF t L s_ 0 11) s_) ∨ (nmF t L s_ 0 11 = 0 ∧ rdF I I' ∧ I' 1 5 = nI 0 ∧ Tk I' t L (sk t L (nE t L s_)) ∧ Cd I' (K ++ [nmV t L s_]) ∧ I' 1 6 = I 1 6))) := by
  refine Cv.of (by decide) (Nat.le_of_ble_eq_true rfl) ?_
  intro p e s m args below meth c A C hin Z Q hret
  refine r_aload_n C 1 (dk oX0_readFact 0 rfl) rfl ?_
  refine r_iconst C (dk oX0_readFact 1 rfl) (v := nI 0) (by decide) ?_
  refine r_bipush C (dk oX0_readFact 2 rfl) (v := nI 11) (by decide) ?_
  refine r_ivi C Z (dk oX0_readFact 3 rfl) cl_X0_43 ci_X8_numberHere rfl (kn hn rfl) (c_X8_numberHere hn I J t L hT s_ 0 11 h5 hk (by decide) (by decide)) rfl rfl (Nat.le_of_ble_eq_true rfl) ⟨Nat.le_of_ble_eq_true rfl, Nat.le_of_ble_eq_true rfl⟩ ⟨Nat.zero_le _, Nat.zero_le _⟩ (fun r4 I4 J4 h4 => ?_)
  obtain ⟨h4, e2_⟩ := h4
  have e2_ := e2_.symm
  subst e2_
  have hG : txG I I4 := by
    rcases h4 with ⟨-, -, e⟩ | ⟨-, -, e⟩
    · rw [e]; exact txG.rf I
    · rw [e]; exact flt_G _ _ _
  have hf3 := @nmF_lt t L s_ 0 11
  have h55 : I4 1 5 = nI (nmF t L s_ 0 11) := by
    rcases h4 with ⟨e0, -, e⟩ | ⟨-, -, e⟩
    · rw [e, h5, e0]
    · rw [e, flt_5]
  refine r_istore_n (lo' := [(2, _), (0, _), (1, _)]) C (dk oX0_readFact 4 rfl) rfl (by decide) rfl ?_
  refine r_aload_n C 2 (dk oX0_readFact 5 rfl) rfl ?_
  refine r_ivi C Z (dk oX0_readFact 6 rfl) cl_X0_47 ci_X8_isSound rfl (kn hn rfl) (c_X8_isSound hn I4 J (nmF t L s_ 0 11) (by omega) h55) rfl rfl (Nat.le_of_ble_eq_true rfl) ⟨Nat.le_of_ble_eq_true rfl, Nat.le_of_ble_eq_true rfl⟩ ⟨Nat.zero_le _, Nat.zero_le _⟩ (fun r9 I9 J9 h9 => ?_)
  obtain ⟨h9, e1_, e2_⟩ := h9
  have e1_ := e1_.symm
  have e2_ := e2_.symm
  subst e1_
  subst e2_
  subst h9
  refine r_if_eq (tgt := 40) C (dk oX0_readFact 7 rfl) (by decide) (fun hb12 => ?_) (fun hb12 => ?_)
  · rw [b32_0, decide_eq_false_iff_not] at hb12
    refine hret (dk oX0_readFact 23 rfl) ?_
    first
      | exact ⟨rfl, Or.inl ⟨hb12, by
          rcases h4 with q | q
          · exact absurd q.1 hb12
          · exact q.2.2⟩⟩
      | exact ⟨h37.2.2, Or.inr ⟨hb12, (hI6 ▸ hR6).trans h37.1.G.R, by rw [h37.1.2 5 (by decide) (by decide) (by decide), emi_1, up2_ne (by decide)]; exact h5, h37.2.1, (hI6 ▸ hC6).ofG h37.1.G, by rw [h37.1.2 6 (by decide) (by decide) (by decide), emi_1, up2_ne (by decide)]⟩⟩
  · rw [b32_n, decide_eq_true_eq] at hb12
    have hfg := nmF_fig hb12
    have hlt : isLt (t s_) = false := by
      have := hfg.2.1
      simp only [isDg, decide_eq_true_eq] at this
      exact isLt_f (by omega)
    obtain ⟨-, er, eI⟩ : nmF t L s_ 0 11 = 0 ∧ r4 = nI (nmV t L s_) ∧ I4 = I := by
      rcases h4 with q | q
      · exact q
      · exact absurd hb12 q.1
    subst er
    have eI := eI.symm
    subst eI
    have hK : K.length < 120 := by
      rcases hK with q | q
      · exact q
      · exact absurd hb12 q
    refine r_iload_n C 0 (dk oX0_readFact 8 rfl) rfl ?_
    refine r_if_lt (tgt := 40) C (dk oX0_readFact 9 rfl) (by decide) (fun hb16 => absurd hb16 (nI_lt0 (by omega))) (fun hb16 => ?_)
    refine r_aload_n C 1 (dk oX0_readFact 10 rfl) rfl ?_
    refine r_dup C (dk oX0_readFact 11 rfl) rfl ?_
    refine r_getI C (dk oX0_readFact 12 rfl) fl_X0_23 rfl (kn hn rfl) ?_
    rw [hC.2.2.2]
    refine r_iconst C (dk oX0_readFact 13 rfl) (v := nI 1) (by decide) ?_
    refine r_iload_n C 0 (dk oX0_readFact 14 rfl) rfl ?_
    refine r_ishl C (dk oX0_readFact 15 rfl) ?_
    refine r_ior C (dk oX0_readFact 16 rfl) ?_
    rw [shl1 (by omega), fa_or]
    refine r_putI C (dk oX0_readFact 17 rfl) fl_X0_23 ft_0_4 rfl (kn hn rfl) ?_
    refine r_aload_n C 1 (dk oX0_readFact 18 rfl) rfl ?_
    refine r_iload_n C 0 (dk oX0_readFact 19 rfl) rfl ?_
    refine r_ivv C Z (dk oX0_readFact 20 rfl) cl_X0_71 ci_X0_emit rfl (kn hn rfl) (c_X0_emit hn _ J K.length (nmV t L s_) (by omega) (by rw [up2_off (by decide)]; exact hC.2.1)) rfl rfl (Nat.le_of_ble_eq_true rfl) ⟨Nat.le_of_ble_eq_true rfl, Nat.le_of_ble_eq_true rfl⟩ ⟨Nat.zero_le _, Nat.zero_le _⟩ (fun I33 J33 h33 => ?_)
    obtain ⟨e1_, e2_⟩ := h33
    have e1_ := e1_.symm
    have e2_ := e2_.symm
    subst e1_
    subst e2_
    generalize hI6 : emi (up2 I 3 4 (nI (fsN K ||| 2 ^ nmV t L s_))) K.length (nmV t L s_) = I6
    have hR6 : rdF I I6 := by
      rw [← hI6]
      exact rdF.trans ⟨fun k a b c => up2_ne b, by rw [up2_ne (by decide)], up2_off (by decide)⟩ (emi_R _ _ _)
    have hT6 := hT.ofR hR6
    have hC6 : Cd I6 (K ++ [nmV t L s_]) := by
      rw [← hI6]
      unfold emi
      rw [if_pos hK]
      refine ⟨by rw [List.length_append]; simp only [List.length_cons, List.length_nil]; omega, ?_, fun j hj => ?_, ?_⟩
      · rw [up2_at, List.length_append]; rfl
      · rw [up2_ne (by decide)]
        rw [List.length_append] at hj
        simp only [List.length_cons, List.length_nil] at hj
        rcases Nat.lt_or_ge j K.length with q | q
        · rw [up2_off (by omega), up2_ne (by decide), hC.2.2.1 j q]; simp [List.getD, List.getElem?_append_left q]
        · rw [show j = K.length by omega, up2_at]
          simp [List.getD]
      · rw [up2_off (by decide), up2_ne (by decide), up2_at, fsN_app, if_pos (by omega)]
    rw [← hI6] at hT6 ⊢
    refine r_aload_n C 2 (dk oX0_readFact 21 rfl) rfl ?_
    refine r_ivv C Z (dk oX0_readFact 22 rfl) cl_X0_54 ci_X8_next rfl (kn hn rfl) (c_X8_next hn _ J t L hT6 (nE t L s_) (nE_le hk.1) (by rw [emi_1, up2_ne (by decide), hk.2.2.2]; rw [(tkK_2 hfg.1 hlt hfg.2.1).2])) rfl rfl (Nat.le_of_ble_eq_true rfl) ⟨Nat.le_of_ble_eq_true rfl, Nat.le_of_ble_eq_true rfl⟩ ⟨Nat.zero_le _, Nat.zero_le _⟩ (fun I37 J37 h37 => ?_)
    refine hret (dk oX0_readFact 23 rfl) ?_
    first
      | exact ⟨rfl, Or.inl ⟨hb12, by
          rcases h4 with q | q
          · exact absurd q.1 hb12
          · exact q.2.2⟩⟩
      | exact ⟨h37.2.2, Or.inr ⟨hb12, (hI6 ▸ hR6).trans h37.1.G.R, by rw [h37.1.2 5 (by decide) (by decide) (by decide), emi_1, up2_ne (by decide)]; exact h5, h37.2.1, (hI6 ▸ hC6).ofG h37.1.G, by rw [h37.1.2 6 (by decide) (by decide) (by decide), emi_1, up2_ne (by decide)]⟩⟩

def RO (l : Launch) (n : Nat) (ad : Nat → Nat) (cA : Nat → ClassId) (D : va_G) (z : Zw) (k : Nat) : Prop := ∀ (I : MI) (J : MJ) (t : Nat → Nat) (L s_ : Nat) (W K : List Nat), rdP t L s_ W K (8 - k) I → Cv l n ad cA D z (6 + 3 * k) yX0_readOne cX0_readOne 4 I J [.ref (ad 3), .ref (ad 1), .int (nI (8 - k))] (fun I' J' => J' = J ∧ rdF I I' ∧ (rdBad t L (0, s_, W, K) I' ∨ rdOne t L s_ W K I'))
def RA (l : Launch) (n : Nat) (ad : Nat → Nat) (cA : Nat → ClassId) (D : va_G) (z : Zw) (k : Nat) : Prop := ∀ (I : MI) (J : MJ) (t : Nat → Nat) (L s_ : Nat) (W K : List Nat), topN (fun x => decide (x = 12)) W → topN (fun x => decide (x = 13)) W → rdP t L s_ W K (8 - k) I → Cv l n ad cA D z (7 + 3 * k) yX0_readAll cX0_readAll 4 I J [.ref (ad 3), .ref (ad 1), .int (nI (8 - k))] (fun I' J' => J' = J ∧ rdF I I' ∧ (rdBad t L (0, s_, W, K) I' ∨ rdAll t L s_ W K I'))
def RY (l : Launch) (n : Nat) (ad : Nat → Nat) (cA : Nat → ClassId) (D : va_G) (z : Zw) (k : Nat) : Prop := ∀ (I : MI) (J : MJ) (t : Nat → Nat) (L s_ : Nat) (W K : List Nat), topN (fun x => decide (x = 12)) W → topN (fun x => decide (x = 13 ∨ x = 14)) W → rdP t L s_ W K (8 - k) I → Cv l n ad cA D z (8 + 3 * k) yX0_readAny cX0_readAny 4 I J [.ref (ad 3), .ref (ad 1), .int (nI (8 - k))] (fun I' J' => J' = J ∧ rdF I I' ∧ (rdBad t L (0, s_, W, K) I' ∨ rdAny t L s_ W K I'))
set_option maxHeartbeats 1000000 in
set_option maxRecDepth 100000 in
theorem c_X0_readOne_at (hn : 117 ≤ n) (k_ : Nat) (hk8 : k_ ≤ 8) (hO : k_ = 0 ∨ (RO l n ad cA D z (k_ - 1) ∧ RY l n ad cA D z (k_ - 1))) (I : MI) (J : MJ) (t : Nat → Nat) (L s_ : Nat) (W K : List Nat) (hp : rdP t L s_ W K (8 - k_) I) : Cv l n ad cA D z (6 + 3 * k_) yX0_readOne cX0_readOne 4 I J [.ref (ad 3), .ref (ad 1), .int (nI (8 - k_))] (fun I' J' => J' = J ∧ rdF I I' ∧ (rdBad t L (0, s_, W, K) I' ∨ rdOne t L s_ W K I')) := by
  refine Cv.of (by decide) (Nat.le_of_ble_eq_true rfl) ?_
  intro p e s m args below meth c A C hin Z Q hret
  obtain ⟨hT, hL, hk, h5, hC, hM, hW, h6⟩ := hp
  have hnot : sWd 3 = wNot := rfl
  refine r_aload_n C 1 (dk oX0_readOne 0 rfl) rfl ?_
  refine r_ldcS C (dk oX0_readOne 1 rfl) (Z.2.1 3 (by decide)) ?_
  refine r_ivi C Z (dk oX0_readOne 2 rfl) cl_X0_81 ci_X8_isWord rfl (kn hn rfl) (c_X8_isWord hn I J t L hT s_ 3 (by decide) hk) rfl rfl (Nat.le_of_ble_eq_true rfl) (rmR (by omega) (by decide)) ⟨Nat.zero_le _, Nat.zero_le _⟩ (fun r3 I3 J3 h3 => ?_)
  obtain ⟨h3, e1_, e2_⟩ := h3
  have e1_ := e1_.symm
  have e2_ := e2_.symm
  subst e1_
  subst e2_
  subst h3
  rw [hnot]
  refine r_istore_n (lo' := [(3, _), (0, _), (1, _), (2, _)]) C (dk oX0_readOne 3 rfl) rfl (by decide) rfl ?_
  refine r_iload_n C 0 (dk oX0_readOne 4 rfl) rfl ?_
  refine r_if_ne (tgt := 26) C (dk oX0_readOne 5 rfl) (by decide) (fun hb8 => ?_) (fun hb8 => ?_)
  · rw [b32_n] at hb8
    refine r_iload_n C 3 (dk oX0_readOne 14 rfl) rfl ?_
    refine r_bipush C (dk oX0_readOne 15 rfl) (v := nI 8) (by decide) ?_
    refine r_icmp_lt (tgt := 38) C (dk oX0_readOne 16 rfl) (by decide) (fun hb29 => ?_) (fun hb29 => ?_)
    · simp (disch := omega) only [nI_leI, nI_ltI, nI_eq, nI_eq0] at hb29
      refine r_aload_n C 2 (dk oX0_readOne 21 rfl) rfl ?_
      refine r_ivv C Z (dk oX0_readOne 22 rfl) cl_X0_54 ci_X8_next rfl (kn hn rfl) (c_X8_next hn I J t L hT (tkE t L s_) (tkE_le hk.1) hk.2.2.2) rfl rfl (Nat.le_of_ble_eq_true rfl) (rmR (by omega) (by decide)) ⟨Nat.zero_le _, Nat.zero_le _⟩ (fun I39 J39 h39 => ?_)
      obtain ⟨hF9, hk9, e2_⟩ := h39
      have e2_ := e2_.symm
      subst e2_
      have hk9n : isW t L s_ wNot = true → Tk I39 t L (sk t L (s_ + 3)) := fun hw => by
        have e1 := (of_decide_eq_true hw).1
        have e2 : wNot.length = 3 := rfl
        have h2 : s_ < L ∧ isLt (t s_) = true := runTo_all (q := fun i => isLt (t i)) 0 s_ s_ (by omega) (by omega) (show s_ < wE t L s_ by omega)
        rw [(tkK_1 h2.1 h2.2).2, e1] at hk9
        exact hk9
      have hk9s : isS t L s_ 40 = true → Tk I39 t L (sk t L (s_ + 1)) := fun hw => by
        have e1 := of_decide_eq_true hw
        rw [(tkK_3 e1.1 (by rw [e1.2]; decide) (by rw [e1.2]; decide)).2] at hk9
        exact hk9
      refine r_iload_n C 0 (dk oX0_readOne 23 rfl) rfl ?_
      refine r_if_eq (tgt := 61) C (dk oX0_readOne 24 rfl) (by decide) (fun hb43 => ?_) (fun hb43 => ?_)
      · rw [b32_0] at hb43
        refine r_aload_n C 1 (dk oX0_readOne 35 rfl) rfl ?_
        refine r_aload_n C 2 (dk oX0_readOne 36 rfl) rfl ?_
        refine r_iload_n C 3 (dk oX0_readOne 37 rfl) rfl ?_
        refine r_iconst C (dk oX0_readOne 38 rfl) (v := nI 1) (by decide) ?_
        refine r_iadd C (dk oX0_readOne 39 rfl) ?_
        rw [nI_add, show 8 - k_ + 1 = 8 - (k_ - 1) by omega]
        have hs40 : isS t L s_ 40 = true := by first | assumption | (rw [hb8] at hb43; cases hb43)
        replace hk9s := hk9s hs40
        refine r_isv C Z (dk oX0_readOne 40 rfl) cl_X0_59 st_X0_readAny ((hO.resolve_left (by omega)).2 I39 J t L (sk t L (s_ + 1)) (15 :: W) K (topN_cons rfl) (topN_cons rfl) ⟨hT.ofG hF9.G, hL, hk9s, by rw [hF9.2 5 (by decide) (by decide) (by decide)]; exact h5, hC.ofG hF9.G, by rw [← stp_open (W := W) (K := K) hs40 (by omega)]; exact stp_ok hM, by rw [opens_15]; omega, by rw [hF9.2 6 (by decide) (by decide) (by decide)]; exact h6⟩) rfl rfl (Nat.le_of_ble_eq_true rfl) (rmR (by omega) (by decide)) ⟨Nat.zero_le _, Nat.zero_le _⟩ (fun I66 J66 h66 => ?_)
        obtain ⟨e2_, hR66, h66⟩ := h66
        have e2_ := e2_.symm
        subst e2_
        obtain ⟨fn, hfn, hf5, hbad, hok⟩ : ∃ fn, fn < 4 ∧ I66 1 5 = nI fn ∧ (fn ≠ 0 → rdBad t L (0, sk t L (s_ + 1), 15 :: W, K) I66) ∧ (fn = 0 → rdAny t L (sk t L (s_ + 1)) (15 :: W) K I66) := by
          rcases h66 with q | q
          · obtain ⟨f, s2, W2, C2, g1, g2, g3, g4⟩ := q.1
            exact ⟨f, g2, g3, fun _ => q, fun e => by omega⟩
          · exact ⟨0, by decide, by obtain ⟨s2, c2, W2, C2, g1, -⟩ := q; exact g1, fun e => absurd rfl e, fun _ => q⟩
        obtain ⟨s2, hs2⟩ : ∃ s2, fn = 0 → Tk I66 t L s2 := by
          by_cases e : fn = 0
          · obtain ⟨s2, c2, W2, C2, g1, g2, -⟩ := hok e
            exact ⟨s2, fun _ => g2⟩
          · exact ⟨0, fun q => absurd q e⟩
        have hT66 := (hT.ofG hF9.G).ofR hR66
        refine r_aload_n C 2 (dk oX0_readOne 41 rfl) rfl ?_
        refine r_bipush C (dk oX0_readOne 42 rfl) (v := nI 41) (by decide) ?_
        refine r_ivi C Z (dk oX0_readOne 43 rfl) cl_X0_92 ci_X8_takesSign rfl (kn hn rfl) (c_X8_takesSign hn I66 J t L hT66 s2 41 fn (by omega) hf5 hs2 (by decide) (by decide) (by decide)) rfl rfl (Nat.le_of_ble_eq_true rfl) (rmR (by omega) (by decide)) ⟨Nat.zero_le _, Nat.zero_le _⟩ (fun r72 I72 J72 h72 => ?_)
        refine r_if_ne (tgt := 83) C (dk oX0_readOne 44 rfl) (by decide) (fun hb75 => ?_) (fun hb75 => ?_)
        · have h72 : fn = 0 ∧ isS t L s2 41 = true ∧ txF I66 I72 ∧ Tk I72 t L (sk t L (s2 + 1)) ∧ J72 = J := by
            rcases h72 with ⟨q1, q2, q3, q4⟩ | ⟨q1, q2, q3⟩
            · exact ⟨q1, q2, q4⟩
            · rw [q2] at hb75; exact absurd rfl hb75
          refine hret (dk oX0_readOne 48 rfl) ?_
          have hst := stp_open (W := W) (K := K) hs40 (by omega)
          first
            | (obtain ⟨e0, g1, g2, g3, e2_⟩ := h72
               obtain ⟨s4, c2, W2, C2, q1, q2, q3, q4, q5, q6, q7, q8, q9⟩ := hok e0
               have es : s4 = s2 := by
                 have e := q2.2.2.1.symm.trans (hs2 e0).2.2.1
                 have a1 := q2.1
                 have a2 := (hs2 e0).1
                 rwa [nI_eq (by omega) (by omega)] at e
               subst es
               refine ⟨e2_, (hF9.G.R.trans hR66).trans g2.G.R, Or.inr ⟨_, c2, by rw [g2.2 5 (by decide) (by decide) (by decide)]; exact q1, g3, q3.ofG g2.G, ?_, ((rch.one hst).trans q5).then (stp_close g1 q6), by rw [g2.2 6 (by decide) (by decide) (by decide)]; exact q9⟩⟩
               have := @sk_ge t L (s_ + 1)
               have := @sk_ge t L (s4 + 1)
               omega)
            | (by_cases e0 : fn = 0
               · obtain ⟨s4, c2, W2, C2, p1, p2, p3, p4, p5, p6, p7, p8, p9⟩ := hok e0
                 have es : s4 = s2 := by
                   have e := p2.2.2.1.symm.trans (hs2 e0).2.2.1
                   have a1 := p2.1
                   have a2 := (hs2 e0).1
                   rwa [nI_eq (by omega) (by omega)] at e
                 subst es
                 rw [if_pos e0]
                 have e3 : I66 1 3 = nI s4 := p2.2.2.1
                 have es : flt I66 1 s3_ = flt I66 1 s4 := by unfold flt; rw [← h3_, e3]
                 rw [es]
                 refine ⟨rfl, (hF9.G.R.trans hR66).trans (flt_G _ _ _).R, Or.inl ⟨⟨1, s4, 15 :: W, K ++ c2, by decide, by decide, flt_5 _ _ _, flt_6 _ _ _, ((rch.one hst).trans p5).then ?_⟩, _, p3.1, by rw [(flt_G _ _ _).1 3 (by decide)]; exact p3.2.1⟩⟩
                 rw [stp_end (by cases hq : isS t L s4 41 with | true => exact absurd ⟨e0, hq⟩ q1 | false => rfl) p7 p8 p6, if_neg (by rintro ⟨-, e⟩; cases e)]
               · rw [if_neg e0]
                 exact ⟨rfl, hF9.G.R.trans hR66, Or.inl ((hbad e0).to (rch.one hst))⟩)
        · obtain ⟨q1, e1_, e2_⟩ : ¬ (fn = 0 ∧ isS t L s2 41 = true) ∧ I72 = I66 ∧ J72 = J := by
            rcases h72 with ⟨q1, q2, q3, q4⟩ | ⟨q1, q2, q3⟩
            · rw [q3] at hb75; exact absurd hb75 (by decide)
            · exact ⟨q1, q3⟩
          have e1_ := e1_.symm
          have e2_ := e2_.symm
          subst e1_
          subst e2_
          obtain ⟨s3_, h3_⟩ : ∃ s3, I66 1 3 = nI s3 := ⟨(I66 1 3).toBitVec.toNat, (Int32.toBitVec_inj.1 (by show _ = BitVec.ofNat 32 _; rw [BitVec.ofNat_toNat]; simp))⟩
          refine r_aload_n C 2 (dk oX0_readOne 45 rfl) rfl ?_
          refine r_iconst C (dk oX0_readOne 46 rfl) (v := nI 1) (by decide) ?_
          refine r_ivv C Z (dk oX0_readOne 47 rfl) cl_X0_39 ci_X8_fail rfl (kn hn rfl) (c_X8_fail hn I66 J 1 fn s3_ (by omega) hf5 h3_) rfl rfl (Nat.le_of_ble_eq_true rfl) (rmR (by omega) (by decide)) ⟨Nat.zero_le _, Nat.zero_le _⟩ (fun I80 J80 h80 => ?_)
          obtain ⟨e1_, e2_⟩ := h80
          have e1_ := e1_.symm
          have e2_ := e2_.symm
          subst e1_
          subst e2_
          refine hret (dk oX0_readOne 48 rfl) ?_
          have hst := stp_open (W := W) (K := K) hs40 (by omega)
          first
            | (obtain ⟨e0, g1, g2, g3, e2_⟩ := h72
               obtain ⟨s4, c2, W2, C2, q1, q2, q3, q4, q5, q6, q7, q8, q9⟩ := hok e0
               have es : s4 = s2 := by
                 have e := q2.2.2.1.symm.trans (hs2 e0).2.2.1
                 have a1 := q2.1
                 have a2 := (hs2 e0).1
                 rwa [nI_eq (by omega) (by omega)] at e
               subst es
               refine ⟨e2_, (hF9.G.R.trans hR66).trans g2.G.R, Or.inr ⟨_, c2, by rw [g2.2 5 (by decide) (by decide) (by decide)]; exact q1, g3, q3.ofG g2.G, ?_, ((rch.one hst).trans q5).then (stp_close g1 q6), by rw [g2.2 6 (by decide) (by decide) (by decide)]; exact q9⟩⟩
               have := @sk_ge t L (s_ + 1)
               have := @sk_ge t L (s4 + 1)
               omega)
            | (by_cases e0 : fn = 0
               · obtain ⟨s4, c2, W2, C2, p1, p2, p3, p4, p5, p6, p7, p8, p9⟩ := hok e0
                 have es : s4 = s2 := by
                   have e := p2.2.2.1.symm.trans (hs2 e0).2.2.1
                   have a1 := p2.1
                   have a2 := (hs2 e0).1
                   rwa [nI_eq (by omega) (by omega)] at e
                 subst es
                 rw [if_pos e0]
                 have e3 : I66 1 3 = nI s4 := p2.2.2.1
                 have es : flt I66 1 s3_ = flt I66 1 s4 := by unfold flt; rw [← h3_, e3]
                 rw [es]
                 refine ⟨rfl, (hF9.G.R.trans hR66).trans (flt_G _ _ _).R, Or.inl ⟨⟨1, s4, 15 :: W, K ++ c2, by decide, by decide, flt_5 _ _ _, flt_6 _ _ _, ((rch.one hst).trans p5).then ?_⟩, _, p3.1, by rw [(flt_G _ _ _).1 3 (by decide)]; exact p3.2.1⟩⟩
                 rw [stp_end (by cases hq : isS t L s4 41 with | true => exact absurd ⟨e0, hq⟩ q1 | false => rfl) p7 p8 p6, if_neg (by rintro ⟨-, e⟩; cases e)]
               · rw [if_neg e0]
                 exact ⟨rfl, hF9.G.R.trans hR66, Or.inl ((hbad e0).to (rch.one hst))⟩)
      · rw [b32_n] at hb43
        refine r_aload_n C 1 (dk oX0_readOne 25 rfl) rfl ?_
        refine r_aload_n C 2 (dk oX0_readOne 26 rfl) rfl ?_
        refine r_iload_n C 3 (dk oX0_readOne 27 rfl) rfl ?_
        refine r_iconst C (dk oX0_readOne 28 rfl) (v := nI 1) (by decide) ?_
        refine r_iadd C (dk oX0_readOne 29 rfl) ?_
        rw [nI_add, show 8 - k_ + 1 = 8 - (k_ - 1) by omega]
        have hw : isW t L s_ wNot = true := by first | assumption | (rw [hb8] at hb43; cases hb43)
        replace hk9n := hk9n hw
        refine r_isv C Z (dk oX0_readOne 30 rfl) cl_X0_74 st_X0_readOne ((hO.resolve_left (by omega)).1 I39 J t L (sk t L (s_ + 3)) (12 :: W) K ⟨hT.ofG hF9.G, hL, hk9n, by rw [hF9.2 5 (by decide) (by decide) (by decide)]; exact h5, hC.ofG hF9.G, by rw [← stp_not (K := K) hw (by omega)]; exact stp_ok hM, by rw [opens_12]; omega, by rw [hF9.2 6 (by decide) (by decide) (by decide)]; exact h6⟩) rfl rfl (Nat.le_of_ble_eq_true rfl) (rmR (by omega) (by decide)) ⟨Nat.zero_le _, Nat.zero_le _⟩ (fun I51 J51 h51 => ?_)
        obtain ⟨e2_, hR51, h51⟩ := h51
        have e2_ := e2_.symm
        subst e2_
        have hz51 : ∃ k2, k2 ≤ 120 ∧ I51 3 2 = nI k2 := by
          rcases h51 with q | ⟨s2, c2, q1, q2, q3, -⟩
          · exact q.2
          · exact ⟨_, q3.1, q3.2.1⟩
        obtain ⟨k2, hk2, hz51⟩ := hz51
        refine r_aload_n C 1 (dk oX0_readOne 31 rfl) rfl ?_
        refine r_bipush C (dk oX0_readOne 32 rfl) (v := nI 12) (by decide) ?_
        refine r_ivv C Z (dk oX0_readOne 33 rfl) cl_X0_71 ci_X0_emit rfl (kn hn rfl) (c_X0_emit hn I51 J k2 12 hk2 hz51) rfl rfl (Nat.le_of_ble_eq_true rfl) (rmR (by omega) (by decide)) ⟨Nat.zero_le _, Nat.zero_le _⟩ (fun I57 J57 h57 => ?_)
        obtain ⟨e1_, e2_⟩ := h57
        have e1_ := e1_.symm
        have e2_ := e2_.symm
        subst e1_
        subst e2_
        refine hret (dk oX0_readOne 34 rfl) ?_
        refine ⟨rfl, (hF9.G.R.trans hR51).trans (emi_R _ _ _), ?_⟩
        have hst := stp_not (W := W) (K := K) hw (by omega)
        rcases h51 with q | ⟨s2, c2, q1, q2, q3, q4, q5, q6⟩
        · exact Or.inl ((q.to (rch.one hst)).em hz51 hk2)
        · have hM2 : mOK L (1, s2, clW (12 :: W) (K ++ c2)) := rch_ok (by rw [← hst]; exact stp_ok hM) q5
          have e12 : clW (12 :: W) (K ++ c2) = clW W (K ++ c2 ++ [12]) := popB_t (by decide)
          rw [e12] at hM2 q5
          have a1 := hM2.2.1
          have a2 := hM2.1
          have a3 := popB_len (q := fun x => decide (x = 12)) W (K ++ c2 ++ [12])
          have a4 : (clW W (K ++ c2 ++ [12])).2.length + nops (clW W (K ++ c2 ++ [12])).1 ≤ s2 := a1
          have a5 : s2 ≤ L := a2
          have a6 : (K ++ c2 ++ [12]).length ≤ (clW W (K ++ c2 ++ [12])).2.length := a3
          rw [List.length_append] at a6
          simp only [List.length_cons, List.length_nil] at a6
          have ek : k2 = (K ++ c2).length := by
            have e := hz51.symm.trans q3.2.1
            rwa [nI_eq (by omega) (by omega)] at e
          subst ek
          have hc := q3.em (x := 12) (by omega) (by decide)
          rw [List.append_assoc] at hc q5
          refine Or.inr ⟨s2, c2 ++ [12], by rw [emi_1]; exact q1, q2.of1 (emi_1 _ _ _), hc, ?_, (rch.one hst).trans q5, by rw [emi_1]; exact q6⟩
          have := @sk_ge t L (s_ + 3)
          omega
    · simp (disch := omega) only [nI_leI, nI_ltI, nI_eq, nI_eq0] at hb29
      refine r_aload_n C 2 (dk oX0_readOne 17 rfl) rfl ?_
      refine r_iconst C (dk oX0_readOne 18 rfl) (v := nI 3) (by decide) ?_
      refine r_ivv C Z (dk oX0_readOne 19 rfl) cl_X0_39 ci_X8_fail rfl (kn hn rfl) (c_X8_fail hn I J 3 0 s_ (by decide) h5 hk.2.2.1) rfl rfl (Nat.le_of_ble_eq_true rfl) (rmR (by omega) (by decide)) ⟨Nat.zero_le _, Nat.zero_le _⟩ (fun I34 J34 h34 => ?_)
      obtain ⟨e1_, e2_⟩ := h34
      rw [if_pos rfl] at e1_
      have e1_ := e1_.symm
      have e2_ := e2_.symm
      subst e1_
      subst e2_
      refine hret (dk oX0_readOne 20 rfl) ?_
      refine ⟨rfl, (flt_G _ _ _).R, Or.inl ⟨⟨3, s_, W, K, by decide, by decide, flt_5 _ _ _, flt_6 _ _ _, ?_⟩, K.length, hC.1, by rw [(flt_G _ _ _).1 3 (by decide)]; exact hC.2.1⟩⟩
      first | exact rch.one (stp_notF (by assumption) (by omega)) | exact rch.one (stp_openF (by assumption) (by omega))
  · rw [b32_0] at hb8
    refine r_aload_n C 2 (dk oX0_readOne 6 rfl) rfl ?_
    refine r_bipush C (dk oX0_readOne 7 rfl) (v := nI 40) (by decide) ?_
    refine r_ivi C Z (dk oX0_readOne 8 rfl) cl_X0_84 ci_X8_isSign rfl (kn hn rfl) (c_X8_isSign hn I J t L hT s_ 40 hk (by decide) (by decide) (by decide)) rfl rfl (Nat.le_of_ble_eq_true rfl) (rmR (by omega) (by decide)) ⟨Nat.zero_le _, Nat.zero_le _⟩ (fun r14 I14 J14 h14 => ?_)
    obtain ⟨h14, e1_, e2_⟩ := h14
    have e1_ := e1_.symm
    have e2_ := e2_.symm
    subst e1_
    subst e2_
    subst h14
    refine r_if_ne (tgt := 26) C (dk oX0_readOne 9 rfl) (by decide) (fun hb17 => ?_) (fun hb17 => ?_)
    · rw [b32_n] at hb17
      refine r_iload_n C 3 (dk oX0_readOne 14 rfl) rfl ?_
      refine r_bipush C (dk oX0_readOne 15 rfl) (v := nI 8) (by decide) ?_
      refine r_icmp_lt (tgt := 38) C (dk oX0_readOne 16 rfl) (by decide) (fun hb29 => ?_) (fun hb29 => ?_)
      · simp (disch := omega) only [nI_leI, nI_ltI, nI_eq, nI_eq0] at hb29
        refine r_aload_n C 2 (dk oX0_readOne 21 rfl) rfl ?_
        refine r_ivv C Z (dk oX0_readOne 22 rfl) cl_X0_54 ci_X8_next rfl (kn hn rfl) (c_X8_next hn I J t L hT (tkE t L s_) (tkE_le hk.1) hk.2.2.2) rfl rfl (Nat.le_of_ble_eq_true rfl) (rmR (by omega) (by decide)) ⟨Nat.zero_le _, Nat.zero_le _⟩ (fun I39 J39 h39 => ?_)
        obtain ⟨hF9, hk9, e2_⟩ := h39
        have e2_ := e2_.symm
        subst e2_
        have hk9n : isW t L s_ wNot = true → Tk I39 t L (sk t L (s_ + 3)) := fun hw => by
          have e1 := (of_decide_eq_true hw).1
          have e2 : wNot.length = 3 := rfl
          have h2 : s_ < L ∧ isLt (t s_) = true := runTo_all (q := fun i => isLt (t i)) 0 s_ s_ (by omega) (by omega) (show s_ < wE t L s_ by omega)
          rw [(tkK_1 h2.1 h2.2).2, e1] at hk9
          exact hk9
        have hk9s : isS t L s_ 40 = true → Tk I39 t L (sk t L (s_ + 1)) := fun hw => by
          have e1 := of_decide_eq_true hw
          rw [(tkK_3 e1.1 (by rw [e1.2]; decide) (by rw [e1.2]; decide)).2] at hk9
          exact hk9
        refine r_iload_n C 0 (dk oX0_readOne 23 rfl) rfl ?_
        refine r_if_eq (tgt := 61) C (dk oX0_readOne 24 rfl) (by decide) (fun hb43 => ?_) (fun hb43 => ?_)
        · rw [b32_0] at hb43
          refine r_aload_n C 1 (dk oX0_readOne 35 rfl) rfl ?_
          refine r_aload_n C 2 (dk oX0_readOne 36 rfl) rfl ?_
          refine r_iload_n C 3 (dk oX0_readOne 37 rfl) rfl ?_
          refine r_iconst C (dk oX0_readOne 38 rfl) (v := nI 1) (by decide) ?_
          refine r_iadd C (dk oX0_readOne 39 rfl) ?_
          rw [nI_add, show 8 - k_ + 1 = 8 - (k_ - 1) by omega]
          have hs40 : isS t L s_ 40 = true := by first | assumption | (rw [hb8] at hb43; cases hb43)
          replace hk9s := hk9s hs40
          refine r_isv C Z (dk oX0_readOne 40 rfl) cl_X0_59 st_X0_readAny ((hO.resolve_left (by omega)).2 I39 J t L (sk t L (s_ + 1)) (15 :: W) K (topN_cons rfl) (topN_cons rfl) ⟨hT.ofG hF9.G, hL, hk9s, by rw [hF9.2 5 (by decide) (by decide) (by decide)]; exact h5, hC.ofG hF9.G, by rw [← stp_open (W := W) (K := K) hs40 (by omega)]; exact stp_ok hM, by rw [opens_15]; omega, by rw [hF9.2 6 (by decide) (by decide) (by decide)]; exact h6⟩) rfl rfl (Nat.le_of_ble_eq_true rfl) (rmR (by omega) (by decide)) ⟨Nat.zero_le _, Nat.zero_le _⟩ (fun I66 J66 h66 => ?_)
          obtain ⟨e2_, hR66, h66⟩ := h66
          have e2_ := e2_.symm
          subst e2_
          obtain ⟨fn, hfn, hf5, hbad, hok⟩ : ∃ fn, fn < 4 ∧ I66 1 5 = nI fn ∧ (fn ≠ 0 → rdBad t L (0, sk t L (s_ + 1), 15 :: W, K) I66) ∧ (fn = 0 → rdAny t L (sk t L (s_ + 1)) (15 :: W) K I66) := by
            rcases h66 with q | q
            · obtain ⟨f, s2, W2, C2, g1, g2, g3, g4⟩ := q.1
              exact ⟨f, g2, g3, fun _ => q, fun e => by omega⟩
            · exact ⟨0, by decide, by obtain ⟨s2, c2, W2, C2, g1, -⟩ := q; exact g1, fun e => absurd rfl e, fun _ => q⟩
          obtain ⟨s2, hs2⟩ : ∃ s2, fn = 0 → Tk I66 t L s2 := by
            by_cases e : fn = 0
            · obtain ⟨s2, c2, W2, C2, g1, g2, -⟩ := hok e
              exact ⟨s2, fun _ => g2⟩
            · exact ⟨0, fun q => absurd q e⟩
          have hT66 := (hT.ofG hF9.G).ofR hR66
          refine r_aload_n C 2 (dk oX0_readOne 41 rfl) rfl ?_
          refine r_bipush C (dk oX0_readOne 42 rfl) (v := nI 41) (by decide) ?_
          refine r_ivi C Z (dk oX0_readOne 43 rfl) cl_X0_92 ci_X8_takesSign rfl (kn hn rfl) (c_X8_takesSign hn I66 J t L hT66 s2 41 fn (by omega) hf5 hs2 (by decide) (by decide) (by decide)) rfl rfl (Nat.le_of_ble_eq_true rfl) (rmR (by omega) (by decide)) ⟨Nat.zero_le _, Nat.zero_le _⟩ (fun r72 I72 J72 h72 => ?_)
          refine r_if_ne (tgt := 83) C (dk oX0_readOne 44 rfl) (by decide) (fun hb75 => ?_) (fun hb75 => ?_)
          · have h72 : fn = 0 ∧ isS t L s2 41 = true ∧ txF I66 I72 ∧ Tk I72 t L (sk t L (s2 + 1)) ∧ J72 = J := by
              rcases h72 with ⟨q1, q2, q3, q4⟩ | ⟨q1, q2, q3⟩
              · exact ⟨q1, q2, q4⟩
              · rw [q2] at hb75; exact absurd rfl hb75
            refine hret (dk oX0_readOne 48 rfl) ?_
            have hst := stp_open (W := W) (K := K) hs40 (by omega)
            first
              | (obtain ⟨e0, g1, g2, g3, e2_⟩ := h72
                 obtain ⟨s4, c2, W2, C2, q1, q2, q3, q4, q5, q6, q7, q8, q9⟩ := hok e0
                 have es : s4 = s2 := by
                   have e := q2.2.2.1.symm.trans (hs2 e0).2.2.1
                   have a1 := q2.1
                   have a2 := (hs2 e0).1
                   rwa [nI_eq (by omega) (by omega)] at e
                 subst es
                 refine ⟨e2_, (hF9.G.R.trans hR66).trans g2.G.R, Or.inr ⟨_, c2, by rw [g2.2 5 (by decide) (by decide) (by decide)]; exact q1, g3, q3.ofG g2.G, ?_, ((rch.one hst).trans q5).then (stp_close g1 q6), by rw [g2.2 6 (by decide) (by decide) (by decide)]; exact q9⟩⟩
                 have := @sk_ge t L (s_ + 1)
                 have := @sk_ge t L (s4 + 1)
                 omega)
              | (by_cases e0 : fn = 0
                 · obtain ⟨s4, c2, W2, C2, p1, p2, p3, p4, p5, p6, p7, p8, p9⟩ := hok e0
                   have es : s4 = s2 := by
                     have e := p2.2.2.1.symm.trans (hs2 e0).2.2.1
                     have a1 := p2.1
                     have a2 := (hs2 e0).1
                     rwa [nI_eq (by omega) (by omega)] at e
                   subst es
                   rw [if_pos e0]
                   have e3 : I66 1 3 = nI s4 := p2.2.2.1
                   have es : flt I66 1 s3_ = flt I66 1 s4 := by unfold flt; rw [← h3_, e3]
                   rw [es]
                   refine ⟨rfl, (hF9.G.R.trans hR66).trans (flt_G _ _ _).R, Or.inl ⟨⟨1, s4, 15 :: W, K ++ c2, by decide, by decide, flt_5 _ _ _, flt_6 _ _ _, ((rch.one hst).trans p5).then ?_⟩, _, p3.1, by rw [(flt_G _ _ _).1 3 (by decide)]; exact p3.2.1⟩⟩
                   rw [stp_end (by cases hq : isS t L s4 41 with | true => exact absurd ⟨e0, hq⟩ q1 | false => rfl) p7 p8 p6, if_neg (by rintro ⟨-, e⟩; cases e)]
                 · rw [if_neg e0]
                   exact ⟨rfl, hF9.G.R.trans hR66, Or.inl ((hbad e0).to (rch.one hst))⟩)
          · obtain ⟨q1, e1_, e2_⟩ : ¬ (fn = 0 ∧ isS t L s2 41 = true) ∧ I72 = I66 ∧ J72 = J := by
              rcases h72 with ⟨q1, q2, q3, q4⟩ | ⟨q1, q2, q3⟩
              · rw [q3] at hb75; exact absurd hb75 (by decide)
              · exact ⟨q1, q3⟩
            have e1_ := e1_.symm
            have e2_ := e2_.symm
            subst e1_
            subst e2_
            obtain ⟨s3_, h3_⟩ : ∃ s3, I66 1 3 = nI s3 := ⟨(I66 1 3).toBitVec.toNat, (Int32.toBitVec_inj.1 (by show _ = BitVec.ofNat 32 _; rw [BitVec.ofNat_toNat]; simp))⟩
            refine r_aload_n C 2 (dk oX0_readOne 45 rfl) rfl ?_
            refine r_iconst C (dk oX0_readOne 46 rfl) (v := nI 1) (by decide) ?_
            refine r_ivv C Z (dk oX0_readOne 47 rfl) cl_X0_39 ci_X8_fail rfl (kn hn rfl) (c_X8_fail hn I66 J 1 fn s3_ (by omega) hf5 h3_) rfl rfl (Nat.le_of_ble_eq_true rfl) (rmR (by omega) (by decide)) ⟨Nat.zero_le _, Nat.zero_le _⟩ (fun I80 J80 h80 => ?_)
            obtain ⟨e1_, e2_⟩ := h80
            have e1_ := e1_.symm
            have e2_ := e2_.symm
            subst e1_
            subst e2_
            refine hret (dk oX0_readOne 48 rfl) ?_
            have hst := stp_open (W := W) (K := K) hs40 (by omega)
            first
              | (obtain ⟨e0, g1, g2, g3, e2_⟩ := h72
                 obtain ⟨s4, c2, W2, C2, q1, q2, q3, q4, q5, q6, q7, q8, q9⟩ := hok e0
                 have es : s4 = s2 := by
                   have e := q2.2.2.1.symm.trans (hs2 e0).2.2.1
                   have a1 := q2.1
                   have a2 := (hs2 e0).1
                   rwa [nI_eq (by omega) (by omega)] at e
                 subst es
                 refine ⟨e2_, (hF9.G.R.trans hR66).trans g2.G.R, Or.inr ⟨_, c2, by rw [g2.2 5 (by decide) (by decide) (by decide)]; exact q1, g3, q3.ofG g2.G, ?_, ((rch.one hst).trans q5).then (stp_close g1 q6), by rw [g2.2 6 (by decide) (by decide) (by decide)]; exact q9⟩⟩
                 have := @sk_ge t L (s_ + 1)
                 have := @sk_ge t L (s4 + 1)
                 omega)
              | (by_cases e0 : fn = 0
                 · obtain ⟨s4, c2, W2, C2, p1, p2, p3, p4, p5, p6, p7, p8, p9⟩ := hok e0
                   have es : s4 = s2 := by
                     have e := p2.2.2.1.symm.trans (hs2 e0).2.2.1
                     have a1 := p2.1
                     have a2 := (hs2 e0).1
                     rwa [nI_eq (by omega) (by omega)] at e
                   subst es
                   rw [if_pos e0]
                   have e3 : I66 1 3 = nI s4 := p2.2.2.1
                   have es : flt I66 1 s3_ = flt I66 1 s4 := by unfold flt; rw [← h3_, e3]
                   rw [es]
                   refine ⟨rfl, (hF9.G.R.trans hR66).trans (flt_G _ _ _).R, Or.inl ⟨⟨1, s4, 15 :: W, K ++ c2, by decide, by decide, flt_5 _ _ _, flt_6 _ _ _, ((rch.one hst).trans p5).then ?_⟩, _, p3.1, by rw [(flt_G _ _ _).1 3 (by decide)]; exact p3.2.1⟩⟩
                   rw [stp_end (by cases hq : isS t L s4 41 with | true => exact absurd ⟨e0, hq⟩ q1 | false => rfl) p7 p8 p6, if_neg (by rintro ⟨-, e⟩; cases e)]
                 · rw [if_neg e0]
                   exact ⟨rfl, hF9.G.R.trans hR66, Or.inl ((hbad e0).to (rch.one hst))⟩)
        · rw [b32_n] at hb43
          refine r_aload_n C 1 (dk oX0_readOne 25 rfl) rfl ?_
          refine r_aload_n C 2 (dk oX0_readOne 26 rfl) rfl ?_
          refine r_iload_n C 3 (dk oX0_readOne 27 rfl) rfl ?_
          refine r_iconst C (dk oX0_readOne 28 rfl) (v := nI 1) (by decide) ?_
          refine r_iadd C (dk oX0_readOne 29 rfl) ?_
          rw [nI_add, show 8 - k_ + 1 = 8 - (k_ - 1) by omega]
          have hw : isW t L s_ wNot = true := by first | assumption | (rw [hb8] at hb43; cases hb43)
          replace hk9n := hk9n hw
          refine r_isv C Z (dk oX0_readOne 30 rfl) cl_X0_74 st_X0_readOne ((hO.resolve_left (by omega)).1 I39 J t L (sk t L (s_ + 3)) (12 :: W) K ⟨hT.ofG hF9.G, hL, hk9n, by rw [hF9.2 5 (by decide) (by decide) (by decide)]; exact h5, hC.ofG hF9.G, by rw [← stp_not (K := K) hw (by omega)]; exact stp_ok hM, by rw [opens_12]; omega, by rw [hF9.2 6 (by decide) (by decide) (by decide)]; exact h6⟩) rfl rfl (Nat.le_of_ble_eq_true rfl) (rmR (by omega) (by decide)) ⟨Nat.zero_le _, Nat.zero_le _⟩ (fun I51 J51 h51 => ?_)
          obtain ⟨e2_, hR51, h51⟩ := h51
          have e2_ := e2_.symm
          subst e2_
          have hz51 : ∃ k2, k2 ≤ 120 ∧ I51 3 2 = nI k2 := by
            rcases h51 with q | ⟨s2, c2, q1, q2, q3, -⟩
            · exact q.2
            · exact ⟨_, q3.1, q3.2.1⟩
          obtain ⟨k2, hk2, hz51⟩ := hz51
          refine r_aload_n C 1 (dk oX0_readOne 31 rfl) rfl ?_
          refine r_bipush C (dk oX0_readOne 32 rfl) (v := nI 12) (by decide) ?_
          refine r_ivv C Z (dk oX0_readOne 33 rfl) cl_X0_71 ci_X0_emit rfl (kn hn rfl) (c_X0_emit hn I51 J k2 12 hk2 hz51) rfl rfl (Nat.le_of_ble_eq_true rfl) (rmR (by omega) (by decide)) ⟨Nat.zero_le _, Nat.zero_le _⟩ (fun I57 J57 h57 => ?_)
          obtain ⟨e1_, e2_⟩ := h57
          have e1_ := e1_.symm
          have e2_ := e2_.symm
          subst e1_
          subst e2_
          refine hret (dk oX0_readOne 34 rfl) ?_
          refine ⟨rfl, (hF9.G.R.trans hR51).trans (emi_R _ _ _), ?_⟩
          have hst := stp_not (W := W) (K := K) hw (by omega)
          rcases h51 with q | ⟨s2, c2, q1, q2, q3, q4, q5, q6⟩
          · exact Or.inl ((q.to (rch.one hst)).em hz51 hk2)
          · have hM2 : mOK L (1, s2, clW (12 :: W) (K ++ c2)) := rch_ok (by rw [← hst]; exact stp_ok hM) q5
            have e12 : clW (12 :: W) (K ++ c2) = clW W (K ++ c2 ++ [12]) := popB_t (by decide)
            rw [e12] at hM2 q5
            have a1 := hM2.2.1
            have a2 := hM2.1
            have a3 := popB_len (q := fun x => decide (x = 12)) W (K ++ c2 ++ [12])
            have a4 : (clW W (K ++ c2 ++ [12])).2.length + nops (clW W (K ++ c2 ++ [12])).1 ≤ s2 := a1
            have a5 : s2 ≤ L := a2
            have a6 : (K ++ c2 ++ [12]).length ≤ (clW W (K ++ c2 ++ [12])).2.length := a3
            rw [List.length_append] at a6
            simp only [List.length_cons, List.length_nil] at a6
            have ek : k2 = (K ++ c2).length := by
              have e := hz51.symm.trans q3.2.1
              rwa [nI_eq (by omega) (by omega)] at e
            subst ek
            have hc := q3.em (x := 12) (by omega) (by decide)
            rw [List.append_assoc] at hc q5
            refine Or.inr ⟨s2, c2 ++ [12], by rw [emi_1]; exact q1, q2.of1 (emi_1 _ _ _), hc, ?_, (rch.one hst).trans q5, by rw [emi_1]; exact q6⟩
            have := @sk_ge t L (s_ + 3)
            omega
      · simp (disch := omega) only [nI_leI, nI_ltI, nI_eq, nI_eq0] at hb29
        refine r_aload_n C 2 (dk oX0_readOne 17 rfl) rfl ?_
        refine r_iconst C (dk oX0_readOne 18 rfl) (v := nI 3) (by decide) ?_
        refine r_ivv C Z (dk oX0_readOne 19 rfl) cl_X0_39 ci_X8_fail rfl (kn hn rfl) (c_X8_fail hn I J 3 0 s_ (by decide) h5 hk.2.2.1) rfl rfl (Nat.le_of_ble_eq_true rfl) (rmR (by omega) (by decide)) ⟨Nat.zero_le _, Nat.zero_le _⟩ (fun I34 J34 h34 => ?_)
        obtain ⟨e1_, e2_⟩ := h34
        rw [if_pos rfl] at e1_
        have e1_ := e1_.symm
        have e2_ := e2_.symm
        subst e1_
        subst e2_
        refine hret (dk oX0_readOne 20 rfl) ?_
        refine ⟨rfl, (flt_G _ _ _).R, Or.inl ⟨⟨3, s_, W, K, by decide, by decide, flt_5 _ _ _, flt_6 _ _ _, ?_⟩, K.length, hC.1, by rw [(flt_G _ _ _).1 3 (by decide)]; exact hC.2.1⟩⟩
        first | exact rch.one (stp_notF (by assumption) (by omega)) | exact rch.one (stp_openF (by assumption) (by omega))
    · rw [b32_0] at hb17
      refine r_aload_n C 1 (dk oX0_readOne 10 rfl) rfl ?_
      refine r_aload_n C 2 (dk oX0_readOne 11 rfl) rfl ?_
      refine r_ivv C Z (dk oX0_readOne 12 rfl) cl_X0_88 ci_X0_readFact rfl (kn hn rfl) (c_X0_readFact hn I J t L s_ K hT hk h5 hC (by
      by_cases f : nmF t L s_ 0 11 = 0
      · left
        have m2 := stp_ok (t := t) hM
        rw [stp_fig hb17 hb8 f] at m2
        have a1 := m2.2.1
        have a2 := m2.1
        have a3 := popB_len (q := fun x => decide (x = 12)) W (K ++ [nmV t L s_])
        rw [List.length_append] at a3
        have a4 : (clW W (K ++ [nmV t L s_])).2.length + nops (clW W (K ++ [nmV t L s_])).1 ≤ sk t L (nE t L s_) := a1
        have a5 : sk t L (nE t L s_) ≤ L := a2
        have a6 : (K.length + [nmV t L s_].length) ≤ (clW W (K ++ [nmV t L s_])).2.length := a3
        simp only [List.length_cons, List.length_nil] at a6
        omega
      · exact Or.inr f)) rfl rfl (Nat.le_of_ble_eq_true rfl) (rmR (by omega) (by decide)) ⟨Nat.zero_le _, Nat.zero_le _⟩ (fun I22 J22 h22 => ?_)
      refine hret (dk oX0_readOne 13 rfl) ?_
      obtain ⟨e2_, h22⟩ := h22
      refine ⟨e2_, ?_⟩
      rcases h22 with ⟨f, e⟩ | ⟨f, g1, g2, g3, g4, g6⟩
      · rw [e]
        refine ⟨(flt_G _ _ _).R, Or.inl ⟨⟨nmF t L s_ 0 11, s_, W, K, by omega, by have := @nmF_lt t L s_ 0 11; omega, flt_5 _ _ _, flt_6 _ _ _, rch.one (stp_figF hb17 hb8 f)⟩, K.length, hC.1, by rw [(flt_G _ _ _).1 3 (by decide)]; exact hC.2.1⟩⟩
      · exact ⟨g1, Or.inr ⟨_, _, g2, g3, g4, by have := nmF_fig f; have := @sk_ge t L (nE t L s_); omega, rch.one (stp_fig hb17 hb8 f), by rw [g6]; exact h6⟩⟩

set_option maxHeartbeats 1000000 in
set_option maxRecDepth 100000 in
theorem c_X0_readAll_at (hn : 117 ≤ n) (k_ : Nat) (hk8 : k_ ≤ 8) (hO : RO l n ad cA D z k_) (I : MI) (J : MJ) (t : Nat → Nat) (L s_ : Nat) (W K : List Nat) (t12 : topN (fun x => decide (x = 12)) W) (t13 : topN (fun x => decide (x = 13)) W) (hp : rdP t L s_ W K (8 - k_) I) : Cv l n ad cA D z (7 + 3 * k_) yX0_readAll cX0_readAll 4 I J [.ref (ad 3), .ref (ad 1), .int (nI (8 - k_))] (fun I' J' => J' = J ∧ rdF I I' ∧ (rdBad t L (0, s_, W, K) I' ∨ rdAll t L s_ W K I')) := by
  refine Cv.of (by decide) (Nat.le_of_ble_eq_true rfl) ?_
  intro p e s m args below meth c A C hin Z Q hret
  refine r_aload_n C 0 (dk oX0_readAll 0 rfl) rfl ?_
  refine r_aload_n C 1 (dk oX0_readAll 1 rfl) rfl ?_
  refine r_iload_n C 2 (dk oX0_readAll 2 rfl) rfl ?_
  refine r_isv C Z (dk oX0_readAll 3 rfl) cl_X0_74 st_X0_readOne (hO I J t L s_ W K hp) rfl rfl (Nat.le_of_ble_eq_true rfl) (rmR (by omega) (by decide)) ⟨Nat.zero_le _, Nat.zero_le _⟩ (fun I3 J3 h3 => ?_)
  obtain ⟨e2_, hR0, h3⟩ := h3
  have e2_ := e2_.symm
  subst e2_
  obtain ⟨hT, hL, hk, h5, hC, hM, hW, h6⟩ := hp
  have hI0 : rdAllI t L s_ W K 0 I3 := by
    rcases h3 with q | ⟨s2, c2, g1, g2, g3, g4, g5, g6⟩
    · obtain ⟨f, s2, W2, C2, g1, g2, g3, g4⟩ := q.1
      exact ⟨f, g2, g3, fun _ => q, fun e => by omega⟩
    · have e0 : clW W (K ++ c2) = (W, K ++ c2) := popB_id t12
      rw [e0] at g5
      exact ⟨0, by decide, g1, fun e => absurd rfl e, fun _ => ⟨s2, c2, W, K ++ c2, g2, g3, by omega, g5, popB_id t13, g6⟩⟩
  refine r_iconst C (dk oX0_readAll 4 rfl) (v := nI 0) (by decide) ?_
  refine r_istore_n (lo' := [(3, _), (0, _), (1, _), (2, _)]) C (dk oX0_readAll 5 rfl) rfl (by decide) rfl ?_
  have L8 : ∀ (d_ : Nat) (m_ : Nat) (I1 : MI), 120 - m_ < d_ → m_ ≤ 120 → rdF I I1 → rdAllI t L s_ W K m_ I1 → V p l e (rmL (7 + 3 * k_)) s m args below meth c Q D A 4 0 0 n ad (mE cA ad I1 J) 8 [(0, .ref (ad 3)), (1, .ref (ad 1)), (2, .int (nI (8 - k_))), (3, .int (nI m_))] [] := by
    intro d_
    induction d_ with
    | zero => intros; exact absurd (by assumption) (Nat.not_lt_zero _)
    | succ d_ ih => 
      intro m_ I1 hd_ hm hR hI
      obtain ⟨fn, hfn, g1, gbad, gok⟩ := id hI
      obtain ⟨s2, hs2⟩ : ∃ s2, fn = 0 → Tk I1 t L s2 := by
        by_cases e : fn = 0
        · obtain ⟨s2, c2, W2, C2, q1, -⟩ := gok e
          exact ⟨s2, fun _ => q1⟩
        · exact ⟨0, fun q => absurd q e⟩
      refine r_iload_n C 3 (dk oX0_readAll 6 rfl) rfl ?_
      refine r_bipush C (dk oX0_readAll 7 rfl) (v := nI 120) (by decide) ?_
      refine r_icmp_ge (tgt := 41) C (dk oX0_readAll 8 rfl) (by decide) (fun hb11 => ?_) (fun hb11 => ?_)
      · simp (disch := omega) only [nI_leI, nI_ltI, nI_eq, nI_eq0] at hb11
        refine hret (dk oX0_readAll 22 rfl) ?_
        refine ⟨rfl, hR, ?_⟩
        by_cases e0 : fn = 0
        · obtain ⟨s4, c4, W4, C4, p1, p2, p3, p4, p5, p9⟩ := gok e0
          have a0 := p1.1
          first
            | (exfalso; omega)
            | (have es : s4 = s2 := by
                 have e := p1.2.2.1.symm.trans (hs2 e0).2.2.1
                 have a2 := (hs2 e0).1
                 rwa [nI_eq (by omega) (by omega)] at e
               subst es
               exact Or.inr ⟨s4, c4, W4, C4, by rw [g1, e0], p1, p2, by omega, p4, p5, by cases hq : isW t L s4 wAnd with | true => exact absurd ⟨e0, hq⟩ q1 | false => rfl, p9⟩)
        · exact Or.inl (gbad e0)
      · simp (disch := omega) only [nI_leI, nI_ltI, nI_eq, nI_eq0] at hb11
        have qm1 : 120 - (m_ + 1) < d_ := by clear gok gbad hI hs2 hI0 h3; omega
        have qm2 : m_ + 1 ≤ 120 := by omega
        refine r_aload_n C 1 (dk oX0_readAll 9 rfl) rfl ?_
        refine r_ldcS C (dk oX0_readAll 10 rfl) (Z.2.1 4 (by decide)) ?_
        refine r_ivi C Z (dk oX0_readAll 11 rfl) cl_X0_33 ci_X8_takesWord rfl (kn hn rfl) (c_X8_takesWord hn I1 J t L (hT.ofR hR) s2 4 fn (by decide) (by omega) g1 hs2) rfl rfl (Nat.le_of_ble_eq_true rfl) (rmR (by omega) (by decide)) ⟨Nat.zero_le _, Nat.zero_le _⟩ (fun r17 I17 J17 h17 => ?_)
        refine r_if_eq (tgt := 41) C (dk oX0_readAll 12 rfl) (by decide) (fun hb20 => ?_) (fun hb20 => ?_)
        · obtain ⟨q1, e1_, e2_⟩ : ¬ (fn = 0 ∧ isW t L s2 (sWd 4) = true) ∧ I17 = I1 ∧ J17 = J := by
            rcases h17 with ⟨q1, q2, q3, q4⟩ | ⟨q1, q2, q3⟩
            · rw [q3] at hb20; exact absurd hb20 (by decide)
            · exact ⟨q1, q3⟩
          have e1_ := e1_.symm
          have e2_ := e2_.symm
          subst e1_
          subst e2_
          refine hret (dk oX0_readAll 22 rfl) ?_
          refine ⟨rfl, hR, ?_⟩
          by_cases e0 : fn = 0
          · obtain ⟨s4, c4, W4, C4, p1, p2, p3, p4, p5, p9⟩ := gok e0
            have a0 := p1.1
            first
              | (exfalso; omega)
              | (have es : s4 = s2 := by
                   have e := p1.2.2.1.symm.trans (hs2 e0).2.2.1
                   have a2 := (hs2 e0).1
                   rwa [nI_eq (by omega) (by omega)] at e
                 subst es
                 exact Or.inr ⟨s4, c4, W4, C4, by rw [g1, e0], p1, p2, by omega, p4, p5, by cases hq : isW t L s4 wAnd with | true => exact absurd ⟨e0, hq⟩ q1 | false => rfl, p9⟩)
          · exact Or.inl (gbad e0)
        · obtain ⟨e0, q2, q3, q4, e2_⟩ : fn = 0 ∧ isW t L s2 (sWd 4) = true ∧ txF I1 I17 ∧ Tk I17 t L (sk t L (s2 + (sWd 4).length)) ∧ J17 = J := by
            rcases h17 with ⟨q1, q2, q3, q4⟩ | ⟨q1, q2, q3⟩
            · exact ⟨q1, q2, q4⟩
            · rw [q2] at hb20; exact absurd rfl hb20
          have e2_ := e2_.symm
          subst e2_
          obtain ⟨s4, c4, W4, C4, p1, p2, p3, p4, p5, p9⟩ := gok e0
          have es : s4 = s2 := by
            have e := p1.2.2.1.symm.trans (hs2 e0).2.2.1
            have a1 := p1.1
            have a2 := (hs2 e0).1
            rwa [nI_eq (by omega) (by omega)] at e
          subst es
          have hst := stp_and (t := t) (L := L) q2 p5
          generalize I17 = I2 at q3 q4
          have hM4 : mOK L (0, sk t L (s4 + 3), 13 :: W, K ++ c4) := by rw [← hst]; exact stp_ok (rch_ok hM p4)
          have hp2 : rdP t L (sk t L (s4 + 3)) (13 :: W) (K ++ c4) (8 - k_) I2 := ⟨(hT.ofR hR).ofG q3.G, hL, q4, by rw [q3.2 5 (by decide) (by decide) (by decide), g1, e0], p2.ofG q3.G, hM4, by rw [opens_13]; exact hW, by rw [q3.2 6 (by decide) (by decide) (by decide)]; exact p9⟩
          refine r_aload_n C 0 (dk oX0_readAll 13 rfl) rfl ?_
          refine r_aload_n C 1 (dk oX0_readAll 14 rfl) rfl ?_
          refine r_iload_n C 2 (dk oX0_readAll 15 rfl) rfl ?_
          refine r_isv C Z (dk oX0_readAll 16 rfl) cl_X0_74 st_X0_readOne (hO I2 J t L (sk t L (s4 + 3)) (13 :: W) (K ++ c4) hp2) rfl rfl (Nat.le_of_ble_eq_true rfl) (rmR (by omega) (by decide)) ⟨Nat.zero_le _, Nat.zero_le _⟩ (fun I26 J26 h26 => ?_)
          obtain ⟨e2_, hR26, h26⟩ := h26
          have e2_ := e2_.symm
          subst e2_
          have hz26 : ∃ k2, k2 ≤ 120 ∧ I26 3 2 = nI k2 := by
            rcases h26 with q | ⟨s5, c5, q1, q2, q3, -⟩
            · exact q.2
            · exact ⟨_, q3.1, q3.2.1⟩
          obtain ⟨k2, hk2, hz26⟩ := hz26
          refine r_aload_n C 0 (dk oX0_readAll 17 rfl) rfl ?_
          refine r_bipush C (dk oX0_readAll 18 rfl) (v := nI 13) (by decide) ?_
          refine r_ivv C Z (dk oX0_readAll 19 rfl) cl_X0_71 ci_X0_emit rfl (kn hn rfl) (c_X0_emit hn I26 J k2 13 hk2 hz26) rfl rfl (Nat.le_of_ble_eq_true rfl) (rmR (by omega) (by decide)) ⟨Nat.zero_le _, Nat.zero_le _⟩ (fun I32 J32 h32 => ?_)
          obtain ⟨e1_, e2_⟩ := h32
          have e1_ := e1_.symm
          have e2_ := e2_.symm
          subst e1_
          subst e2_
          refine r_iinc (lo' := [(3, _), (0, _), (1, _), (2, _)]) C 3 (dk oX0_readAll 20 rfl) rfl (by first | exact nI_inc _ | rfl) (by decide) rfl ?_
          refine r_goto (tgt := 8) C (dk oX0_readAll 21 rfl) (by decide) ?_
          refine V.sub [1, 2, 3, 0] rfl ?_
          refine ih (m_ + 1) _ qm1 qm2 (((hR.trans q3.G.R).trans hR26).trans (emi_R _ _ _)) ?_
          rcases h26 with q | ⟨s5, c5, b1, b2, b3, b4, b5, b9⟩
          · have q6 := (q.to ((p4.then hst))).em (x := 13) hz26 hk2
            obtain ⟨f, s6, W6, C6, d1, d2, d3, d4⟩ := q6.1
            exact ⟨f, d2, d3, fun _ => q6, fun e => by omega⟩
          · have e0 : clW (13 :: W) (K ++ c4 ++ c5) = (13 :: W, K ++ c4 ++ c5) := popB_id (topN_cons rfl)
            rw [e0] at b5
            have hM5 := rch_ok hM4 b5
            have a1 : (K ++ c4 ++ c5).length + nops (13 :: W) ≤ s5 := hM5.2.1
            have a2 : nops (13 :: W) = nops W + 1 := by simp [nops, List.countP_cons]
            have a3 : s5 ≤ L := hM5.1
            have ek : k2 = (K ++ c4 ++ c5).length := by
              have e := hz26.symm.trans b3.2.1
              rwa [nI_eq (by omega) (by omega)] at e
            subst ek
            have hc := b3.em (x := 13) (by omega) (by decide)
            refine ⟨0, by decide, by rw [emi_1]; exact b1, fun e => absurd rfl e, fun _ => ⟨s5, c4 ++ (c5 ++ [13]), 13 :: W, K ++ c4 ++ c5, b2.of1 (emi_1 _ _ _), by simpa [List.append_assoc] using hc, ?_, (p4.then hst).trans b5, ?_, by rw [emi_1]; exact b9⟩⟩
            · have := @sk_ge t L (s4 + 3)
              omega
            · show popA (13 :: W) (K ++ c4 ++ c5) = _
              have e1 : popA (13 :: W) (K ++ c4 ++ c5) = popA W (K ++ c4 ++ c5 ++ [13]) := popB_t (by decide)
              rw [e1, show popA W (K ++ c4 ++ c5 ++ [13]) = (W, K ++ c4 ++ c5 ++ [13]) from popB_id t13]
              simp [List.append_assoc]
  refine V.sub [1, 2, 3, 0] rfl ?_
  exact L8 121 0 I3 (by omega) (by omega) hR0 hI0

set_option maxHeartbeats 1000000 in
set_option maxRecDepth 100000 in
theorem c_X0_readAny_at (hn : 117 ≤ n) (k_ : Nat) (hk8 : k_ ≤ 8) (hO : RA l n ad cA D z k_) (I : MI) (J : MJ) (t : Nat → Nat) (L s_ : Nat) (W K : List Nat) (t12 : topN (fun x => decide (x = 12)) W) (tO : topN (fun x => decide (x = 13 ∨ x = 14)) W) (hp : rdP t L s_ W K (8 - k_) I) : Cv l n ad cA D z (8 + 3 * k_) yX0_readAny cX0_readAny 4 I J [.ref (ad 3), .ref (ad 1), .int (nI (8 - k_))] (fun I' J' => J' = J ∧ rdF I I' ∧ (rdBad t L (0, s_, W, K) I' ∨ rdAny t L s_ W K I')) := by
  refine Cv.of (by decide) (Nat.le_of_ble_eq_true rfl) ?_
  intro p e s m args below meth c A C hin Z Q hret
  have t13 : topN (fun x => decide (x = 13)) W := fun x W' e => by have := of_decide_eq_false (tO x W' e); exact decide_eq_false (by omega)
  refine r_aload_n C 0 (dk oX0_readAny 0 rfl) rfl ?_
  refine r_aload_n C 1 (dk oX0_readAny 1 rfl) rfl ?_
  refine r_iload_n C 2 (dk oX0_readAny 2 rfl) rfl ?_
  refine r_isv C Z (dk oX0_readAny 3 rfl) cl_X0_66 st_X0_readAll (hO I J t L s_ W K t12 t13 hp) rfl rfl (Nat.le_of_ble_eq_true rfl) (rmR (by omega) (by decide)) ⟨Nat.zero_le _, Nat.zero_le _⟩ (fun I3 J3 h3 => ?_)
  obtain ⟨e2_, hR0, h3⟩ := h3
  have e2_ := e2_.symm
  subst e2_
  obtain ⟨hT, hL, hk, h5, hC, hM, hW, h6⟩ := hp
  have hI0 : rdAnyI t L s_ W K 0 I3 := by
    rcases h3 with q | ⟨s2, c2, W2, C2, g1, g2, g3, g4, g5, g6, g7, g8⟩
    · obtain ⟨f, s2, W2, C2, g1, g2, g3, g4⟩ := q.1
      exact ⟨f, g2, g3, fun _ => q, fun e => by omega⟩
    · refine ⟨0, by decide, g1, fun e => absurd rfl e, fun _ => ⟨s2, c2, W2, C2, g2, g3, by omega, g5, ?_, g7, g8⟩⟩
      rw [← popAO_popA, g6]
      exact popB_id tO
  refine r_iconst C (dk oX0_readAny 4 rfl) (v := nI 0) (by decide) ?_
  refine r_istore_n (lo' := [(3, _), (0, _), (1, _), (2, _)]) C (dk oX0_readAny 5 rfl) rfl (by decide) rfl ?_
  have L8 : ∀ (d_ : Nat) (m_ : Nat) (I1 : MI), 120 - m_ < d_ → m_ ≤ 120 → rdF I I1 → rdAnyI t L s_ W K m_ I1 → V p l e (rmL (8 + 3 * k_)) s m args below meth c Q D A 4 0 0 n ad (mE cA ad I1 J) 8 [(0, .ref (ad 3)), (1, .ref (ad 1)), (2, .int (nI (8 - k_))), (3, .int (nI m_))] [] := by
    intro d_
    induction d_ with
    | zero => intros; exact absurd (by assumption) (Nat.not_lt_zero _)
    | succ d_ ih => 
      intro m_ I1 hd_ hm hR hI
      obtain ⟨fn, hfn, g1, gbad, gok⟩ := id hI
      obtain ⟨s2, hs2⟩ : ∃ s2, fn = 0 → Tk I1 t L s2 := by
        by_cases e : fn = 0
        · obtain ⟨s2, c2, W2, C2, q1, -⟩ := gok e
          exact ⟨s2, fun _ => q1⟩
        · exact ⟨0, fun q => absurd q e⟩
      refine r_iload_n C 3 (dk oX0_readAny 6 rfl) rfl ?_
      refine r_bipush C (dk oX0_readAny 7 rfl) (v := nI 120) (by decide) ?_
      refine r_icmp_ge (tgt := 41) C (dk oX0_readAny 8 rfl) (by decide) (fun hb11 => ?_) (fun hb11 => ?_)
      · simp (disch := omega) only [nI_leI, nI_ltI, nI_eq, nI_eq0] at hb11
        refine hret (dk oX0_readAny 22 rfl) ?_
        refine ⟨rfl, hR, ?_⟩
        by_cases e0 : fn = 0
        · obtain ⟨s4, c4, W4, C4, p1, p2, p3, p4, p5, p6, p9⟩ := gok e0
          have a0 := p1.1
          first
            | (exfalso; omega)
            | (have es : s4 = s2 := by
                 have e := p1.2.2.1.symm.trans (hs2 e0).2.2.1
                 have a2 := (hs2 e0).1
                 rwa [nI_eq (by omega) (by omega)] at e
               subst es
               exact Or.inr ⟨s4, c4, W4, C4, by rw [g1, e0], p1, p2, by omega, p4, p5, p6, by cases hq : isW t L s4 wOr with | true => exact absurd ⟨e0, hq⟩ q1 | false => rfl, p9⟩)
        · exact Or.inl (gbad e0)
      · simp (disch := omega) only [nI_leI, nI_ltI, nI_eq, nI_eq0] at hb11
        have qm1 : 120 - (m_ + 1) < d_ := by clear gok gbad hI hs2 hI0 h3; omega
        have qm2 : m_ + 1 ≤ 120 := by omega
        refine r_aload_n C 1 (dk oX0_readAny 9 rfl) rfl ?_
        refine r_ldcS C (dk oX0_readAny 10 rfl) (Z.2.1 5 (by decide)) ?_
        refine r_ivi C Z (dk oX0_readAny 11 rfl) cl_X0_33 ci_X8_takesWord rfl (kn hn rfl) (c_X8_takesWord hn I1 J t L (hT.ofR hR) s2 5 fn (by decide) (by omega) g1 hs2) rfl rfl (Nat.le_of_ble_eq_true rfl) (rmR (by omega) (by decide)) ⟨Nat.zero_le _, Nat.zero_le _⟩ (fun r17 I17 J17 h17 => ?_)
        refine r_if_eq (tgt := 41) C (dk oX0_readAny 12 rfl) (by decide) (fun hb20 => ?_) (fun hb20 => ?_)
        · obtain ⟨q1, e1_, e2_⟩ : ¬ (fn = 0 ∧ isW t L s2 (sWd 5) = true) ∧ I17 = I1 ∧ J17 = J := by
            rcases h17 with ⟨q1, q2, q3, q4⟩ | ⟨q1, q2, q3⟩
            · rw [q3] at hb20; exact absurd hb20 (by decide)
            · exact ⟨q1, q3⟩
          have e1_ := e1_.symm
          have e2_ := e2_.symm
          subst e1_
          subst e2_
          refine hret (dk oX0_readAny 22 rfl) ?_
          refine ⟨rfl, hR, ?_⟩
          by_cases e0 : fn = 0
          · obtain ⟨s4, c4, W4, C4, p1, p2, p3, p4, p5, p6, p9⟩ := gok e0
            have a0 := p1.1
            first
              | (exfalso; omega)
              | (have es : s4 = s2 := by
                   have e := p1.2.2.1.symm.trans (hs2 e0).2.2.1
                   have a2 := (hs2 e0).1
                   rwa [nI_eq (by omega) (by omega)] at e
                 subst es
                 exact Or.inr ⟨s4, c4, W4, C4, by rw [g1, e0], p1, p2, by omega, p4, p5, p6, by cases hq : isW t L s4 wOr with | true => exact absurd ⟨e0, hq⟩ q1 | false => rfl, p9⟩)
          · exact Or.inl (gbad e0)
        · obtain ⟨e0, q2, q3, q4, e2_⟩ : fn = 0 ∧ isW t L s2 (sWd 5) = true ∧ txF I1 I17 ∧ Tk I17 t L (sk t L (s2 + (sWd 5).length)) ∧ J17 = J := by
            rcases h17 with ⟨q1, q2, q3, q4⟩ | ⟨q1, q2, q3⟩
            · exact ⟨q1, q2, q4⟩
            · rw [q2] at hb20; exact absurd rfl hb20
          have e2_ := e2_.symm
          subst e2_
          obtain ⟨s4, c4, W4, C4, p1, p2, p3, p4, p5, p6, p9⟩ := gok e0
          have es : s4 = s2 := by
            have e := p1.2.2.1.symm.trans (hs2 e0).2.2.1
            have a1 := p1.1
            have a2 := (hs2 e0).1
            rwa [nI_eq (by omega) (by omega)] at e
          subst es
          have hst := stp_or (t := t) (L := L) q2 p5
          generalize I17 = I2 at q3 q4
          have hM4 : mOK L (0, sk t L (s4 + 2), 14 :: W, K ++ c4) := by rw [← hst]; exact stp_ok (rch_ok hM p4)
          have hp2 : rdP t L (sk t L (s4 + 2)) (14 :: W) (K ++ c4) (8 - k_) I2 := ⟨(hT.ofR hR).ofG q3.G, hL, q4, by rw [q3.2 5 (by decide) (by decide) (by decide), g1, e0], p2.ofG q3.G, hM4, by rw [opens_14]; exact hW, by rw [q3.2 6 (by decide) (by decide) (by decide)]; exact p9⟩
          refine r_aload_n C 0 (dk oX0_readAny 13 rfl) rfl ?_
          refine r_aload_n C 1 (dk oX0_readAny 14 rfl) rfl ?_
          refine r_iload_n C 2 (dk oX0_readAny 15 rfl) rfl ?_
          refine r_isv C Z (dk oX0_readAny 16 rfl) cl_X0_66 st_X0_readAll (hO I2 J t L (sk t L (s4 + 2)) (14 :: W) (K ++ c4) (topN_cons rfl) (topN_cons rfl) hp2) rfl rfl (Nat.le_of_ble_eq_true rfl) (rmR (by omega) (by decide)) ⟨Nat.zero_le _, Nat.zero_le _⟩ (fun I26 J26 h26 => ?_)
          obtain ⟨e2_, hR26, h26⟩ := h26
          have e2_ := e2_.symm
          subst e2_
          have hz26 : ∃ k2, k2 ≤ 120 ∧ I26 3 2 = nI k2 := by
            rcases h26 with q | ⟨s5, c5, W5, C5, q1, q2, q3, -⟩
            · exact q.2
            · exact ⟨_, q3.1, q3.2.1⟩
          obtain ⟨k2, hk2, hz26⟩ := hz26
          refine r_aload_n C 0 (dk oX0_readAny 17 rfl) rfl ?_
          refine r_bipush C (dk oX0_readAny 18 rfl) (v := nI 14) (by decide) ?_
          refine r_ivv C Z (dk oX0_readAny 19 rfl) cl_X0_71 ci_X0_emit rfl (kn hn rfl) (c_X0_emit hn I26 J k2 14 hk2 hz26) rfl rfl (Nat.le_of_ble_eq_true rfl) (rmR (by omega) (by decide)) ⟨Nat.zero_le _, Nat.zero_le _⟩ (fun I32 J32 h32 => ?_)
          obtain ⟨e1_, e2_⟩ := h32
          have e1_ := e1_.symm
          have e2_ := e2_.symm
          subst e1_
          subst e2_
          refine r_iinc (lo' := [(3, _), (0, _), (1, _), (2, _)]) C 3 (dk oX0_readAny 20 rfl) rfl (by first | exact nI_inc _ | rfl) (by decide) rfl ?_
          refine r_goto (tgt := 8) C (dk oX0_readAny 21 rfl) (by decide) ?_
          refine V.sub [1, 2, 3, 0] rfl ?_
          refine ih (m_ + 1) _ qm1 qm2 (((hR.trans q3.G.R).trans hR26).trans (emi_R _ _ _)) ?_
          rcases h26 with q | ⟨s5, c5, W5, C5, b1, b2, b3, b4, b5, b6, b7, b9⟩
          · have q6 := (q.to ((p4.then hst))).em (x := 14) hz26 hk2
            obtain ⟨f, s6, W6, C6, d1, d2, d3, d4⟩ := q6.1
            exact ⟨f, d2, d3, fun _ => q6, fun e => by omega⟩
          · have hM5 := rch_ok hM4 b5
            have b8 : popAO W5 C5 = (W, K ++ c4 ++ c5 ++ [14]) := by
              rw [← popAO_popA, b6]
              show popAO (14 :: W) (K ++ c4 ++ c5) = _
              have e1 : popAO (14 :: W) (K ++ c4 ++ c5) = popAO W (K ++ c4 ++ c5 ++ [14]) := popB_t (by decide)
              rw [e1]
              exact popB_id tO
            have a3 : s5 ≤ L := hM5.1
            have a4 := (mO1_pop (q := fun x => decide (x = 13 ∨ x = 14)) (fun x hx => by have := of_decide_eq_true hx; omega) W5 C5 hM5.o1).1
            have a5 : (popAO W5 C5).2.length + nops (popAO W5 C5).1 ≤ s5 := a4
            rw [b8] at a5
            dsimp only at a5
            rw [List.length_append] at a5
            simp only [List.length_cons, List.length_nil] at a5
            have ek : k2 = (K ++ c4 ++ c5).length := by
              have e := hz26.symm.trans b3.2.1
              rwa [nI_eq (by omega) (by omega)] at e
            subst ek
            have hc := b3.em (x := 14) (by omega) (by decide)
            refine ⟨0, by decide, by rw [emi_1]; exact b1, fun e => absurd rfl e, fun _ => ⟨s5, c4 ++ (c5 ++ [14]), W5, C5, b2.of1 (emi_1 _ _ _), by simpa [List.append_assoc] using hc, ?_, (p4.then hst).trans b5, by rw [b8]; simp [List.append_assoc], b7, by rw [emi_1]; exact b9⟩⟩
            have := @sk_ge t L (s4 + 2)
            omega
  refine V.sub [1, 2, 3, 0] rfl ?_
  exact L8 121 0 I3 (by omega) (by omega) hR0 hI0

theorem c_X0_readOne (hn : 117 ≤ n) : ∀ k, k ≤ 8 → RO l n ad cA D z k
  | 0, hk => fun I J t L s_ W K hp => c_X0_readOne_at hn 0 hk (Or.inl rfl) I J t L s_ W K hp
  | k + 1, hk => fun I J t L s_ W K hp => c_X0_readOne_at hn (k + 1) hk (Or.inr ⟨c_X0_readOne hn k (by omega), fun I J t L s_ W K t12 tO hp => c_X0_readAny_at hn k (by omega) (fun I J t L s_ W K t12 t13 hp => c_X0_readAll_at hn k (by omega) (c_X0_readOne hn k (by omega)) I J t L s_ W K t12 t13 hp) I J t L s_ W K t12 tO hp⟩) I J t L s_ W K hp
theorem c_X0_readAny (hn : 117 ≤ n) : RY l n ad cA D z 8 := fun I J t L s_ W K t12 tO hp => c_X0_readAny_at hn 8 (by omega) (fun I J t L s_ W K t12 t13 hp => c_X0_readAll_at hn 8 (by omega) (c_X0_readOne hn 8 (by omega)) I J t L s_ W K t12 t13 hp) I J t L s_ W K t12 tO hp
set_option maxHeartbeats 1000000 in
set_option maxRecDepth 100000 in
theorem c_X0_read (hn : 117 ≤ n) (I : MI) (J : MJ) (t : Nat → Nat) (L : Nat) (hT : Tx I t L) (hL : L ≤ 120) : Cv l n ad cA D z 33 yX0_read cX0_read 4 I J [.ref (ad 3), .ref (ad 1)] (fun I' J' => J' = J ∧ rdG I I' ∧ ∃ f pl C, PR t L f pl C ∧ I' 1 5 = nI f ∧ I' 1 6 = (if f = 0 then -1 else nI pl) ∧ (f = 0 → Cd I' C ∧ I' 3 3 = cCo t L)) := by
  refine Cv.of (by decide) (Nat.le_of_ble_eq_true rfl) ?_
  intro p e s m args below meth c A C hin Z Q hret
  refine r_aload_n C 0 (dk oX0_read 0 rfl) rfl ?_
  refine r_iconst C (dk oX0_read 1 rfl) (v := nI 0) (by decide) ?_
  refine r_putI C (dk oX0_read 2 rfl) fl_X0_19 ft_0_2 rfl (kn hn rfl) ?_
  refine r_aload_n C 0 (dk oX0_read 3 rfl) rfl ?_
  refine r_iconst C (dk oX0_read 4 rfl) (v := nI 0) (by decide) ?_
  refine r_putI C (dk oX0_read 5 rfl) fl_X0_23 ft_0_4 rfl (kn hn rfl) ?_
  refine r_aload_n C 1 (dk oX0_read 6 rfl) rfl ?_
  generalize hI0 : up2 (up2 I 3 2 (nI 0)) 3 4 (nI 0) = I0
  have hG0 : rdG I I0 := by rw [← hI0]; exact ((rdG.rf I).up _ _).up _ _
  have hC0 : Cd I0 [] := by
    rw [← hI0]
    exact ⟨by decide, by rw [up2_off (by decide), up2_at]; rfl, fun j hj => absurd hj (Nat.not_lt_zero _), by rw [up2_at]; rfl⟩
  refine r_ivv C Z (dk oX0_read 7 rfl) cl_X0_26 ci_X8_begin rfl (kn hn rfl) (c_X8_begin hn I0 J t L (hT.ofRG hG0)) rfl rfl (Nat.le_of_ble_eq_true rfl) ⟨Nat.le_of_ble_eq_true rfl, Nat.le_of_ble_eq_true rfl⟩ ⟨Nat.zero_le _, Nat.zero_le _⟩ (fun I11 J11 h11 => ?_)
  obtain ⟨hF1, hk1, h15, h16, e2_⟩ := h11
  have e2_ := e2_.symm
  subst e2_
  have hT1 := (hT.ofRG hG0).ofG hF1
  have hC1 := hC0.ofG hF1
  obtain ⟨s0, hs0⟩ : ∃ s0, s0 = sk t L 0 := ⟨_, rfl⟩
  rw [← hs0] at hk1
  refine r_aload_n C 1 (dk oX0_read 8 rfl) rfl ?_
  refine r_ldcS C (dk oX0_read 9 rfl) (Z.2.1 0 (by decide)) ?_
  refine r_ivi C Z (dk oX0_read 10 rfl) cl_X0_33 ci_X8_takesWord rfl (kn hn rfl) (c_X8_takesWord hn I11 J t L hT1 s0 0 0 (by decide) (by decide) h15 (fun _ => hk1)) rfl rfl (Nat.le_of_ble_eq_true rfl) ⟨Nat.le_of_ble_eq_true rfl, Nat.le_of_ble_eq_true rfl⟩ ⟨Nat.zero_le _, Nat.zero_le _⟩ (fun r17 I17 J17 h17 => ?_)
  have hr17 : r17 = b32 (cOwe t L) := by
    unfold cOwe
    rw [← hs0]
    rcases h17 with ⟨q1, q2, q3, q4⟩ | ⟨q1, q2, q3⟩
    · rw [q3, q2]
    · rw [q2]; cases hq : isW t L s0 (sWd 0) with | true => exact absurd ⟨rfl, hq⟩ q1 | false => rfl
  subst hr17
  refine r_istore_n (lo' := [(2, _), (0, _), (1, _)]) C (dk oX0_read 11 rfl) rfl (by decide) rfl ?_
  refine r_iload_n C 0 (dk oX0_read 12 rfl) rfl ?_
  refine r_if_ne (tgt := 40) C (dk oX0_read 13 rfl) (by decide) (fun hb22 => ?_) (fun hb22 => ?_)
  · rw [b32_n] at hb22
    obtain ⟨q2, q3, q4, e2_⟩ : isW t L s0 (sWd 0) = true ∧ txF I11 I17 ∧ Tk I17 t L (sk t L (s0 + (sWd 0).length)) ∧ J17 = J := by
      rcases h17 with ⟨q1, q2, q3, q4⟩ | ⟨q1, q2, q3⟩
      · exact ⟨q2, q4⟩
      · exact absurd ⟨rfl, by unfold cOwe at hb22; rw [hs0]; exact hb22⟩ q1
    have e2_ := e2_.symm
    subst e2_
    generalize I17 = I2 at q3 q4
    have hop : cOwe t L = true ∨ cPay t L = true := Or.inl hb22
    obtain ⟨s1, hs1⟩ : ∃ s1, s1 = cP1 t L := ⟨_, rfl⟩
    have hk2 : Tk I2 t L s1 := by rw [hs1]; unfold cP1; rw [← hs0]; exact q4
    have hF2 := q3.G
    have hT2 := hT1.ofG hF2
    have h25 : I2 1 5 = nI 0 := by rw [q3.2 5 (by decide) (by decide) (by decide)]; exact h15
    have h26 : I2 1 6 = -1 := by rw [q3.2 6 (by decide) (by decide) (by decide)]; exact h16
    clear q2 q3 q4
    refine r_aload_n C 2 (dk oX0_read 22 rfl) rfl ?_
    refine r_iconst C (dk oX0_read 23 rfl) (v := nI 1) (by decide) ?_
    refine r_sipush C (dk oX0_read 24 rfl) (v := nI 999) (by decide) ?_
    refine r_ivi C Z (dk oX0_read 25 rfl) cl_X0_43 ci_X8_numberHere rfl (kn hn rfl) (c_X8_numberHere hn I2 J t L hT2 s1 1 999 h25 hk2 (by decide) (by decide)) rfl rfl (Nat.le_of_ble_eq_true rfl) ⟨Nat.le_of_ble_eq_true rfl, Nat.le_of_ble_eq_true rfl⟩ ⟨Nat.zero_le _, Nat.zero_le _⟩ (fun r45 I45 J45 h45 => ?_)
    obtain ⟨h45, e2_⟩ := h45
    have e2_ := e2_.symm
    subst e2_
    have hG45 : txG I2 I45 := by
      rcases h45 with ⟨-, -, e⟩ | ⟨-, -, e⟩
      · rw [e]; exact txG.rf _
      · rw [e]; exact flt_G _ _ _
    have hf3 := @nmF_lt t L s1 1 999
    have h55 : I45 1 5 = nI (nmF t L s1 1 999) := by
      rcases h45 with ⟨e0, -, e⟩ | ⟨-, -, e⟩
      · rw [e, h25, e0]
      · rw [e, flt_5]
    refine r_istore_n (lo' := [(3, _), (2, _), (0, _), (1, _)]) C (dk oX0_read 26 rfl) rfl (by decide) rfl ?_
    refine r_aload_n C 3 (dk oX0_read 27 rfl) rfl ?_
    refine r_ivi C Z (dk oX0_read 28 rfl) cl_X0_47 ci_X8_isSound rfl (kn hn rfl) (c_X8_isSound hn I45 J (nmF t L s1 1 999) (by omega) h55) rfl rfl (Nat.le_of_ble_eq_true rfl) ⟨Nat.le_of_ble_eq_true rfl, Nat.le_of_ble_eq_true rfl⟩ ⟨Nat.zero_le _, Nat.zero_le _⟩ (fun r50 I50 J50 h50 => ?_)
    obtain ⟨h50, e1_, e2_⟩ := h50
    have e1_ := e1_.symm
    have e2_ := e2_.symm
    subst e1_
    subst e2_
    subst h50
    refine r_if_ne (tgt := 57) C (dk oX0_read 29 rfl) (by decide) (fun hb53 => ?_) (fun hb53 => ?_)
    · rw [b32_n, decide_eq_true_eq] at hb53
      have hfg := nmF_fig hb53
      have hlt : isLt (t s1) = false := by
        have := hfg.2.1
        simp only [isDg, decide_eq_true_eq] at this
        exact isLt_f (by omega)
      obtain ⟨-, er, eI⟩ : nmF t L s1 1 999 = 0 ∧ r45 = nI (nmV t L s1) ∧ I45 = I2 := by
        rcases h45 with q | q
        · exact q
        · exact absurd hb53 q.1
      subst er
      have eI := eI.symm
      subst eI
      refine r_aload_n C 2 (dk oX0_read 31 rfl) rfl ?_
      refine r_iload_n C 1 (dk oX0_read 32 rfl) rfl ?_
      refine r_if_eq (tgt := 67) C (dk oX0_read 33 rfl) (by decide) (fun hb59 => ?_) (fun hb59 => ?_)
      · rw [b32_0] at hb59
        refine r_iload_n C 0 (dk oX0_read 37 rfl) rfl ?_
        refine r_putI C (dk oX0_read 38 rfl) fl_X0_51 ft_0_3 rfl (kn hn rfl) ?_
        generalize hI4 : up2 I2 3 3 _ = I4
        have e41 : I4 1 = I2 1 := by rw [← hI4]; exact up2_ne (by decide)
        have hG4 : rdG I2 I4 := by rw [← hI4]; exact (rdG.rf _).up _ _
        have hT4 := hT2.ofRG hG4
        have hC4 : Cd I4 [] := by
          rw [← hI4]
          exact ⟨by decide, by rw [up2_off (by decide), hF2.1 3 (by decide)]; exact hC1.2.1, fun j hj => absurd hj (Nat.not_lt_zero _), by rw [up2_off (by decide), hF2.1 3 (by decide)]; exact hC1.2.2.2⟩
        have h433 : I4 3 3 = cCo t L := by
          rw [← hI4, up2_at]
          unfold cCo
          rw [← hs1]
          first | rw [if_pos hb59] | rw [if_neg (by rw [hb59]; decide)]
        refine r_aload_n C 3 (dk oX0_read 39 rfl) rfl ?_
        refine r_ivv C Z (dk oX0_read 40 rfl) cl_X0_54 ci_X8_next rfl (kn hn rfl) (c_X8_next hn _ J t L hT4 (nE t L s1) (nE_le hk2.1) (by rw [e41, hk2.2.2.2, (tkK_2 hfg.1 hlt hfg.2.1).2])) rfl rfl (Nat.le_of_ble_eq_true rfl) ⟨Nat.le_of_ble_eq_true rfl, Nat.le_of_ble_eq_true rfl⟩ ⟨Nat.zero_le _, Nat.zero_le _⟩ (fun I72 J72 h72 => ?_)
        obtain ⟨hF5, hk5, e2_⟩ := h72
        have e2_ := e2_.symm
        subst e2_
        generalize I72 = I5 at hF5 hk5
        rw [show sk t L (nE t L s1) = cP2 t L from by rw [hs1]; rfl] at hk5
        have hT5 := hT4.ofG hF5.G
        have h5s : I5 1 5 = nI 0 := by rw [hF5.2 5 (by decide) (by decide) (by decide), e41]; exact h25
        have hC5 : Cd I5 [] := (hC4).ofG hF5.G
        refine r_aload_n C 3 (dk oX0_read 41 rfl) rfl ?_
        refine r_ldcS C (dk oX0_read 42 rfl) (Z.2.1 2 (by decide)) ?_
        refine r_ivi C Z (dk oX0_read 43 rfl) cl_X0_33 ci_X8_takesWord rfl (kn hn rfl) (c_X8_takesWord hn I5 J t L hT5 (cP2 t L) 2 0 (by decide) (by decide) h5s (fun _ => hk5)) rfl rfl (Nat.le_of_ble_eq_true rfl) ⟨Nat.le_of_ble_eq_true rfl, Nat.le_of_ble_eq_true rfl⟩ ⟨Nat.zero_le _, Nat.zero_le _⟩ (fun r78 I78 J78 h78 => ?_)
        refine r_if_ne (tgt := 90) C (dk oX0_read 44 rfl) (by decide) (fun hb81 => ?_) (fun hb81 => ?_)
        · obtain ⟨e0, q2, q3, q4, e2_⟩ : (0 = 0) ∧ isW t L (cP2 t L) (sWd 2) = true ∧ txF I5 I78 ∧ Tk I78 t L (sk t L (cP2 t L + (sWd 2).length)) ∧ J78 = J := by
            rcases h78 with ⟨q1, q2, q3, q4⟩ | ⟨q1, q2, q3⟩
            · exact ⟨q1, q2, q4⟩
            · rw [q2] at hb81; exact absurd rfl hb81
          have e2_ := e2_.symm
          subst e2_
          have eW2 : (sWd 2).length = 2 := rfl
          rw [eW2] at q4
          refine r_aload_n C 2 (dk oX0_read 49 rfl) rfl ?_
          refine r_aload_n C 3 (dk oX0_read 50 rfl) rfl ?_
          refine r_iconst C (dk oX0_read 51 rfl) (v := nI 0) (by decide) ?_
          refine r_isv C Z (dk oX0_read 52 rfl) cl_X0_59 st_X0_readAny (c_X0_readAny hn I78 J t L (sk t L (cP2 t L + 2)) [] [] topN_nil topN_nil ⟨hT5.ofG q3.G, hL, q4, by rw [q3.2 5 (by decide) (by decide) (by decide)]; exact h5s, hC5.ofG q3.G, ⟨q4.1, Nat.zero_le _, trivial, (by show opens [] ≤ 8; decide), fun x h => absurd h List.not_mem_nil, fun _ => rfl, fun e => (by cases e), fun e => (by cases e)⟩, rfl, by rw [q3.2 6 (by decide) (by decide) (by decide), hF5.2 6 (by decide) (by decide) (by decide), e41]; exact h26⟩) rfl rfl (Nat.le_of_ble_eq_true rfl) ⟨Nat.le_of_ble_eq_true rfl, Nat.le_of_ble_eq_true rfl⟩ ⟨Nat.zero_le _, Nat.zero_le _⟩ (fun I93 J93 h93 => ?_)
          obtain ⟨e2_, hR93, h93⟩ := h93
          have e2_ := e2_.symm
          subst e2_
          obtain ⟨fn, hfn, g5, gbad, gok⟩ : ∃ fn, fn < 4 ∧ I93 1 5 = nI fn ∧ (fn ≠ 0 → rdBad t L (0, sk t L (cP2 t L + 2), [], []) I93) ∧ (fn = 0 → rdAny t L (sk t L (cP2 t L + 2)) [] [] I93) := by
            rcases h93 with q | q
            · obtain ⟨f, s2, W2, C2, g1, g2, g3, g4⟩ := q.1
              exact ⟨f, g2, g3, fun _ => q, fun e => by omega⟩
            · exact ⟨0, by decide, by obtain ⟨s2, c2, W2, C2, g1, -⟩ := q; exact g1, fun e => absurd rfl e, fun _ => q⟩
          obtain ⟨s9, hs9⟩ := ex_nI (I93 1 3)
          have hHd : cHd t L = (0, sk t L (cP2 t L + 2)) := by
            unfold cHd
            rw [if_pos hop, if_pos (by rw [← hs1]; exact hb53), if_pos q2]
          have hGe : rdG I I93 := ((((((hG0.trans hF1.R.G).trans hF2.R.G).trans hG4).trans hF5.G.R.G).trans q3.G.R.G).trans hR93.G)
          have hCo : I93 3 3 = cCo t L := by rw [hR93.2.2, q3.1 3 (by decide), hF5.1 3 (by decide)]; exact h433
          refine r_aload_n C 3 (dk oX0_read 53 rfl) rfl ?_
          refine r_ivi C Z (dk oX0_read 54 rfl) cl_X0_63 ci_X8_isAtEnd rfl (kn hn rfl) (c_X8_isAtEnd hn I93 J) rfl rfl (Nat.le_of_ble_eq_true rfl) ⟨Nat.le_of_ble_eq_true rfl, Nat.le_of_ble_eq_true rfl⟩ ⟨Nat.zero_le _, Nat.zero_le _⟩ (fun r97 I97 J97 h97 => ?_)
          obtain ⟨h97, e1_, e2_⟩ := h97
          have e1_ := e1_.symm
          have e2_ := e2_.symm
          subst e1_
          subst e2_
          subst h97
          refine r_if_ne (tgt := 108) C (dk oX0_read 55 rfl) (by decide) (fun hb100 => ?_) (fun hb100 => ?_)
          · rw [b32_n, decide_eq_true_eq] at hb100
            refine hret (dk oX0_read 59 rfl) ?_
            by_cases e0 : fn = 0
            · obtain ⟨s4, c4, W4, C4, p1, p2, p3, p4, p5, p6, p7, p8, p9⟩ := gok e0
              have es : s9 = s4 ∨ True := Or.inr trivial
              have p3' : Cd I93 c4 := p3
              have hK := tkK_0 (t := t) (L := L) (s := s4)
              have hend : I93 1 2 = 0 ↔ L ≤ s4 := by
                rw [p2.2.1]
                constructor
                · intro z
                  rcases Nat.lt_or_ge s4 L with q | q
                  · exfalso
                    have hlt4 := @tkK_lt t L s4
                    rw [nI_eq0 (by omega)] at z
                    cases a1 : isLt (t s4) with
                    | true => rw [(tkK_1 q a1).1] at z; cases z
                    | false =>
                      cases a2 : isDg (t s4) with
                      | true => rw [(tkK_2 q a1 a2).1] at z; cases z
                      | false => rw [(tkK_3 q a1 a2).1] at z; cases z
                  · exact q
                · intro z
                  rw [(hK z).1]; rfl
              have p21 := p2.1
              first
                | (have hL4 : s4 = L := by have := hend.mp hb100; omega
                   refine ⟨rfl, hGe, 0, 0, c4, ⟨by decide, ?_⟩, by rw [g5, e0], p9, fun _ => ⟨p3', hCo⟩⟩
                   rw [hHd, if_pos rfl, if_pos rfl]
                   have hs41 : isS t L s4 41 = false := decide_eq_false (fun z => by omega)
                   have := stp_end hs41 p7 p8 p6
                   rw [if_pos ⟨hL4, rfl⟩] at this
                   exact ⟨s4, p5.then this⟩)
                | (have hL4 : ¬ s4 = L := fun z => hb100 (hend.mpr (by omega))
                   rw [if_pos e0]
                   have e9 : flt I93 1 s9 = flt I93 1 s4 := by unfold flt; rw [← hs9, p2.2.2.1]
                   rw [e9]
                   refine ⟨rfl, hGe.trans (flt_G _ _ _).R.G, 1, s4, [], ⟨by decide, ?_⟩, flt_5 _ _ _, flt_6 _ _ _, fun e => (by cases e)⟩
                   rw [hHd, if_pos rfl, if_neg (by decide)]
                   cases hs41 : isS t L s4 41 with
                   | true => exact ⟨W4, C4, p5.then (stp_closeF hs41 p6)⟩
                   | false =>
                     have := stp_end hs41 p7 p8 p6
                     rw [if_neg (fun z => hL4 z.1)] at this
                     exact ⟨[], [] ++ c4, p5.then this⟩)
            · obtain ⟨⟨f, s4, W4, C4, p1, p2, p3, p4, p5⟩, -⟩ := gbad e0
              have ef : f = fn := by
                have e := p3.symm.trans g5
                rwa [nI_eq (by omega) (by omega)] at e
              subst ef
              first
                | (rw [if_neg e0]
                   refine ⟨rfl, hGe, f, s4, [], ⟨by omega, ?_⟩, g5, by rw [if_neg e0]; exact p4, fun e => absurd e e0⟩
                   rw [hHd, if_pos rfl, if_neg e0]
                   exact ⟨W4, C4, p5⟩)
                | (refine ⟨rfl, hGe, f, s4, [], ⟨by omega, ?_⟩, g5, by rw [if_neg e0]; exact p4, fun e => absurd e e0⟩
                   rw [hHd, if_pos rfl, if_neg e0]
                   exact ⟨W4, C4, p5⟩)
          · rw [b32_0, decide_eq_false_iff_not] at hb100
            refine r_aload_n C 3 (dk oX0_read 56 rfl) rfl ?_
            refine r_iconst C (dk oX0_read 57 rfl) (v := nI 1) (by decide) ?_
            refine r_ivv C Z (dk oX0_read 58 rfl) cl_X0_39 ci_X8_fail rfl (kn hn rfl) (c_X8_fail hn I93 J 1 fn s9 (by omega) g5 hs9) rfl rfl (Nat.le_of_ble_eq_true rfl) ⟨Nat.le_of_ble_eq_true rfl, Nat.le_of_ble_eq_true rfl⟩ ⟨Nat.zero_le _, Nat.zero_le _⟩ (fun I105 J105 h105 => ?_)
            obtain ⟨e1_, e2_⟩ := h105
            have e1_ := e1_.symm
            have e2_ := e2_.symm
            subst e1_
            subst e2_
            refine hret (dk oX0_read 59 rfl) ?_
            by_cases e0 : fn = 0
            · obtain ⟨s4, c4, W4, C4, p1, p2, p3, p4, p5, p6, p7, p8, p9⟩ := gok e0
              have es : s9 = s4 ∨ True := Or.inr trivial
              have p3' : Cd I93 c4 := p3
              have hK := tkK_0 (t := t) (L := L) (s := s4)
              have hend : I93 1 2 = 0 ↔ L ≤ s4 := by
                rw [p2.2.1]
                constructor
                · intro z
                  rcases Nat.lt_or_ge s4 L with q | q
                  · exfalso
                    have hlt4 := @tkK_lt t L s4
                    rw [nI_eq0 (by omega)] at z
                    cases a1 : isLt (t s4) with
                    | true => rw [(tkK_1 q a1).1] at z; cases z
                    | false =>
                      cases a2 : isDg (t s4) with
                      | true => rw [(tkK_2 q a1 a2).1] at z; cases z
                      | false => rw [(tkK_3 q a1 a2).1] at z; cases z
                  · exact q
                · intro z
                  rw [(hK z).1]; rfl
              have p21 := p2.1
              first
                | (have hL4 : s4 = L := by have := hend.mp hb100; omega
                   refine ⟨rfl, hGe, 0, 0, c4, ⟨by decide, ?_⟩, by rw [g5, e0], p9, fun _ => ⟨p3', hCo⟩⟩
                   rw [hHd, if_pos rfl, if_pos rfl]
                   have hs41 : isS t L s4 41 = false := decide_eq_false (fun z => by omega)
                   have := stp_end hs41 p7 p8 p6
                   rw [if_pos ⟨hL4, rfl⟩] at this
                   exact ⟨s4, p5.then this⟩)
                | (have hL4 : ¬ s4 = L := fun z => hb100 (hend.mpr (by omega))
                   rw [if_pos e0]
                   have e9 : flt I93 1 s9 = flt I93 1 s4 := by unfold flt; rw [← hs9, p2.2.2.1]
                   rw [e9]
                   refine ⟨rfl, hGe.trans (flt_G _ _ _).R.G, 1, s4, [], ⟨by decide, ?_⟩, flt_5 _ _ _, flt_6 _ _ _, fun e => (by cases e)⟩
                   rw [hHd, if_pos rfl, if_neg (by decide)]
                   cases hs41 : isS t L s4 41 with
                   | true => exact ⟨W4, C4, p5.then (stp_closeF hs41 p6)⟩
                   | false =>
                     have := stp_end hs41 p7 p8 p6
                     rw [if_neg (fun z => hL4 z.1)] at this
                     exact ⟨[], [] ++ c4, p5.then this⟩)
            · obtain ⟨⟨f, s4, W4, C4, p1, p2, p3, p4, p5⟩, -⟩ := gbad e0
              have ef : f = fn := by
                have e := p3.symm.trans g5
                rwa [nI_eq (by omega) (by omega)] at e
              subst ef
              first
                | (rw [if_neg e0]
                   refine ⟨rfl, hGe, f, s4, [], ⟨by omega, ?_⟩, g5, by rw [if_neg e0]; exact p4, fun e => absurd e e0⟩
                   rw [hHd, if_pos rfl, if_neg e0]
                   exact ⟨W4, C4, p5⟩)
                | (refine ⟨rfl, hGe, f, s4, [], ⟨by omega, ?_⟩, g5, by rw [if_neg e0]; exact p4, fun e => absurd e e0⟩
                   rw [hHd, if_pos rfl, if_neg e0]
                   exact ⟨W4, C4, p5⟩)
        · obtain ⟨q1, e1_, e2_⟩ : ¬ (isW t L (cP2 t L) (sWd 2) = true) ∧ I78 = I5 ∧ J78 = J := by
            rcases h78 with ⟨q1, q2, q3, q4⟩ | ⟨q1, q2, q3⟩
            · rw [q3] at hb81; exact absurd hb81 (by decide)
            · exact ⟨fun z => q1 ⟨rfl, z⟩, q3⟩
          have e1_ := e1_.symm
          have e2_ := e2_.symm
          subst e1_
          subst e2_
          refine r_aload_n C 3 (dk oX0_read 45 rfl) rfl ?_
          refine r_iconst C (dk oX0_read 46 rfl) (v := nI 1) (by decide) ?_
          refine r_ivv C Z (dk oX0_read 47 rfl) cl_X0_39 ci_X8_fail rfl (kn hn rfl) (c_X8_fail hn I5 J 1 0 (cP2 t L) (by decide) h5s hk5.2.2.1) rfl rfl (Nat.le_of_ble_eq_true rfl) ⟨Nat.le_of_ble_eq_true rfl, Nat.le_of_ble_eq_true rfl⟩ ⟨Nat.zero_le _, Nat.zero_le _⟩ (fun I86 J86 h86 => ?_)
          obtain ⟨e1_, e2_⟩ := h86
          rw [if_pos rfl] at e1_
          have e1_ := e1_.symm
          have e2_ := e2_.symm
          subst e1_
          subst e2_
          refine hret (dk oX0_read 48 rfl) ?_
          refine ⟨rfl, (((hG0.trans hF1.R.G).trans hF2.R.G).trans hG4).trans (hF5.G.trans (flt_G _ _ _)).R.G, 1, cP2 t L, [], ⟨by decide, ?_⟩, flt_5 _ _ _, by rw [flt_6]; rfl, fun e => (by cases e)⟩
          have hHd : cHd t L = (1, cP2 t L) := by
            unfold cHd
            rw [if_pos hop, if_pos (by rw [← hs1]; exact hb53), if_neg q1]
          rw [hHd]
          exact ⟨rfl, rfl⟩
      · rw [b32_n] at hb59
        refine r_iload_n C 0 (dk oX0_read 34 rfl) rfl ?_
        refine r_ineg C (dk oX0_read 35 rfl) ?_
        refine r_goto (tgt := 68) C (dk oX0_read 36 rfl) (by decide) ?_
        refine r_putI C (dk oX0_read 38 rfl) fl_X0_51 ft_0_3 rfl (kn hn rfl) ?_
        generalize hI4 : up2 I2 3 3 _ = I4
        have e41 : I4 1 = I2 1 := by rw [← hI4]; exact up2_ne (by decide)
        have hG4 : rdG I2 I4 := by rw [← hI4]; exact (rdG.rf _).up _ _
        have hT4 := hT2.ofRG hG4
        have hC4 : Cd I4 [] := by
          rw [← hI4]
          exact ⟨by decide, by rw [up2_off (by decide), hF2.1 3 (by decide)]; exact hC1.2.1, fun j hj => absurd hj (Nat.not_lt_zero _), by rw [up2_off (by decide), hF2.1 3 (by decide)]; exact hC1.2.2.2⟩
        have h433 : I4 3 3 = cCo t L := by
          rw [← hI4, up2_at]
          unfold cCo
          rw [← hs1]
          first | rw [if_pos hb59] | rw [if_neg (by rw [hb59]; decide)]
        refine r_aload_n C 3 (dk oX0_read 39 rfl) rfl ?_
        refine r_ivv C Z (dk oX0_read 40 rfl) cl_X0_54 ci_X8_next rfl (kn hn rfl) (c_X8_next hn _ J t L hT4 (nE t L s1) (nE_le hk2.1) (by rw [e41, hk2.2.2.2, (tkK_2 hfg.1 hlt hfg.2.1).2])) rfl rfl (Nat.le_of_ble_eq_true rfl) ⟨Nat.le_of_ble_eq_true rfl, Nat.le_of_ble_eq_true rfl⟩ ⟨Nat.zero_le _, Nat.zero_le _⟩ (fun I72 J72 h72 => ?_)
        obtain ⟨hF5, hk5, e2_⟩ := h72
        have e2_ := e2_.symm
        subst e2_
        generalize I72 = I5 at hF5 hk5
        rw [show sk t L (nE t L s1) = cP2 t L from by rw [hs1]; rfl] at hk5
        have hT5 := hT4.ofG hF5.G
        have h5s : I5 1 5 = nI 0 := by rw [hF5.2 5 (by decide) (by decide) (by decide), e41]; exact h25
        have hC5 : Cd I5 [] := (hC4).ofG hF5.G
        refine r_aload_n C 3 (dk oX0_read 41 rfl) rfl ?_
        refine r_ldcS C (dk oX0_read 42 rfl) (Z.2.1 2 (by decide)) ?_
        refine r_ivi C Z (dk oX0_read 43 rfl) cl_X0_33 ci_X8_takesWord rfl (kn hn rfl) (c_X8_takesWord hn I5 J t L hT5 (cP2 t L) 2 0 (by decide) (by decide) h5s (fun _ => hk5)) rfl rfl (Nat.le_of_ble_eq_true rfl) ⟨Nat.le_of_ble_eq_true rfl, Nat.le_of_ble_eq_true rfl⟩ ⟨Nat.zero_le _, Nat.zero_le _⟩ (fun r78 I78 J78 h78 => ?_)
        refine r_if_ne (tgt := 90) C (dk oX0_read 44 rfl) (by decide) (fun hb81 => ?_) (fun hb81 => ?_)
        · obtain ⟨e0, q2, q3, q4, e2_⟩ : (0 = 0) ∧ isW t L (cP2 t L) (sWd 2) = true ∧ txF I5 I78 ∧ Tk I78 t L (sk t L (cP2 t L + (sWd 2).length)) ∧ J78 = J := by
            rcases h78 with ⟨q1, q2, q3, q4⟩ | ⟨q1, q2, q3⟩
            · exact ⟨q1, q2, q4⟩
            · rw [q2] at hb81; exact absurd rfl hb81
          have e2_ := e2_.symm
          subst e2_
          have eW2 : (sWd 2).length = 2 := rfl
          rw [eW2] at q4
          refine r_aload_n C 2 (dk oX0_read 49 rfl) rfl ?_
          refine r_aload_n C 3 (dk oX0_read 50 rfl) rfl ?_
          refine r_iconst C (dk oX0_read 51 rfl) (v := nI 0) (by decide) ?_
          refine r_isv C Z (dk oX0_read 52 rfl) cl_X0_59 st_X0_readAny (c_X0_readAny hn I78 J t L (sk t L (cP2 t L + 2)) [] [] topN_nil topN_nil ⟨hT5.ofG q3.G, hL, q4, by rw [q3.2 5 (by decide) (by decide) (by decide)]; exact h5s, hC5.ofG q3.G, ⟨q4.1, Nat.zero_le _, trivial, (by show opens [] ≤ 8; decide), fun x h => absurd h List.not_mem_nil, fun _ => rfl, fun e => (by cases e), fun e => (by cases e)⟩, rfl, by rw [q3.2 6 (by decide) (by decide) (by decide), hF5.2 6 (by decide) (by decide) (by decide), e41]; exact h26⟩) rfl rfl (Nat.le_of_ble_eq_true rfl) ⟨Nat.le_of_ble_eq_true rfl, Nat.le_of_ble_eq_true rfl⟩ ⟨Nat.zero_le _, Nat.zero_le _⟩ (fun I93 J93 h93 => ?_)
          obtain ⟨e2_, hR93, h93⟩ := h93
          have e2_ := e2_.symm
          subst e2_
          obtain ⟨fn, hfn, g5, gbad, gok⟩ : ∃ fn, fn < 4 ∧ I93 1 5 = nI fn ∧ (fn ≠ 0 → rdBad t L (0, sk t L (cP2 t L + 2), [], []) I93) ∧ (fn = 0 → rdAny t L (sk t L (cP2 t L + 2)) [] [] I93) := by
            rcases h93 with q | q
            · obtain ⟨f, s2, W2, C2, g1, g2, g3, g4⟩ := q.1
              exact ⟨f, g2, g3, fun _ => q, fun e => by omega⟩
            · exact ⟨0, by decide, by obtain ⟨s2, c2, W2, C2, g1, -⟩ := q; exact g1, fun e => absurd rfl e, fun _ => q⟩
          obtain ⟨s9, hs9⟩ := ex_nI (I93 1 3)
          have hHd : cHd t L = (0, sk t L (cP2 t L + 2)) := by
            unfold cHd
            rw [if_pos hop, if_pos (by rw [← hs1]; exact hb53), if_pos q2]
          have hGe : rdG I I93 := ((((((hG0.trans hF1.R.G).trans hF2.R.G).trans hG4).trans hF5.G.R.G).trans q3.G.R.G).trans hR93.G)
          have hCo : I93 3 3 = cCo t L := by rw [hR93.2.2, q3.1 3 (by decide), hF5.1 3 (by decide)]; exact h433
          refine r_aload_n C 3 (dk oX0_read 53 rfl) rfl ?_
          refine r_ivi C Z (dk oX0_read 54 rfl) cl_X0_63 ci_X8_isAtEnd rfl (kn hn rfl) (c_X8_isAtEnd hn I93 J) rfl rfl (Nat.le_of_ble_eq_true rfl) ⟨Nat.le_of_ble_eq_true rfl, Nat.le_of_ble_eq_true rfl⟩ ⟨Nat.zero_le _, Nat.zero_le _⟩ (fun r97 I97 J97 h97 => ?_)
          obtain ⟨h97, e1_, e2_⟩ := h97
          have e1_ := e1_.symm
          have e2_ := e2_.symm
          subst e1_
          subst e2_
          subst h97
          refine r_if_ne (tgt := 108) C (dk oX0_read 55 rfl) (by decide) (fun hb100 => ?_) (fun hb100 => ?_)
          · rw [b32_n, decide_eq_true_eq] at hb100
            refine hret (dk oX0_read 59 rfl) ?_
            by_cases e0 : fn = 0
            · obtain ⟨s4, c4, W4, C4, p1, p2, p3, p4, p5, p6, p7, p8, p9⟩ := gok e0
              have es : s9 = s4 ∨ True := Or.inr trivial
              have p3' : Cd I93 c4 := p3
              have hK := tkK_0 (t := t) (L := L) (s := s4)
              have hend : I93 1 2 = 0 ↔ L ≤ s4 := by
                rw [p2.2.1]
                constructor
                · intro z
                  rcases Nat.lt_or_ge s4 L with q | q
                  · exfalso
                    have hlt4 := @tkK_lt t L s4
                    rw [nI_eq0 (by omega)] at z
                    cases a1 : isLt (t s4) with
                    | true => rw [(tkK_1 q a1).1] at z; cases z
                    | false =>
                      cases a2 : isDg (t s4) with
                      | true => rw [(tkK_2 q a1 a2).1] at z; cases z
                      | false => rw [(tkK_3 q a1 a2).1] at z; cases z
                  · exact q
                · intro z
                  rw [(hK z).1]; rfl
              have p21 := p2.1
              first
                | (have hL4 : s4 = L := by have := hend.mp hb100; omega
                   refine ⟨rfl, hGe, 0, 0, c4, ⟨by decide, ?_⟩, by rw [g5, e0], p9, fun _ => ⟨p3', hCo⟩⟩
                   rw [hHd, if_pos rfl, if_pos rfl]
                   have hs41 : isS t L s4 41 = false := decide_eq_false (fun z => by omega)
                   have := stp_end hs41 p7 p8 p6
                   rw [if_pos ⟨hL4, rfl⟩] at this
                   exact ⟨s4, p5.then this⟩)
                | (have hL4 : ¬ s4 = L := fun z => hb100 (hend.mpr (by omega))
                   rw [if_pos e0]
                   have e9 : flt I93 1 s9 = flt I93 1 s4 := by unfold flt; rw [← hs9, p2.2.2.1]
                   rw [e9]
                   refine ⟨rfl, hGe.trans (flt_G _ _ _).R.G, 1, s4, [], ⟨by decide, ?_⟩, flt_5 _ _ _, flt_6 _ _ _, fun e => (by cases e)⟩
                   rw [hHd, if_pos rfl, if_neg (by decide)]
                   cases hs41 : isS t L s4 41 with
                   | true => exact ⟨W4, C4, p5.then (stp_closeF hs41 p6)⟩
                   | false =>
                     have := stp_end hs41 p7 p8 p6
                     rw [if_neg (fun z => hL4 z.1)] at this
                     exact ⟨[], [] ++ c4, p5.then this⟩)
            · obtain ⟨⟨f, s4, W4, C4, p1, p2, p3, p4, p5⟩, -⟩ := gbad e0
              have ef : f = fn := by
                have e := p3.symm.trans g5
                rwa [nI_eq (by omega) (by omega)] at e
              subst ef
              first
                | (rw [if_neg e0]
                   refine ⟨rfl, hGe, f, s4, [], ⟨by omega, ?_⟩, g5, by rw [if_neg e0]; exact p4, fun e => absurd e e0⟩
                   rw [hHd, if_pos rfl, if_neg e0]
                   exact ⟨W4, C4, p5⟩)
                | (refine ⟨rfl, hGe, f, s4, [], ⟨by omega, ?_⟩, g5, by rw [if_neg e0]; exact p4, fun e => absurd e e0⟩
                   rw [hHd, if_pos rfl, if_neg e0]
                   exact ⟨W4, C4, p5⟩)
          · rw [b32_0, decide_eq_false_iff_not] at hb100
            refine r_aload_n C 3 (dk oX0_read 56 rfl) rfl ?_
            refine r_iconst C (dk oX0_read 57 rfl) (v := nI 1) (by decide) ?_
            refine r_ivv C Z (dk oX0_read 58 rfl) cl_X0_39 ci_X8_fail rfl (kn hn rfl) (c_X8_fail hn I93 J 1 fn s9 (by omega) g5 hs9) rfl rfl (Nat.le_of_ble_eq_true rfl) ⟨Nat.le_of_ble_eq_true rfl, Nat.le_of_ble_eq_true rfl⟩ ⟨Nat.zero_le _, Nat.zero_le _⟩ (fun I105 J105 h105 => ?_)
            obtain ⟨e1_, e2_⟩ := h105
            have e1_ := e1_.symm
            have e2_ := e2_.symm
            subst e1_
            subst e2_
            refine hret (dk oX0_read 59 rfl) ?_
            by_cases e0 : fn = 0
            · obtain ⟨s4, c4, W4, C4, p1, p2, p3, p4, p5, p6, p7, p8, p9⟩ := gok e0
              have es : s9 = s4 ∨ True := Or.inr trivial
              have p3' : Cd I93 c4 := p3
              have hK := tkK_0 (t := t) (L := L) (s := s4)
              have hend : I93 1 2 = 0 ↔ L ≤ s4 := by
                rw [p2.2.1]
                constructor
                · intro z
                  rcases Nat.lt_or_ge s4 L with q | q
                  · exfalso
                    have hlt4 := @tkK_lt t L s4
                    rw [nI_eq0 (by omega)] at z
                    cases a1 : isLt (t s4) with
                    | true => rw [(tkK_1 q a1).1] at z; cases z
                    | false =>
                      cases a2 : isDg (t s4) with
                      | true => rw [(tkK_2 q a1 a2).1] at z; cases z
                      | false => rw [(tkK_3 q a1 a2).1] at z; cases z
                  · exact q
                · intro z
                  rw [(hK z).1]; rfl
              have p21 := p2.1
              first
                | (have hL4 : s4 = L := by have := hend.mp hb100; omega
                   refine ⟨rfl, hGe, 0, 0, c4, ⟨by decide, ?_⟩, by rw [g5, e0], p9, fun _ => ⟨p3', hCo⟩⟩
                   rw [hHd, if_pos rfl, if_pos rfl]
                   have hs41 : isS t L s4 41 = false := decide_eq_false (fun z => by omega)
                   have := stp_end hs41 p7 p8 p6
                   rw [if_pos ⟨hL4, rfl⟩] at this
                   exact ⟨s4, p5.then this⟩)
                | (have hL4 : ¬ s4 = L := fun z => hb100 (hend.mpr (by omega))
                   rw [if_pos e0]
                   have e9 : flt I93 1 s9 = flt I93 1 s4 := by unfold flt; rw [← hs9, p2.2.2.1]
                   rw [e9]
                   refine ⟨rfl, hGe.trans (flt_G _ _ _).R.G, 1, s4, [], ⟨by decide, ?_⟩, flt_5 _ _ _, flt_6 _ _ _, fun e => (by cases e)⟩
                   rw [hHd, if_pos rfl, if_neg (by decide)]
                   cases hs41 : isS t L s4 41 with
                   | true => exact ⟨W4, C4, p5.then (stp_closeF hs41 p6)⟩
                   | false =>
                     have := stp_end hs41 p7 p8 p6
                     rw [if_neg (fun z => hL4 z.1)] at this
                     exact ⟨[], [] ++ c4, p5.then this⟩)
            · obtain ⟨⟨f, s4, W4, C4, p1, p2, p3, p4, p5⟩, -⟩ := gbad e0
              have ef : f = fn := by
                have e := p3.symm.trans g5
                rwa [nI_eq (by omega) (by omega)] at e
              subst ef
              first
                | (rw [if_neg e0]
                   refine ⟨rfl, hGe, f, s4, [], ⟨by omega, ?_⟩, g5, by rw [if_neg e0]; exact p4, fun e => absurd e e0⟩
                   rw [hHd, if_pos rfl, if_neg e0]
                   exact ⟨W4, C4, p5⟩)
                | (refine ⟨rfl, hGe, f, s4, [], ⟨by omega, ?_⟩, g5, by rw [if_neg e0]; exact p4, fun e => absurd e e0⟩
                   rw [hHd, if_pos rfl, if_neg e0]
                   exact ⟨W4, C4, p5⟩)
        · obtain ⟨q1, e1_, e2_⟩ : ¬ (isW t L (cP2 t L) (sWd 2) = true) ∧ I78 = I5 ∧ J78 = J := by
            rcases h78 with ⟨q1, q2, q3, q4⟩ | ⟨q1, q2, q3⟩
            · rw [q3] at hb81; exact absurd hb81 (by decide)
            · exact ⟨fun z => q1 ⟨rfl, z⟩, q3⟩
          have e1_ := e1_.symm
          have e2_ := e2_.symm
          subst e1_
          subst e2_
          refine r_aload_n C 3 (dk oX0_read 45 rfl) rfl ?_
          refine r_iconst C (dk oX0_read 46 rfl) (v := nI 1) (by decide) ?_
          refine r_ivv C Z (dk oX0_read 47 rfl) cl_X0_39 ci_X8_fail rfl (kn hn rfl) (c_X8_fail hn I5 J 1 0 (cP2 t L) (by decide) h5s hk5.2.2.1) rfl rfl (Nat.le_of_ble_eq_true rfl) ⟨Nat.le_of_ble_eq_true rfl, Nat.le_of_ble_eq_true rfl⟩ ⟨Nat.zero_le _, Nat.zero_le _⟩ (fun I86 J86 h86 => ?_)
          obtain ⟨e1_, e2_⟩ := h86
          rw [if_pos rfl] at e1_
          have e1_ := e1_.symm
          have e2_ := e2_.symm
          subst e1_
          subst e2_
          refine hret (dk oX0_read 48 rfl) ?_
          refine ⟨rfl, (((hG0.trans hF1.R.G).trans hF2.R.G).trans hG4).trans (hF5.G.trans (flt_G _ _ _)).R.G, 1, cP2 t L, [], ⟨by decide, ?_⟩, flt_5 _ _ _, by rw [flt_6]; rfl, fun e => (by cases e)⟩
          have hHd : cHd t L = (1, cP2 t L) := by
            unfold cHd
            rw [if_pos hop, if_pos (by rw [← hs1]; exact hb53), if_neg q1]
          rw [hHd]
          exact ⟨rfl, rfl⟩
    · rw [b32_0, decide_eq_false_iff_not] at hb53
      refine hret (dk oX0_read 30 rfl) ?_
      obtain ⟨-, er, eI⟩ : nmF t L s1 1 999 ≠ 0 ∧ r45 = -1 ∧ I45 = flt I2 (nmF t L s1 1 999) s1 := by
        rcases h45 with q | q
        · exact absurd q.1 hb53
        · exact q
      refine ⟨rfl, ((hG0.trans hF1.R.G).trans hF2.R.G).trans hG45.R.G, nmF t L s1 1 999, s1, [], ⟨by omega, ?_⟩, h55, by rw [eI, flt_6, if_neg hb53], fun e => absurd e hb53⟩
      have hHd : cHd t L = (nmF t L s1 1 999, s1) := by
        unfold cHd
        rw [if_pos hop, ← hs1, if_neg hb53]
      rw [hHd, if_neg hb53]
      exact ⟨rfl, rfl⟩
  · rw [b32_0] at hb22
    obtain ⟨e1_, e2_⟩ : I17 = I11 ∧ J17 = J := by
      rcases h17 with ⟨q1, q2, q3, q4⟩ | ⟨q1, q2, q3⟩
      · unfold cOwe at hb22; rw [← hs0, q2] at hb22; cases hb22
      · exact q3
    have e1_ := e1_.symm
    have e2_ := e2_.symm
    subst e1_
    subst e2_
    refine r_aload_n C 2 (dk oX0_read 14 rfl) rfl ?_
    refine r_ldcS C (dk oX0_read 15 rfl) (Z.2.1 1 (by decide)) ?_
    refine r_ivi C Z (dk oX0_read 16 rfl) cl_X0_33 ci_X8_takesWord rfl (kn hn rfl) (c_X8_takesWord hn I11 J t L hT1 s0 1 0 (by decide) (by decide) h15 (fun _ => hk1)) rfl rfl (Nat.le_of_ble_eq_true rfl) ⟨Nat.le_of_ble_eq_true rfl, Nat.le_of_ble_eq_true rfl⟩ ⟨Nat.zero_le _, Nat.zero_le _⟩ (fun r28 I28 J28 h28 => ?_)
    refine r_if_ne (tgt := 40) C (dk oX0_read 17 rfl) (by decide) (fun hb31 => ?_) (fun hb31 => ?_)
    · obtain ⟨e0, q2, q3, q4, e2_⟩ : (0 = 0) ∧ isW t L s0 (sWd 1) = true ∧ txF I11 I28 ∧ Tk I28 t L (sk t L (s0 + (sWd 1).length)) ∧ J28 = J := by
        rcases h28 with ⟨q1, q2, q3, q4⟩ | ⟨q1, q2, q3⟩
        · exact ⟨q1, q2, q4⟩
        · rw [q2] at hb31; exact absurd rfl hb31
      have e2_ := e2_.symm
      subst e2_
      generalize I28 = I2 at q3 q4
      have hop : cOwe t L = true ∨ cPay t L = true := Or.inr (by unfold cPay; rw [← hs0]; exact q2)
      obtain ⟨s1, hs1⟩ : ∃ s1, s1 = cP1 t L := ⟨_, rfl⟩
      have hk2 : Tk I2 t L s1 := by rw [hs1]; unfold cP1; rw [← hs0]; exact q4
      have hF2 := q3.G
      have hT2 := hT1.ofG hF2
      have h25 : I2 1 5 = nI 0 := by rw [q3.2 5 (by decide) (by decide) (by decide)]; exact h15
      have h26 : I2 1 6 = -1 := by rw [q3.2 6 (by decide) (by decide) (by decide)]; exact h16
      clear q2 q3 q4
      refine r_aload_n C 2 (dk oX0_read 22 rfl) rfl ?_
      refine r_iconst C (dk oX0_read 23 rfl) (v := nI 1) (by decide) ?_
      refine r_sipush C (dk oX0_read 24 rfl) (v := nI 999) (by decide) ?_
      refine r_ivi C Z (dk oX0_read 25 rfl) cl_X0_43 ci_X8_numberHere rfl (kn hn rfl) (c_X8_numberHere hn I2 J t L hT2 s1 1 999 h25 hk2 (by decide) (by decide)) rfl rfl (Nat.le_of_ble_eq_true rfl) ⟨Nat.le_of_ble_eq_true rfl, Nat.le_of_ble_eq_true rfl⟩ ⟨Nat.zero_le _, Nat.zero_le _⟩ (fun r45 I45 J45 h45 => ?_)
      obtain ⟨h45, e2_⟩ := h45
      have e2_ := e2_.symm
      subst e2_
      have hG45 : txG I2 I45 := by
        rcases h45 with ⟨-, -, e⟩ | ⟨-, -, e⟩
        · rw [e]; exact txG.rf _
        · rw [e]; exact flt_G _ _ _
      have hf3 := @nmF_lt t L s1 1 999
      have h55 : I45 1 5 = nI (nmF t L s1 1 999) := by
        rcases h45 with ⟨e0, -, e⟩ | ⟨-, -, e⟩
        · rw [e, h25, e0]
        · rw [e, flt_5]
      refine r_istore_n (lo' := [(3, _), (2, _), (0, _), (1, _)]) C (dk oX0_read 26 rfl) rfl (by decide) rfl ?_
      refine r_aload_n C 3 (dk oX0_read 27 rfl) rfl ?_
      refine r_ivi C Z (dk oX0_read 28 rfl) cl_X0_47 ci_X8_isSound rfl (kn hn rfl) (c_X8_isSound hn I45 J (nmF t L s1 1 999) (by omega) h55) rfl rfl (Nat.le_of_ble_eq_true rfl) ⟨Nat.le_of_ble_eq_true rfl, Nat.le_of_ble_eq_true rfl⟩ ⟨Nat.zero_le _, Nat.zero_le _⟩ (fun r50 I50 J50 h50 => ?_)
      obtain ⟨h50, e1_, e2_⟩ := h50
      have e1_ := e1_.symm
      have e2_ := e2_.symm
      subst e1_
      subst e2_
      subst h50
      refine r_if_ne (tgt := 57) C (dk oX0_read 29 rfl) (by decide) (fun hb53 => ?_) (fun hb53 => ?_)
      · rw [b32_n, decide_eq_true_eq] at hb53
        have hfg := nmF_fig hb53
        have hlt : isLt (t s1) = false := by
          have := hfg.2.1
          simp only [isDg, decide_eq_true_eq] at this
          exact isLt_f (by omega)
        obtain ⟨-, er, eI⟩ : nmF t L s1 1 999 = 0 ∧ r45 = nI (nmV t L s1) ∧ I45 = I2 := by
          rcases h45 with q | q
          · exact q
          · exact absurd hb53 q.1
        subst er
        have eI := eI.symm
        subst eI
        refine r_aload_n C 2 (dk oX0_read 31 rfl) rfl ?_
        refine r_iload_n C 1 (dk oX0_read 32 rfl) rfl ?_
        refine r_if_eq (tgt := 67) C (dk oX0_read 33 rfl) (by decide) (fun hb59 => ?_) (fun hb59 => ?_)
        · rw [b32_0] at hb59
          refine r_iload_n C 0 (dk oX0_read 37 rfl) rfl ?_
          refine r_putI C (dk oX0_read 38 rfl) fl_X0_51 ft_0_3 rfl (kn hn rfl) ?_
          generalize hI4 : up2 I2 3 3 _ = I4
          have e41 : I4 1 = I2 1 := by rw [← hI4]; exact up2_ne (by decide)
          have hG4 : rdG I2 I4 := by rw [← hI4]; exact (rdG.rf _).up _ _
          have hT4 := hT2.ofRG hG4
          have hC4 : Cd I4 [] := by
            rw [← hI4]
            exact ⟨by decide, by rw [up2_off (by decide), hF2.1 3 (by decide)]; exact hC1.2.1, fun j hj => absurd hj (Nat.not_lt_zero _), by rw [up2_off (by decide), hF2.1 3 (by decide)]; exact hC1.2.2.2⟩
          have h433 : I4 3 3 = cCo t L := by
            rw [← hI4, up2_at]
            unfold cCo
            rw [← hs1]
            first | rw [if_pos hb59] | rw [if_neg (by rw [hb59]; decide)]
          refine r_aload_n C 3 (dk oX0_read 39 rfl) rfl ?_
          refine r_ivv C Z (dk oX0_read 40 rfl) cl_X0_54 ci_X8_next rfl (kn hn rfl) (c_X8_next hn _ J t L hT4 (nE t L s1) (nE_le hk2.1) (by rw [e41, hk2.2.2.2, (tkK_2 hfg.1 hlt hfg.2.1).2])) rfl rfl (Nat.le_of_ble_eq_true rfl) ⟨Nat.le_of_ble_eq_true rfl, Nat.le_of_ble_eq_true rfl⟩ ⟨Nat.zero_le _, Nat.zero_le _⟩ (fun I72 J72 h72 => ?_)
          obtain ⟨hF5, hk5, e2_⟩ := h72
          have e2_ := e2_.symm
          subst e2_
          generalize I72 = I5 at hF5 hk5
          rw [show sk t L (nE t L s1) = cP2 t L from by rw [hs1]; rfl] at hk5
          have hT5 := hT4.ofG hF5.G
          have h5s : I5 1 5 = nI 0 := by rw [hF5.2 5 (by decide) (by decide) (by decide), e41]; exact h25
          have hC5 : Cd I5 [] := (hC4).ofG hF5.G
          refine r_aload_n C 3 (dk oX0_read 41 rfl) rfl ?_
          refine r_ldcS C (dk oX0_read 42 rfl) (Z.2.1 2 (by decide)) ?_
          refine r_ivi C Z (dk oX0_read 43 rfl) cl_X0_33 ci_X8_takesWord rfl (kn hn rfl) (c_X8_takesWord hn I5 J t L hT5 (cP2 t L) 2 0 (by decide) (by decide) h5s (fun _ => hk5)) rfl rfl (Nat.le_of_ble_eq_true rfl) ⟨Nat.le_of_ble_eq_true rfl, Nat.le_of_ble_eq_true rfl⟩ ⟨Nat.zero_le _, Nat.zero_le _⟩ (fun r78 I78 J78 h78 => ?_)
          refine r_if_ne (tgt := 90) C (dk oX0_read 44 rfl) (by decide) (fun hb81 => ?_) (fun hb81 => ?_)
          · obtain ⟨e0, q2, q3, q4, e2_⟩ : (0 = 0) ∧ isW t L (cP2 t L) (sWd 2) = true ∧ txF I5 I78 ∧ Tk I78 t L (sk t L (cP2 t L + (sWd 2).length)) ∧ J78 = J := by
              rcases h78 with ⟨q1, q2, q3, q4⟩ | ⟨q1, q2, q3⟩
              · exact ⟨q1, q2, q4⟩
              · rw [q2] at hb81; exact absurd rfl hb81
            have e2_ := e2_.symm
            subst e2_
            have eW2 : (sWd 2).length = 2 := rfl
            rw [eW2] at q4
            refine r_aload_n C 2 (dk oX0_read 49 rfl) rfl ?_
            refine r_aload_n C 3 (dk oX0_read 50 rfl) rfl ?_
            refine r_iconst C (dk oX0_read 51 rfl) (v := nI 0) (by decide) ?_
            refine r_isv C Z (dk oX0_read 52 rfl) cl_X0_59 st_X0_readAny (c_X0_readAny hn I78 J t L (sk t L (cP2 t L + 2)) [] [] topN_nil topN_nil ⟨hT5.ofG q3.G, hL, q4, by rw [q3.2 5 (by decide) (by decide) (by decide)]; exact h5s, hC5.ofG q3.G, ⟨q4.1, Nat.zero_le _, trivial, (by show opens [] ≤ 8; decide), fun x h => absurd h List.not_mem_nil, fun _ => rfl, fun e => (by cases e), fun e => (by cases e)⟩, rfl, by rw [q3.2 6 (by decide) (by decide) (by decide), hF5.2 6 (by decide) (by decide) (by decide), e41]; exact h26⟩) rfl rfl (Nat.le_of_ble_eq_true rfl) ⟨Nat.le_of_ble_eq_true rfl, Nat.le_of_ble_eq_true rfl⟩ ⟨Nat.zero_le _, Nat.zero_le _⟩ (fun I93 J93 h93 => ?_)
            obtain ⟨e2_, hR93, h93⟩ := h93
            have e2_ := e2_.symm
            subst e2_
            obtain ⟨fn, hfn, g5, gbad, gok⟩ : ∃ fn, fn < 4 ∧ I93 1 5 = nI fn ∧ (fn ≠ 0 → rdBad t L (0, sk t L (cP2 t L + 2), [], []) I93) ∧ (fn = 0 → rdAny t L (sk t L (cP2 t L + 2)) [] [] I93) := by
              rcases h93 with q | q
              · obtain ⟨f, s2, W2, C2, g1, g2, g3, g4⟩ := q.1
                exact ⟨f, g2, g3, fun _ => q, fun e => by omega⟩
              · exact ⟨0, by decide, by obtain ⟨s2, c2, W2, C2, g1, -⟩ := q; exact g1, fun e => absurd rfl e, fun _ => q⟩
            obtain ⟨s9, hs9⟩ := ex_nI (I93 1 3)
            have hHd : cHd t L = (0, sk t L (cP2 t L + 2)) := by
              unfold cHd
              rw [if_pos hop, if_pos (by rw [← hs1]; exact hb53), if_pos q2]
            have hGe : rdG I I93 := ((((((hG0.trans hF1.R.G).trans hF2.R.G).trans hG4).trans hF5.G.R.G).trans q3.G.R.G).trans hR93.G)
            have hCo : I93 3 3 = cCo t L := by rw [hR93.2.2, q3.1 3 (by decide), hF5.1 3 (by decide)]; exact h433
            refine r_aload_n C 3 (dk oX0_read 53 rfl) rfl ?_
            refine r_ivi C Z (dk oX0_read 54 rfl) cl_X0_63 ci_X8_isAtEnd rfl (kn hn rfl) (c_X8_isAtEnd hn I93 J) rfl rfl (Nat.le_of_ble_eq_true rfl) ⟨Nat.le_of_ble_eq_true rfl, Nat.le_of_ble_eq_true rfl⟩ ⟨Nat.zero_le _, Nat.zero_le _⟩ (fun r97 I97 J97 h97 => ?_)
            obtain ⟨h97, e1_, e2_⟩ := h97
            have e1_ := e1_.symm
            have e2_ := e2_.symm
            subst e1_
            subst e2_
            subst h97
            refine r_if_ne (tgt := 108) C (dk oX0_read 55 rfl) (by decide) (fun hb100 => ?_) (fun hb100 => ?_)
            · rw [b32_n, decide_eq_true_eq] at hb100
              refine hret (dk oX0_read 59 rfl) ?_
              by_cases e0 : fn = 0
              · obtain ⟨s4, c4, W4, C4, p1, p2, p3, p4, p5, p6, p7, p8, p9⟩ := gok e0
                have es : s9 = s4 ∨ True := Or.inr trivial
                have p3' : Cd I93 c4 := p3
                have hK := tkK_0 (t := t) (L := L) (s := s4)
                have hend : I93 1 2 = 0 ↔ L ≤ s4 := by
                  rw [p2.2.1]
                  constructor
                  · intro z
                    rcases Nat.lt_or_ge s4 L with q | q
                    · exfalso
                      have hlt4 := @tkK_lt t L s4
                      rw [nI_eq0 (by omega)] at z
                      cases a1 : isLt (t s4) with
                      | true => rw [(tkK_1 q a1).1] at z; cases z
                      | false =>
                        cases a2 : isDg (t s4) with
                        | true => rw [(tkK_2 q a1 a2).1] at z; cases z
                        | false => rw [(tkK_3 q a1 a2).1] at z; cases z
                    · exact q
                  · intro z
                    rw [(hK z).1]; rfl
                have p21 := p2.1
                first
                  | (have hL4 : s4 = L := by have := hend.mp hb100; omega
                     refine ⟨rfl, hGe, 0, 0, c4, ⟨by decide, ?_⟩, by rw [g5, e0], p9, fun _ => ⟨p3', hCo⟩⟩
                     rw [hHd, if_pos rfl, if_pos rfl]
                     have hs41 : isS t L s4 41 = false := decide_eq_false (fun z => by omega)
                     have := stp_end hs41 p7 p8 p6
                     rw [if_pos ⟨hL4, rfl⟩] at this
                     exact ⟨s4, p5.then this⟩)
                  | (have hL4 : ¬ s4 = L := fun z => hb100 (hend.mpr (by omega))
                     rw [if_pos e0]
                     have e9 : flt I93 1 s9 = flt I93 1 s4 := by unfold flt; rw [← hs9, p2.2.2.1]
                     rw [e9]
                     refine ⟨rfl, hGe.trans (flt_G _ _ _).R.G, 1, s4, [], ⟨by decide, ?_⟩, flt_5 _ _ _, flt_6 _ _ _, fun e => (by cases e)⟩
                     rw [hHd, if_pos rfl, if_neg (by decide)]
                     cases hs41 : isS t L s4 41 with
                     | true => exact ⟨W4, C4, p5.then (stp_closeF hs41 p6)⟩
                     | false =>
                       have := stp_end hs41 p7 p8 p6
                       rw [if_neg (fun z => hL4 z.1)] at this
                       exact ⟨[], [] ++ c4, p5.then this⟩)
              · obtain ⟨⟨f, s4, W4, C4, p1, p2, p3, p4, p5⟩, -⟩ := gbad e0
                have ef : f = fn := by
                  have e := p3.symm.trans g5
                  rwa [nI_eq (by omega) (by omega)] at e
                subst ef
                first
                  | (rw [if_neg e0]
                     refine ⟨rfl, hGe, f, s4, [], ⟨by omega, ?_⟩, g5, by rw [if_neg e0]; exact p4, fun e => absurd e e0⟩
                     rw [hHd, if_pos rfl, if_neg e0]
                     exact ⟨W4, C4, p5⟩)
                  | (refine ⟨rfl, hGe, f, s4, [], ⟨by omega, ?_⟩, g5, by rw [if_neg e0]; exact p4, fun e => absurd e e0⟩
                     rw [hHd, if_pos rfl, if_neg e0]
                     exact ⟨W4, C4, p5⟩)
            · rw [b32_0, decide_eq_false_iff_not] at hb100
              refine r_aload_n C 3 (dk oX0_read 56 rfl) rfl ?_
              refine r_iconst C (dk oX0_read 57 rfl) (v := nI 1) (by decide) ?_
              refine r_ivv C Z (dk oX0_read 58 rfl) cl_X0_39 ci_X8_fail rfl (kn hn rfl) (c_X8_fail hn I93 J 1 fn s9 (by omega) g5 hs9) rfl rfl (Nat.le_of_ble_eq_true rfl) ⟨Nat.le_of_ble_eq_true rfl, Nat.le_of_ble_eq_true rfl⟩ ⟨Nat.zero_le _, Nat.zero_le _⟩ (fun I105 J105 h105 => ?_)
              obtain ⟨e1_, e2_⟩ := h105
              have e1_ := e1_.symm
              have e2_ := e2_.symm
              subst e1_
              subst e2_
              refine hret (dk oX0_read 59 rfl) ?_
              by_cases e0 : fn = 0
              · obtain ⟨s4, c4, W4, C4, p1, p2, p3, p4, p5, p6, p7, p8, p9⟩ := gok e0
                have es : s9 = s4 ∨ True := Or.inr trivial
                have p3' : Cd I93 c4 := p3
                have hK := tkK_0 (t := t) (L := L) (s := s4)
                have hend : I93 1 2 = 0 ↔ L ≤ s4 := by
                  rw [p2.2.1]
                  constructor
                  · intro z
                    rcases Nat.lt_or_ge s4 L with q | q
                    · exfalso
                      have hlt4 := @tkK_lt t L s4
                      rw [nI_eq0 (by omega)] at z
                      cases a1 : isLt (t s4) with
                      | true => rw [(tkK_1 q a1).1] at z; cases z
                      | false =>
                        cases a2 : isDg (t s4) with
                        | true => rw [(tkK_2 q a1 a2).1] at z; cases z
                        | false => rw [(tkK_3 q a1 a2).1] at z; cases z
                    · exact q
                  · intro z
                    rw [(hK z).1]; rfl
                have p21 := p2.1
                first
                  | (have hL4 : s4 = L := by have := hend.mp hb100; omega
                     refine ⟨rfl, hGe, 0, 0, c4, ⟨by decide, ?_⟩, by rw [g5, e0], p9, fun _ => ⟨p3', hCo⟩⟩
                     rw [hHd, if_pos rfl, if_pos rfl]
                     have hs41 : isS t L s4 41 = false := decide_eq_false (fun z => by omega)
                     have := stp_end hs41 p7 p8 p6
                     rw [if_pos ⟨hL4, rfl⟩] at this
                     exact ⟨s4, p5.then this⟩)
                  | (have hL4 : ¬ s4 = L := fun z => hb100 (hend.mpr (by omega))
                     rw [if_pos e0]
                     have e9 : flt I93 1 s9 = flt I93 1 s4 := by unfold flt; rw [← hs9, p2.2.2.1]
                     rw [e9]
                     refine ⟨rfl, hGe.trans (flt_G _ _ _).R.G, 1, s4, [], ⟨by decide, ?_⟩, flt_5 _ _ _, flt_6 _ _ _, fun e => (by cases e)⟩
                     rw [hHd, if_pos rfl, if_neg (by decide)]
                     cases hs41 : isS t L s4 41 with
                     | true => exact ⟨W4, C4, p5.then (stp_closeF hs41 p6)⟩
                     | false =>
                       have := stp_end hs41 p7 p8 p6
                       rw [if_neg (fun z => hL4 z.1)] at this
                       exact ⟨[], [] ++ c4, p5.then this⟩)
              · obtain ⟨⟨f, s4, W4, C4, p1, p2, p3, p4, p5⟩, -⟩ := gbad e0
                have ef : f = fn := by
                  have e := p3.symm.trans g5
                  rwa [nI_eq (by omega) (by omega)] at e
                subst ef
                first
                  | (rw [if_neg e0]
                     refine ⟨rfl, hGe, f, s4, [], ⟨by omega, ?_⟩, g5, by rw [if_neg e0]; exact p4, fun e => absurd e e0⟩
                     rw [hHd, if_pos rfl, if_neg e0]
                     exact ⟨W4, C4, p5⟩)
                  | (refine ⟨rfl, hGe, f, s4, [], ⟨by omega, ?_⟩, g5, by rw [if_neg e0]; exact p4, fun e => absurd e e0⟩
                     rw [hHd, if_pos rfl, if_neg e0]
                     exact ⟨W4, C4, p5⟩)
          · obtain ⟨q1, e1_, e2_⟩ : ¬ (isW t L (cP2 t L) (sWd 2) = true) ∧ I78 = I5 ∧ J78 = J := by
              rcases h78 with ⟨q1, q2, q3, q4⟩ | ⟨q1, q2, q3⟩
              · rw [q3] at hb81; exact absurd hb81 (by decide)
              · exact ⟨fun z => q1 ⟨rfl, z⟩, q3⟩
            have e1_ := e1_.symm
            have e2_ := e2_.symm
            subst e1_
            subst e2_
            refine r_aload_n C 3 (dk oX0_read 45 rfl) rfl ?_
            refine r_iconst C (dk oX0_read 46 rfl) (v := nI 1) (by decide) ?_
            refine r_ivv C Z (dk oX0_read 47 rfl) cl_X0_39 ci_X8_fail rfl (kn hn rfl) (c_X8_fail hn I5 J 1 0 (cP2 t L) (by decide) h5s hk5.2.2.1) rfl rfl (Nat.le_of_ble_eq_true rfl) ⟨Nat.le_of_ble_eq_true rfl, Nat.le_of_ble_eq_true rfl⟩ ⟨Nat.zero_le _, Nat.zero_le _⟩ (fun I86 J86 h86 => ?_)
            obtain ⟨e1_, e2_⟩ := h86
            rw [if_pos rfl] at e1_
            have e1_ := e1_.symm
            have e2_ := e2_.symm
            subst e1_
            subst e2_
            refine hret (dk oX0_read 48 rfl) ?_
            refine ⟨rfl, (((hG0.trans hF1.R.G).trans hF2.R.G).trans hG4).trans (hF5.G.trans (flt_G _ _ _)).R.G, 1, cP2 t L, [], ⟨by decide, ?_⟩, flt_5 _ _ _, by rw [flt_6]; rfl, fun e => (by cases e)⟩
            have hHd : cHd t L = (1, cP2 t L) := by
              unfold cHd
              rw [if_pos hop, if_pos (by rw [← hs1]; exact hb53), if_neg q1]
            rw [hHd]
            exact ⟨rfl, rfl⟩
        · rw [b32_n] at hb59
          refine r_iload_n C 0 (dk oX0_read 34 rfl) rfl ?_
          refine r_ineg C (dk oX0_read 35 rfl) ?_
          refine r_goto (tgt := 68) C (dk oX0_read 36 rfl) (by decide) ?_
          refine r_putI C (dk oX0_read 38 rfl) fl_X0_51 ft_0_3 rfl (kn hn rfl) ?_
          generalize hI4 : up2 I2 3 3 _ = I4
          have e41 : I4 1 = I2 1 := by rw [← hI4]; exact up2_ne (by decide)
          have hG4 : rdG I2 I4 := by rw [← hI4]; exact (rdG.rf _).up _ _
          have hT4 := hT2.ofRG hG4
          have hC4 : Cd I4 [] := by
            rw [← hI4]
            exact ⟨by decide, by rw [up2_off (by decide), hF2.1 3 (by decide)]; exact hC1.2.1, fun j hj => absurd hj (Nat.not_lt_zero _), by rw [up2_off (by decide), hF2.1 3 (by decide)]; exact hC1.2.2.2⟩
          have h433 : I4 3 3 = cCo t L := by
            rw [← hI4, up2_at]
            unfold cCo
            rw [← hs1]
            first | rw [if_pos hb59] | rw [if_neg (by rw [hb59]; decide)]
          refine r_aload_n C 3 (dk oX0_read 39 rfl) rfl ?_
          refine r_ivv C Z (dk oX0_read 40 rfl) cl_X0_54 ci_X8_next rfl (kn hn rfl) (c_X8_next hn _ J t L hT4 (nE t L s1) (nE_le hk2.1) (by rw [e41, hk2.2.2.2, (tkK_2 hfg.1 hlt hfg.2.1).2])) rfl rfl (Nat.le_of_ble_eq_true rfl) ⟨Nat.le_of_ble_eq_true rfl, Nat.le_of_ble_eq_true rfl⟩ ⟨Nat.zero_le _, Nat.zero_le _⟩ (fun I72 J72 h72 => ?_)
          obtain ⟨hF5, hk5, e2_⟩ := h72
          have e2_ := e2_.symm
          subst e2_
          generalize I72 = I5 at hF5 hk5
          rw [show sk t L (nE t L s1) = cP2 t L from by rw [hs1]; rfl] at hk5
          have hT5 := hT4.ofG hF5.G
          have h5s : I5 1 5 = nI 0 := by rw [hF5.2 5 (by decide) (by decide) (by decide), e41]; exact h25
          have hC5 : Cd I5 [] := (hC4).ofG hF5.G
          refine r_aload_n C 3 (dk oX0_read 41 rfl) rfl ?_
          refine r_ldcS C (dk oX0_read 42 rfl) (Z.2.1 2 (by decide)) ?_
          refine r_ivi C Z (dk oX0_read 43 rfl) cl_X0_33 ci_X8_takesWord rfl (kn hn rfl) (c_X8_takesWord hn I5 J t L hT5 (cP2 t L) 2 0 (by decide) (by decide) h5s (fun _ => hk5)) rfl rfl (Nat.le_of_ble_eq_true rfl) ⟨Nat.le_of_ble_eq_true rfl, Nat.le_of_ble_eq_true rfl⟩ ⟨Nat.zero_le _, Nat.zero_le _⟩ (fun r78 I78 J78 h78 => ?_)
          refine r_if_ne (tgt := 90) C (dk oX0_read 44 rfl) (by decide) (fun hb81 => ?_) (fun hb81 => ?_)
          · obtain ⟨e0, q2, q3, q4, e2_⟩ : (0 = 0) ∧ isW t L (cP2 t L) (sWd 2) = true ∧ txF I5 I78 ∧ Tk I78 t L (sk t L (cP2 t L + (sWd 2).length)) ∧ J78 = J := by
              rcases h78 with ⟨q1, q2, q3, q4⟩ | ⟨q1, q2, q3⟩
              · exact ⟨q1, q2, q4⟩
              · rw [q2] at hb81; exact absurd rfl hb81
            have e2_ := e2_.symm
            subst e2_
            have eW2 : (sWd 2).length = 2 := rfl
            rw [eW2] at q4
            refine r_aload_n C 2 (dk oX0_read 49 rfl) rfl ?_
            refine r_aload_n C 3 (dk oX0_read 50 rfl) rfl ?_
            refine r_iconst C (dk oX0_read 51 rfl) (v := nI 0) (by decide) ?_
            refine r_isv C Z (dk oX0_read 52 rfl) cl_X0_59 st_X0_readAny (c_X0_readAny hn I78 J t L (sk t L (cP2 t L + 2)) [] [] topN_nil topN_nil ⟨hT5.ofG q3.G, hL, q4, by rw [q3.2 5 (by decide) (by decide) (by decide)]; exact h5s, hC5.ofG q3.G, ⟨q4.1, Nat.zero_le _, trivial, (by show opens [] ≤ 8; decide), fun x h => absurd h List.not_mem_nil, fun _ => rfl, fun e => (by cases e), fun e => (by cases e)⟩, rfl, by rw [q3.2 6 (by decide) (by decide) (by decide), hF5.2 6 (by decide) (by decide) (by decide), e41]; exact h26⟩) rfl rfl (Nat.le_of_ble_eq_true rfl) ⟨Nat.le_of_ble_eq_true rfl, Nat.le_of_ble_eq_true rfl⟩ ⟨Nat.zero_le _, Nat.zero_le _⟩ (fun I93 J93 h93 => ?_)
            obtain ⟨e2_, hR93, h93⟩ := h93
            have e2_ := e2_.symm
            subst e2_
            obtain ⟨fn, hfn, g5, gbad, gok⟩ : ∃ fn, fn < 4 ∧ I93 1 5 = nI fn ∧ (fn ≠ 0 → rdBad t L (0, sk t L (cP2 t L + 2), [], []) I93) ∧ (fn = 0 → rdAny t L (sk t L (cP2 t L + 2)) [] [] I93) := by
              rcases h93 with q | q
              · obtain ⟨f, s2, W2, C2, g1, g2, g3, g4⟩ := q.1
                exact ⟨f, g2, g3, fun _ => q, fun e => by omega⟩
              · exact ⟨0, by decide, by obtain ⟨s2, c2, W2, C2, g1, -⟩ := q; exact g1, fun e => absurd rfl e, fun _ => q⟩
            obtain ⟨s9, hs9⟩ := ex_nI (I93 1 3)
            have hHd : cHd t L = (0, sk t L (cP2 t L + 2)) := by
              unfold cHd
              rw [if_pos hop, if_pos (by rw [← hs1]; exact hb53), if_pos q2]
            have hGe : rdG I I93 := ((((((hG0.trans hF1.R.G).trans hF2.R.G).trans hG4).trans hF5.G.R.G).trans q3.G.R.G).trans hR93.G)
            have hCo : I93 3 3 = cCo t L := by rw [hR93.2.2, q3.1 3 (by decide), hF5.1 3 (by decide)]; exact h433
            refine r_aload_n C 3 (dk oX0_read 53 rfl) rfl ?_
            refine r_ivi C Z (dk oX0_read 54 rfl) cl_X0_63 ci_X8_isAtEnd rfl (kn hn rfl) (c_X8_isAtEnd hn I93 J) rfl rfl (Nat.le_of_ble_eq_true rfl) ⟨Nat.le_of_ble_eq_true rfl, Nat.le_of_ble_eq_true rfl⟩ ⟨Nat.zero_le _, Nat.zero_le _⟩ (fun r97 I97 J97 h97 => ?_)
            obtain ⟨h97, e1_, e2_⟩ := h97
            have e1_ := e1_.symm
            have e2_ := e2_.symm
            subst e1_
            subst e2_
            subst h97
            refine r_if_ne (tgt := 108) C (dk oX0_read 55 rfl) (by decide) (fun hb100 => ?_) (fun hb100 => ?_)
            · rw [b32_n, decide_eq_true_eq] at hb100
              refine hret (dk oX0_read 59 rfl) ?_
              by_cases e0 : fn = 0
              · obtain ⟨s4, c4, W4, C4, p1, p2, p3, p4, p5, p6, p7, p8, p9⟩ := gok e0
                have es : s9 = s4 ∨ True := Or.inr trivial
                have p3' : Cd I93 c4 := p3
                have hK := tkK_0 (t := t) (L := L) (s := s4)
                have hend : I93 1 2 = 0 ↔ L ≤ s4 := by
                  rw [p2.2.1]
                  constructor
                  · intro z
                    rcases Nat.lt_or_ge s4 L with q | q
                    · exfalso
                      have hlt4 := @tkK_lt t L s4
                      rw [nI_eq0 (by omega)] at z
                      cases a1 : isLt (t s4) with
                      | true => rw [(tkK_1 q a1).1] at z; cases z
                      | false =>
                        cases a2 : isDg (t s4) with
                        | true => rw [(tkK_2 q a1 a2).1] at z; cases z
                        | false => rw [(tkK_3 q a1 a2).1] at z; cases z
                    · exact q
                  · intro z
                    rw [(hK z).1]; rfl
                have p21 := p2.1
                first
                  | (have hL4 : s4 = L := by have := hend.mp hb100; omega
                     refine ⟨rfl, hGe, 0, 0, c4, ⟨by decide, ?_⟩, by rw [g5, e0], p9, fun _ => ⟨p3', hCo⟩⟩
                     rw [hHd, if_pos rfl, if_pos rfl]
                     have hs41 : isS t L s4 41 = false := decide_eq_false (fun z => by omega)
                     have := stp_end hs41 p7 p8 p6
                     rw [if_pos ⟨hL4, rfl⟩] at this
                     exact ⟨s4, p5.then this⟩)
                  | (have hL4 : ¬ s4 = L := fun z => hb100 (hend.mpr (by omega))
                     rw [if_pos e0]
                     have e9 : flt I93 1 s9 = flt I93 1 s4 := by unfold flt; rw [← hs9, p2.2.2.1]
                     rw [e9]
                     refine ⟨rfl, hGe.trans (flt_G _ _ _).R.G, 1, s4, [], ⟨by decide, ?_⟩, flt_5 _ _ _, flt_6 _ _ _, fun e => (by cases e)⟩
                     rw [hHd, if_pos rfl, if_neg (by decide)]
                     cases hs41 : isS t L s4 41 with
                     | true => exact ⟨W4, C4, p5.then (stp_closeF hs41 p6)⟩
                     | false =>
                       have := stp_end hs41 p7 p8 p6
                       rw [if_neg (fun z => hL4 z.1)] at this
                       exact ⟨[], [] ++ c4, p5.then this⟩)
              · obtain ⟨⟨f, s4, W4, C4, p1, p2, p3, p4, p5⟩, -⟩ := gbad e0
                have ef : f = fn := by
                  have e := p3.symm.trans g5
                  rwa [nI_eq (by omega) (by omega)] at e
                subst ef
                first
                  | (rw [if_neg e0]
                     refine ⟨rfl, hGe, f, s4, [], ⟨by omega, ?_⟩, g5, by rw [if_neg e0]; exact p4, fun e => absurd e e0⟩
                     rw [hHd, if_pos rfl, if_neg e0]
                     exact ⟨W4, C4, p5⟩)
                  | (refine ⟨rfl, hGe, f, s4, [], ⟨by omega, ?_⟩, g5, by rw [if_neg e0]; exact p4, fun e => absurd e e0⟩
                     rw [hHd, if_pos rfl, if_neg e0]
                     exact ⟨W4, C4, p5⟩)
            · rw [b32_0, decide_eq_false_iff_not] at hb100
              refine r_aload_n C 3 (dk oX0_read 56 rfl) rfl ?_
              refine r_iconst C (dk oX0_read 57 rfl) (v := nI 1) (by decide) ?_
              refine r_ivv C Z (dk oX0_read 58 rfl) cl_X0_39 ci_X8_fail rfl (kn hn rfl) (c_X8_fail hn I93 J 1 fn s9 (by omega) g5 hs9) rfl rfl (Nat.le_of_ble_eq_true rfl) ⟨Nat.le_of_ble_eq_true rfl, Nat.le_of_ble_eq_true rfl⟩ ⟨Nat.zero_le _, Nat.zero_le _⟩ (fun I105 J105 h105 => ?_)
              obtain ⟨e1_, e2_⟩ := h105
              have e1_ := e1_.symm
              have e2_ := e2_.symm
              subst e1_
              subst e2_
              refine hret (dk oX0_read 59 rfl) ?_
              by_cases e0 : fn = 0
              · obtain ⟨s4, c4, W4, C4, p1, p2, p3, p4, p5, p6, p7, p8, p9⟩ := gok e0
                have es : s9 = s4 ∨ True := Or.inr trivial
                have p3' : Cd I93 c4 := p3
                have hK := tkK_0 (t := t) (L := L) (s := s4)
                have hend : I93 1 2 = 0 ↔ L ≤ s4 := by
                  rw [p2.2.1]
                  constructor
                  · intro z
                    rcases Nat.lt_or_ge s4 L with q | q
                    · exfalso
                      have hlt4 := @tkK_lt t L s4
                      rw [nI_eq0 (by omega)] at z
                      cases a1 : isLt (t s4) with
                      | true => rw [(tkK_1 q a1).1] at z; cases z
                      | false =>
                        cases a2 : isDg (t s4) with
                        | true => rw [(tkK_2 q a1 a2).1] at z; cases z
                        | false => rw [(tkK_3 q a1 a2).1] at z; cases z
                    · exact q
                  · intro z
                    rw [(hK z).1]; rfl
                have p21 := p2.1
                first
                  | (have hL4 : s4 = L := by have := hend.mp hb100; omega
                     refine ⟨rfl, hGe, 0, 0, c4, ⟨by decide, ?_⟩, by rw [g5, e0], p9, fun _ => ⟨p3', hCo⟩⟩
                     rw [hHd, if_pos rfl, if_pos rfl]
                     have hs41 : isS t L s4 41 = false := decide_eq_false (fun z => by omega)
                     have := stp_end hs41 p7 p8 p6
                     rw [if_pos ⟨hL4, rfl⟩] at this
                     exact ⟨s4, p5.then this⟩)
                  | (have hL4 : ¬ s4 = L := fun z => hb100 (hend.mpr (by omega))
                     rw [if_pos e0]
                     have e9 : flt I93 1 s9 = flt I93 1 s4 := by unfold flt; rw [← hs9, p2.2.2.1]
                     rw [e9]
                     refine ⟨rfl, hGe.trans (flt_G _ _ _).R.G, 1, s4, [], ⟨by decide, ?_⟩, flt_5 _ _ _, flt_6 _ _ _, fun e => (by cases e)⟩
                     rw [hHd, if_pos rfl, if_neg (by decide)]
                     cases hs41 : isS t L s4 41 with
                     | true => exact ⟨W4, C4, p5.then (stp_closeF hs41 p6)⟩
                     | false =>
                       have := stp_end hs41 p7 p8 p6
                       rw [if_neg (fun z => hL4 z.1)] at this
                       exact ⟨[], [] ++ c4, p5.then this⟩)
              · obtain ⟨⟨f, s4, W4, C4, p1, p2, p3, p4, p5⟩, -⟩ := gbad e0
                have ef : f = fn := by
                  have e := p3.symm.trans g5
                  rwa [nI_eq (by omega) (by omega)] at e
                subst ef
                first
                  | (rw [if_neg e0]
                     refine ⟨rfl, hGe, f, s4, [], ⟨by omega, ?_⟩, g5, by rw [if_neg e0]; exact p4, fun e => absurd e e0⟩
                     rw [hHd, if_pos rfl, if_neg e0]
                     exact ⟨W4, C4, p5⟩)
                  | (refine ⟨rfl, hGe, f, s4, [], ⟨by omega, ?_⟩, g5, by rw [if_neg e0]; exact p4, fun e => absurd e e0⟩
                     rw [hHd, if_pos rfl, if_neg e0]
                     exact ⟨W4, C4, p5⟩)
          · obtain ⟨q1, e1_, e2_⟩ : ¬ (isW t L (cP2 t L) (sWd 2) = true) ∧ I78 = I5 ∧ J78 = J := by
              rcases h78 with ⟨q1, q2, q3, q4⟩ | ⟨q1, q2, q3⟩
              · rw [q3] at hb81; exact absurd hb81 (by decide)
              · exact ⟨fun z => q1 ⟨rfl, z⟩, q3⟩
            have e1_ := e1_.symm
            have e2_ := e2_.symm
            subst e1_
            subst e2_
            refine r_aload_n C 3 (dk oX0_read 45 rfl) rfl ?_
            refine r_iconst C (dk oX0_read 46 rfl) (v := nI 1) (by decide) ?_
            refine r_ivv C Z (dk oX0_read 47 rfl) cl_X0_39 ci_X8_fail rfl (kn hn rfl) (c_X8_fail hn I5 J 1 0 (cP2 t L) (by decide) h5s hk5.2.2.1) rfl rfl (Nat.le_of_ble_eq_true rfl) ⟨Nat.le_of_ble_eq_true rfl, Nat.le_of_ble_eq_true rfl⟩ ⟨Nat.zero_le _, Nat.zero_le _⟩ (fun I86 J86 h86 => ?_)
            obtain ⟨e1_, e2_⟩ := h86
            rw [if_pos rfl] at e1_
            have e1_ := e1_.symm
            have e2_ := e2_.symm
            subst e1_
            subst e2_
            refine hret (dk oX0_read 48 rfl) ?_
            refine ⟨rfl, (((hG0.trans hF1.R.G).trans hF2.R.G).trans hG4).trans (hF5.G.trans (flt_G _ _ _)).R.G, 1, cP2 t L, [], ⟨by decide, ?_⟩, flt_5 _ _ _, by rw [flt_6]; rfl, fun e => (by cases e)⟩
            have hHd : cHd t L = (1, cP2 t L) := by
              unfold cHd
              rw [if_pos hop, if_pos (by rw [← hs1]; exact hb53), if_neg q1]
            rw [hHd]
            exact ⟨rfl, rfl⟩
      · rw [b32_0, decide_eq_false_iff_not] at hb53
        refine hret (dk oX0_read 30 rfl) ?_
        obtain ⟨-, er, eI⟩ : nmF t L s1 1 999 ≠ 0 ∧ r45 = -1 ∧ I45 = flt I2 (nmF t L s1 1 999) s1 := by
          rcases h45 with q | q
          · exact absurd q.1 hb53
          · exact q
        refine ⟨rfl, ((hG0.trans hF1.R.G).trans hF2.R.G).trans hG45.R.G, nmF t L s1 1 999, s1, [], ⟨by omega, ?_⟩, h55, by rw [eI, flt_6, if_neg hb53], fun e => absurd e hb53⟩
        have hHd : cHd t L = (nmF t L s1 1 999, s1) := by
          unfold cHd
          rw [if_pos hop, ← hs1, if_neg hb53]
        rw [hHd, if_neg hb53]
        exact ⟨rfl, rfl⟩
    · obtain ⟨q1, e1_, e2_⟩ : ¬ (isW t L s0 (sWd 1) = true) ∧ I28 = I11 ∧ J28 = J := by
        rcases h28 with ⟨q1, q2, q3, q4⟩ | ⟨q1, q2, q3⟩
        · rw [q3] at hb31; exact absurd hb31 (by decide)
        · exact ⟨fun z => q1 ⟨rfl, z⟩, q3⟩
      have e1_ := e1_.symm
      have e2_ := e2_.symm
      subst e1_
      subst e2_
      refine r_aload_n C 2 (dk oX0_read 18 rfl) rfl ?_
      refine r_iconst C (dk oX0_read 19 rfl) (v := nI 1) (by decide) ?_
      refine r_ivv C Z (dk oX0_read 20 rfl) cl_X0_39 ci_X8_fail rfl (kn hn rfl) (c_X8_fail hn I11 J 1 0 s0 (by decide) h15 hk1.2.2.1) rfl rfl (Nat.le_of_ble_eq_true rfl) ⟨Nat.le_of_ble_eq_true rfl, Nat.le_of_ble_eq_true rfl⟩ ⟨Nat.zero_le _, Nat.zero_le _⟩ (fun I36 J36 h36 => ?_)
      obtain ⟨e1_, e2_⟩ := h36
      rw [if_pos rfl] at e1_
      have e1_ := e1_.symm
      have e2_ := e2_.symm
      subst e1_
      subst e2_
      refine hret (dk oX0_read 21 rfl) ?_
      refine ⟨rfl, (hG0.trans hF1.R.G).trans (flt_G _ _ _).R.G, 1, sk t L 0, [], ⟨by decide, ?_⟩, flt_5 _ _ _, by rw [flt_6, ← hs0]; rfl, fun e => (by cases e)⟩
      have hHd : cHd t L = (1, sk t L 0) := by
        unfold cHd
        rw [if_neg]
        rintro (z | z)
        · rw [hb22] at z; cases z
        · unfold cPay at z; rw [← hs0] at z; exact q1 z
      rw [hHd]
      exact ⟨rfl, rfl⟩

end CLAIM
