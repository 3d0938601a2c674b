section MOD11
variable {l : Launch} {n : Nat} {ad : Nat → Nat} {cA : Nat → ClassId} {D : va_G} {z : Zw}
theorem mQ.drop {I : MI} {x : Nat} {W C : List Nat} (h : mQ I (x :: W) C) : mQ (up2 I 117 32 (nI W.length)) W C := ⟨up2_at, h.2.1.2.of (fun j _ => by rw [up2_ne (by decide)]), by rw [up2_off (by decide)]; exact h.2.2.1, fun j hj => by rw [up2_ne (by decide)]; exact h.2.2.2 j hj⟩
theorem stp_closeG {t : Nat → Nat} {L s : Nat} {W W1 K C1 : List Nat} (a : isS t L s 41 = true) (p : popAO W1 C1 = (W, K)) (h : ¬ topB 15 W = true) : stp t L (1, s, W1, C1) = (11, s, W1, C1) := by
  unfold stp
  rw [if_neg (show ¬ (1 : Nat) = 0 by decide), if_pos rfl]
  simp only [a, if_true, p]
  cases W with
  | nil => rfl
  | cons x W =>
    have hx : ¬ x = 15 := fun e => h (decide_eq_true e)
    simp only [hx, if_false]
theorem pop_no {W C : List Nat} (h1 : topB 13 W = false) (h2 : topB 14 W = false) : popAO W C = (W, C) := popB_id (topB_n (fun y hy => by
  rcases of_decide_eq_true hy with e | e <;> rw [e]
  · exact h1
  · exact h2))
theorem popA_no {W C : List Nat} (h1 : topB 13 W = false) : popA W C = (W, C) := popB_id (topB_n (fun y hy => by rw [of_decide_eq_true hy]; exact h1))
theorem topB_nil {y : Nat} {W : List Nat} (h : topB y W = true) : ¬ W = [] := fun e => by rw [e] at h; cases h
set_option maxHeartbeats 1000000 in
set_option maxRecDepth 100000 in
theorem c_X10_takeJoin (hn : 148 ≤ n) (I : MI) (J : MJ) (t : Nat → Nat) (L a_ : Nat) (W_ C_ : List Nat) (hL : L ≤ 120) (hRS0 : RS I t L a_ W_ C_) (hOK : mOK L (1, sk t L a_, W_, C_)) : Ci l n ad cA D z 3 yX10_takeJoin cX10_takeJoin 1 .boolean I J [.ref (ad 117)] (fun r I' J' => J' = J ∧ rdX I I' ∧ ((r = b32 false ∧ mBad t L (1, sk t L a_, W_, C_) I') ∨ (r = b32 true ∧ ∃ a1 W1 C1, RS I' t L a1 W1 C1 ∧ rch t L (1, sk t L a_, W_, C_) (0, sk t L a1, W1, C1) ∧ sk t L a_ ≤ sk t L a1) ∨ (r = b32 false ∧ ∃ a1 W1 C1, RS I' t L a1 W1 C1 ∧ rch t L (1, sk t L a_, W_, C_) (1, sk t L a1, W1, C1) ∧ isS t L (sk t L a1) 41 = false ∧ isW t L (sk t L a1) wAnd = false ∧ isW t L (sk t L a1) wOr = false))) := by
  refine Ci.of (by decide) (Nat.le_of_ble_eq_true rfl) ?_
  intro p e s m args below meth c A C hin Z Q hret
  have L0 : ∀ (d_ : Nat) (a1 : Nat) (W1 C1 : List Nat) (Ia : MI), L + 1 - sk t L a1 < d_ → rdX I Ia → RS Ia t L a1 W1 C1 → rch t L (1, sk t L a_, W_, C_) (1, sk t L a1, W1, C1) → sk t L a_ ≤ sk t L a1 → V p l e (rmL 3) s m args below meth c Q D A 1 0 0 n ad (mE cA ad Ia J) 0 [(0, .ref (ad 117))] [] := by
    intro d_
    induction d_ with
    | zero => intros; exact absurd (by assumption) (Nat.not_lt_zero _)
    | succ d_ ih => 
      intro a1 W1 C1 Ia hd_ hX hRS hr hle
      obtain ⟨hT, h26, haL, h29, h30, hq, ho⟩ := hRS
      have hmk := rch_ok hOK hr
      obtain ⟨hsL, hcn, hWK, hop8, hC15, _⟩ := hmk
      have hsL : sk t L a1 ≤ L := hsL
      have hcn : C1.length + nops W1 ≤ sk t L a1 := hcn
      have hop8 : opens W1 ≤ 8 := hop8
      have hw : wOK W1 := WOK.w hWK hop8
      have hwl := hw.1
      refine r_aload_n C 0 (dk oX10_takeJoin 0 rfl) rfl ?_
      refine r_ivi C Z (dk oX10_takeJoin 1 rfl) cl_X10_148 ci_X10_here rfl (km hn rfl) (c_X10_here hn Ia J t L (hT) (a1) (h26) (haL)) rfl rfl (Nat.le_of_ble_eq_true rfl) ⟨Nat.le_of_ble_eq_true rfl, Nat.le_of_ble_eq_true rfl⟩ ⟨Nat.zero_le _, Nat.zero_le _⟩ (fun r1 I1 J1 h1 => ?_)
      obtain ⟨e1_, hh1, hhA1, hhB1, e2_⟩ := h1
      have e1_ := e1_.symm
      have e2_ := e2_.symm
      subst e1_
      subst e2_
      refine r_bipush C (dk oX10_takeJoin 2 rfl) (v := nI 41) (by decide) ?_
      refine r_icmp_ne (tgt := 91) C (dk oX10_takeJoin 3 rfl) (by decide) (fun hb6 => ?_) (fun hb6 => ?_)
      · rw [hr_c (fun h => (hT.2.2 _ h).1) (by decide)] at hb6
        have hb6 := nbf hb6
        refine r_aload_n C 0 (dk oX10_takeJoin 47 rfl) rfl ?_
        refine r_iconst C (dk oX10_takeJoin 48 rfl) (v := nI 3) (by decide) ?_
        refine r_bipush C (dk oX10_takeJoin 49 rfl) (v := nI 97) (by decide) ?_
        refine r_bipush C (dk oX10_takeJoin 50 rfl) (v := nI 110) (by decide) ?_
        refine r_bipush C (dk oX10_takeJoin 51 rfl) (v := nI 100) (by decide) ?_
        refine r_ivi C Z (dk oX10_takeJoin 52 rfl) cl_X10_200 ci_X10_isNext rfl (km hn rfl) (c_X10_isNext hn I1 J t L (hT.tk ⟨hhA1, fun i a _ _ => hhB1 i a⟩) (sk t L a1) hh1 hsL 3 97 110 100 (by decide) (by decide) wAnd (by decide)) rfl rfl (Nat.le_of_ble_eq_true rfl) ⟨Nat.le_of_ble_eq_true rfl, Nat.le_of_ble_eq_true rfl⟩ ⟨Nat.zero_le _, Nat.zero_le _⟩ (fun r99 I99 J99 h99 => ?_)
        obtain ⟨e1_, h26n, h27n, hf99, e2_⟩ := h99
        rw [sk_sk] at e1_ h26n h27n
        have e1_ := e1_.symm
        have e2_ := e2_.symm
        subst e1_
        subst e2_
        refine r_if_eq (tgt := 129) C (dk oX10_takeJoin 53 rfl) (by decide) (fun hb102 => ?_) (fun hb102 => ?_)
        · rw [b32_0] at hb102
          rw [hb102, if_neg (by decide)] at h26n
          refine r_aload_n C 0 (dk oX10_takeJoin 66 rfl) rfl ?_
          refine r_iconst C (dk oX10_takeJoin 67 rfl) (v := nI 2) (by decide) ?_
          refine r_bipush C (dk oX10_takeJoin 68 rfl) (v := nI 111) (by decide) ?_
          refine r_bipush C (dk oX10_takeJoin 69 rfl) (v := nI 114) (by decide) ?_
          refine r_iconst C (dk oX10_takeJoin 70 rfl) (v := nI 0) (by decide) ?_
          refine r_ivi C Z (dk oX10_takeJoin 71 rfl) cl_X10_200 ci_X10_isNext rfl (km hn rfl) (c_X10_isNext hn I99 J t L ((hT.tk ⟨hhA1, fun i a _ _ => hhB1 i a⟩).tk hf99) (sk t L a1) h26n hsL 2 111 114 0 (by decide) (by decide) wOr (by decide)) rfl rfl (Nat.le_of_ble_eq_true rfl) ⟨Nat.le_of_ble_eq_true rfl, Nat.le_of_ble_eq_true rfl⟩ ⟨Nat.zero_le _, Nat.zero_le _⟩ (fun r136 I136 J136 h136 => ?_)
          obtain ⟨e1_, h26o, h27o, hf136, e2_⟩ := h136
          rw [sk_sk] at e1_ h26o h27o
          have e1_ := e1_.symm
          have e2_ := e2_.symm
          subst e1_
          subst e2_
          refine r_if_eq (tgt := 175) C (dk oX10_takeJoin 72 rfl) (by decide) (fun hb139 => ?_) (fun hb139 => ?_)
          · rw [b32_0] at hb139
            rw [hb139, if_neg (by decide)] at h26o
            refine r_iconst C (dk oX10_takeJoin 89 rfl) (v := nI 0) (by decide) ?_
            refine hret (dk oX10_takeJoin 90 rfl) rfl ?_
            exact ⟨rfl, (((hX.tr (hereX hhA1 hhB1)).tr hf99.X).tr hf136.X), Or.inr (Or.inr ⟨rfl, (sk t L a1), W1, C1, ⟨hT.of (((hf136.2 25 (by decide) (by decide) (by decide)).trans ((hf99.2 25 (by decide) (by decide) (by decide)).trans (hhB1 25 (by decide))))) ((hf136.1 141 (by decide)).trans ((hf99.1 141 (by decide)).trans (hhA1 141 (by decide)))), h26o, hsL, ((hf136.2 29 (by decide) (by decide) (by decide)).trans ((hf99.2 29 (by decide) (by decide) (by decide)).trans ((hhB1 29 (by decide)).trans h29))), ((hf136.2 30 (by decide) (by decide) (by decide)).trans ((hf99.2 30 (by decide) (by decide) (by decide)).trans ((hhB1 30 (by decide)).trans h30))), ((hq.of (hhB1 32 (by decide)) (hhB1 35 (by decide)) (hhA1 142 (by decide)) (hhA1 143 (by decide))).of (hf99.2 32 (by decide) (by decide) (by decide)) (hf99.2 35 (by decide) (by decide) (by decide)) (hf99.1 142 (by decide)) (hf99.1 143 (by decide))).of (hf136.2 32 (by decide) (by decide) (by decide)) (hf136.2 35 (by decide) (by decide) (by decide)) (hf136.1 142 (by decide)) (hf136.1 143 (by decide)), ((hf136.2 33 (by decide) (by decide) (by decide)).trans ((hf99.2 33 (by decide) (by decide) (by decide)).trans ((hhB1 33 (by decide)).trans ho)))⟩, by rw [sk_sk]; exact hr, by rw [sk_sk]; exact hb6, by rw [sk_sk]; exact hb102, by rw [sk_sk]; exact hb139⟩)⟩
          · rw [b32_n] at hb139
            rw [hb139, if_pos rfl] at h26o
            have hqE : mQ I136 W1 C1 := ((hq.of (hhB1 32 (by decide)) (hhB1 35 (by decide)) (hhA1 142 (by decide)) (hhA1 143 (by decide))).of (hf99.2 32 (by decide) (by decide) (by decide)) (hf99.2 35 (by decide) (by decide) (by decide)) (hf99.1 142 (by decide)) (hf99.1 143 (by decide))).of (hf136.2 32 (by decide) (by decide) (by decide)) (hf136.2 35 (by decide) (by decide) (by decide)) (hf136.1 142 (by decide)) (hf136.1 143 (by decide))
            have hoE : I136 117 33 = nI (opens W1) := ((hf136.2 33 (by decide) (by decide) (by decide)).trans ((hf99.2 33 (by decide) (by decide) (by decide)).trans ((hhB1 33 (by decide)).trans ho)))
            have L142 : ∀ (d_ : Nat) (W2 C2 : List Nat) (I2 : MI), W2.length < d_ → popAO W2 C2 = popAO W1 C1 → mQ I2 W2 C2 → wOK W2 → C2.length + nops W2 ≤ 120 → opens W2 = opens W1 → I2 117 33 = nI (opens W1) → mzF I136 I2 → V p l e (rmL 3) s m args below meth c Q D A 1 0 0 n ad (mE cA ad I2 J) 142 [(0, .ref (ad 117))] [] := by
              intro d_
              induction d_ with
              | zero => intros; exact absurd (by assumption) (Nat.not_lt_zero _)
              | succ d_ ih => 
                intro W2 C2 I2 hd142 hpe hq2 hw2 hb2 ho2 ho3 hz2
                refine r_aload_n C 0 (dk oX10_takeJoin 73 rfl) rfl ?_
                refine r_bipush C (dk oX10_takeJoin 74 rfl) (v := nI 101) (by decide) ?_
                refine r_ivi C Z (dk oX10_takeJoin 75 rfl) cl_X10_187 ci_X10_isTop rfl (km hn rfl) (c_X10_isTop hn I2 J W2 C2 hq2 hw2 13 (by decide)) rfl rfl (Nat.le_of_ble_eq_true rfl) ⟨Nat.le_of_ble_eq_true rfl, Nat.le_of_ble_eq_true rfl⟩ ⟨Nat.zero_le _, Nat.zero_le _⟩ (fun r145 I145 J145 h145 => ?_)
                obtain ⟨h145, e1_, e2_⟩ := h145
                have e1_ := e1_.symm
                have e2_ := e2_.symm
                subst e1_
                subst e2_
                subst h145
                refine r_if_ne (tgt := 160) C (dk oX10_takeJoin 76 rfl) (by decide) (fun hb148 => ?_) (fun hb148 => ?_)
                · rw [b32_n] at hb148
                  obtain ⟨x, W3, hx, hWe⟩ : ∃ x W3, (x = 13 ∨ x = 14) ∧ W2 = x :: W3 := by
                    first
                      | (obtain ⟨W3, h⟩ := topB_c hb148; exact ⟨13, W3, Or.inl rfl, h⟩)
                      | (obtain ⟨W3, h⟩ := topB_c hb157; exact ⟨14, W3, Or.inr rfl, h⟩)
                  have hxr : 12 ≤ x ∧ x < 15 := by omega
                  refine r_aload_n C 0 (dk oX10_takeJoin 81 rfl) rfl ?_
                  refine r_ivv C Z (dk oX10_takeJoin 82 rfl) cl_X10_191 ci_X10_sayTop rfl (km hn rfl) (c_X10_sayTop hn I2 J x W3 C2 (by rw [hWe] at hq2; exact hq2) (by have h := hw2.1; rw [hWe] at h; exact Nat.lt_of_lt_of_le (Nat.lt_succ_self _) h) (by have h := hb2; rw [hWe, nops_c (by omega)] at h; omega)) rfl rfl (Nat.le_of_ble_eq_true rfl) ⟨Nat.le_of_ble_eq_true rfl, Nat.le_of_ble_eq_true rfl⟩ ⟨Nat.zero_le _, Nat.zero_le _⟩ (fun I161 J161 h161 => ?_)
                  obtain ⟨e1_, e2_⟩ := h161
                  have e1_ := e1_.symm
                  have e2_ := e2_.symm
                  subst e1_
                  subst e2_
                  refine r_goto (tgt := 142) C (dk oX10_takeJoin 83 rfl) (by decide) ?_
                  refine V.sub [0] rfl ?_
                  refine ih W3 (C2 ++ [x]) _ (by rw [hWe] at hd142; exact Nat.lt_of_succ_lt_succ hd142) ?_ ((by rw [hWe] at hq2; exact hq2 : mQ I2 (x :: W3) C2).pop (by omega) (by omega)) (by rw [hWe] at hw2; exact hw2.tl) (by rw [hWe, nops_c (by omega)] at hb2; rw [List.length_append]; show C2.length + 1 + nops W3 ≤ 120; omega) (by rw [hWe, opens_b hx] at ho2; exact ho2) (by rw [up2_off (by decide), up2_ne (by decide), up2_off (by decide)]; exact ho3) (((hz2.f (Or.inl rfl)).c (Or.inr rfl)).f (Or.inr (Or.inr rfl)))
                  rw [← hpe, hWe]
                  exact (popB_t (decide_eq_true (by omega))).symm
                · rw [b32_0] at hb148
                  refine r_aload_n C 0 (dk oX10_takeJoin 77 rfl) rfl ?_
                  refine r_bipush C (dk oX10_takeJoin 78 rfl) (v := nI 102) (by decide) ?_
                  refine r_ivi C Z (dk oX10_takeJoin 79 rfl) cl_X10_187 ci_X10_isTop rfl (km hn rfl) (c_X10_isTop hn I2 J W2 C2 hq2 hw2 14 (by decide)) rfl rfl (Nat.le_of_ble_eq_true rfl) ⟨Nat.le_of_ble_eq_true rfl, Nat.le_of_ble_eq_true rfl⟩ ⟨Nat.zero_le _, Nat.zero_le _⟩ (fun r154 I154 J154 h154 => ?_)
                  obtain ⟨h154, e1_, e2_⟩ := h154
                  have e1_ := e1_.symm
                  have e2_ := e2_.symm
                  subst e1_
                  subst e2_
                  subst h154
                  refine r_if_eq (tgt := 167) C (dk oX10_takeJoin 80 rfl) (by decide) (fun hb157 => ?_) (fun hb157 => ?_)
                  · rw [b32_0] at hb157
                    refine r_aload_n C 0 (dk oX10_takeJoin 84 rfl) rfl ?_
                    refine r_bipush C (dk oX10_takeJoin 85 rfl) (v := nI 102) (by decide) ?_
                    refine r_ivv C Z (dk oX10_takeJoin 86 rfl) cl_X10_197 ci_X10_push rfl (km hn rfl) (c_X10_push hn I2 J W2.length hq2.1 (by have := hw2.1; omega) (nI (14 + 88))) rfl rfl (Nat.le_of_ble_eq_true rfl) ⟨Nat.le_of_ble_eq_true rfl, Nat.le_of_ble_eq_true rfl⟩ ⟨Nat.zero_le _, Nat.zero_le _⟩ (fun I170 J170 h170 => ?_)
                    obtain ⟨e1_, e2_⟩ := h170
                    have e1_ := e1_.symm
                    have e2_ := e2_.symm
                    subst e1_
                    subst e2_
                    refine r_iconst C (dk oX10_takeJoin 87 rfl) (v := nI 1) (by decide) ?_
                    refine hret (dk oX10_takeJoin 88 rfl) rfl ?_
                    have hpop : popAO W1 C1 = (W2, C2) := by rw [← hpe]; exact pop_no hb148 hb157
                    exact ⟨rfl, ((((((hX.tr (hereX hhA1 hhB1)).tr hf99.X).tr hf136.X).tr hz2.X).uc (Or.inl rfl)).up 32 _ (by decide)), Or.inr (Or.inl ⟨rfl, (sk t L a1) + 2, 14 :: W2, C2, ⟨hT.of (by rw [up2_off (by decide), up2_ne (by decide)]; exact ((hz2.2 25 (by decide) (by decide) (by decide)).trans ((hf136.2 25 (by decide) (by decide) (by decide)).trans ((hf99.2 25 (by decide) (by decide) (by decide)).trans (hhB1 25 (by decide)))))) (by rw [up2_ne (by decide), up2_ne (by decide), hz2.1 141 (by decide) (by decide) (by decide)]; exact (hf136.1 141 (by decide)).trans ((hf99.1 141 (by decide)).trans (hhA1 141 (by decide)))), by rw [up2_off (by decide), up2_ne (by decide)]; exact ((hz2.2 26 (by decide) (by decide) (by decide)).trans h26o), by have := isW_lt (w := wOr) hsL hb139; have e3 : (wOr).length = 2 := rfl; omega, by rw [up2_off (by decide), up2_ne (by decide)]; exact ((hz2.2 29 (by decide) (by decide) (by decide)).trans ((hf136.2 29 (by decide) (by decide) (by decide)).trans ((hf99.2 29 (by decide) (by decide) (by decide)).trans ((hhB1 29 (by decide)).trans h29)))), by rw [up2_off (by decide), up2_ne (by decide)]; exact ((hz2.2 30 (by decide) (by decide) (by decide)).trans ((hf136.2 30 (by decide) (by decide) (by decide)).trans ((hf99.2 30 (by decide) (by decide) (by decide)).trans ((hhB1 30 (by decide)).trans h30)))), mQ.push (x := 14) hq2, by rw [up2_off (by decide), up2_ne (by decide), ho3, opens_b (by decide), ho2]⟩, hr.then (stp_or hb139 hpop), by have := @sk_ge t L ((sk t L a1) + 2); omega⟩)⟩
                  · rw [b32_n] at hb157
                    obtain ⟨x, W3, hx, hWe⟩ : ∃ x W3, (x = 13 ∨ x = 14) ∧ W2 = x :: W3 := by
                      first
                        | (obtain ⟨W3, h⟩ := topB_c hb148; exact ⟨13, W3, Or.inl rfl, h⟩)
                        | (obtain ⟨W3, h⟩ := topB_c hb157; exact ⟨14, W3, Or.inr rfl, h⟩)
                    have hxr : 12 ≤ x ∧ x < 15 := by omega
                    refine r_aload_n C 0 (dk oX10_takeJoin 81 rfl) rfl ?_
                    refine r_ivv C Z (dk oX10_takeJoin 82 rfl) cl_X10_191 ci_X10_sayTop rfl (km hn rfl) (c_X10_sayTop hn I2 J x W3 C2 (by rw [hWe] at hq2; exact hq2) (by have h := hw2.1; rw [hWe] at h; exact Nat.lt_of_lt_of_le (Nat.lt_succ_self _) h) (by have h := hb2; rw [hWe, nops_c (by omega)] at h; omega)) rfl rfl (Nat.le_of_ble_eq_true rfl) ⟨Nat.le_of_ble_eq_true rfl, Nat.le_of_ble_eq_true rfl⟩ ⟨Nat.zero_le _, Nat.zero_le _⟩ (fun I161 J161 h161 => ?_)
                    obtain ⟨e1_, e2_⟩ := h161
                    have e1_ := e1_.symm
                    have e2_ := e2_.symm
                    subst e1_
                    subst e2_
                    refine r_goto (tgt := 142) C (dk oX10_takeJoin 83 rfl) (by decide) ?_
                    refine V.sub [0] rfl ?_
                    refine ih W3 (C2 ++ [x]) _ (by rw [hWe] at hd142; exact Nat.lt_of_succ_lt_succ hd142) ?_ ((by rw [hWe] at hq2; exact hq2 : mQ I2 (x :: W3) C2).pop (by omega) (by omega)) (by rw [hWe] at hw2; exact hw2.tl) (by rw [hWe, nops_c (by omega)] at hb2; rw [List.length_append]; show C2.length + 1 + nops W3 ≤ 120; omega) (by rw [hWe, opens_b hx] at ho2; exact ho2) (by rw [up2_off (by decide), up2_ne (by decide), up2_off (by decide)]; exact ho3) (((hz2.f (Or.inl rfl)).c (Or.inr rfl)).f (Or.inr (Or.inr rfl)))
                    rw [← hpe, hWe]
                    exact (popB_t (decide_eq_true (by omega))).symm
            refine V.sub [0] rfl ?_
            exact L142 (W1.length + 1) W1 C1 I136 (by omega) rfl hqE hw (by omega) rfl hoE (mzF.rf _)
        · rw [b32_n] at hb102
          rw [hb102, if_pos rfl] at h26n
          have hqE : mQ I99 W1 C1 := (hq.of (hhB1 32 (by decide)) (hhB1 35 (by decide)) (hhA1 142 (by decide)) (hhA1 143 (by decide))).of (hf99.2 32 (by decide) (by decide) (by decide)) (hf99.2 35 (by decide) (by decide) (by decide)) (hf99.1 142 (by decide)) (hf99.1 143 (by decide))
          have hoE : I99 117 33 = nI (opens W1) := ((hf99.2 33 (by decide) (by decide) (by decide)).trans ((hhB1 33 (by decide)).trans ho))
          have L105 : ∀ (d_ : Nat) (W2 C2 : List Nat) (I2 : MI), W2.length < d_ → popA W2 C2 = popA W1 C1 → mQ I2 W2 C2 → wOK W2 → C2.length + nops W2 ≤ 120 → opens W2 = opens W1 → I2 117 33 = nI (opens W1) → mzF I99 I2 → V p l e (rmL 3) s m args below meth c Q D A 1 0 0 n ad (mE cA ad I2 J) 105 [(0, .ref (ad 117))] [] := by
            intro d_
            induction d_ with
            | zero => intros; exact absurd (by assumption) (Nat.not_lt_zero _)
            | succ d_ ih => 
              intro W2 C2 I2 hd105 hpe hq2 hw2 hb2 ho2 ho3 hz2
              refine r_aload_n C 0 (dk oX10_takeJoin 54 rfl) rfl ?_
              refine r_bipush C (dk oX10_takeJoin 55 rfl) (v := nI 101) (by decide) ?_
              refine r_ivi C Z (dk oX10_takeJoin 56 rfl) cl_X10_187 ci_X10_isTop rfl (km hn rfl) (c_X10_isTop hn I2 J W2 C2 hq2 hw2 13 (by decide)) rfl rfl (Nat.le_of_ble_eq_true rfl) ⟨Nat.le_of_ble_eq_true rfl, Nat.le_of_ble_eq_true rfl⟩ ⟨Nat.zero_le _, Nat.zero_le _⟩ (fun r108 I108 J108 h108 => ?_)
              obtain ⟨h108, e1_, e2_⟩ := h108
              have e1_ := e1_.symm
              have e2_ := e2_.symm
              subst e1_
              subst e2_
              subst h108
              refine r_if_eq (tgt := 121) C (dk oX10_takeJoin 57 rfl) (by decide) (fun hb111 => ?_) (fun hb111 => ?_)
              · rw [b32_0] at hb111
                refine r_aload_n C 0 (dk oX10_takeJoin 61 rfl) rfl ?_
                refine r_bipush C (dk oX10_takeJoin 62 rfl) (v := nI 101) (by decide) ?_
                refine r_ivv C Z (dk oX10_takeJoin 63 rfl) cl_X10_197 ci_X10_push rfl (km hn rfl) (c_X10_push hn I2 J W2.length hq2.1 (by have := hw2.1; omega) (nI (13 + 88))) rfl rfl (Nat.le_of_ble_eq_true rfl) ⟨Nat.le_of_ble_eq_true rfl, Nat.le_of_ble_eq_true rfl⟩ ⟨Nat.zero_le _, Nat.zero_le _⟩ (fun I124 J124 h124 => ?_)
                obtain ⟨e1_, e2_⟩ := h124
                have e1_ := e1_.symm
                have e2_ := e2_.symm
                subst e1_
                subst e2_
                refine r_iconst C (dk oX10_takeJoin 64 rfl) (v := nI 1) (by decide) ?_
                refine hret (dk oX10_takeJoin 65 rfl) rfl ?_
                have hpop : popA W1 C1 = (W2, C2) := by rw [← hpe]; exact popA_no hb111
                exact ⟨rfl, (((((hX.tr (hereX hhA1 hhB1)).tr hf99.X).tr hz2.X).uc (Or.inl rfl)).up 32 _ (by decide)), Or.inr (Or.inl ⟨rfl, (sk t L a1) + 3, 13 :: W2, C2, ⟨hT.of (by rw [up2_off (by decide), up2_ne (by decide)]; exact ((hz2.2 25 (by decide) (by decide) (by decide)).trans ((hf99.2 25 (by decide) (by decide) (by decide)).trans (hhB1 25 (by decide))))) (by rw [up2_ne (by decide), up2_ne (by decide), hz2.1 141 (by decide) (by decide) (by decide)]; exact (hf99.1 141 (by decide)).trans (hhA1 141 (by decide))), by rw [up2_off (by decide), up2_ne (by decide)]; exact ((hz2.2 26 (by decide) (by decide) (by decide)).trans h26n), by have := isW_lt (w := wAnd) hsL hb102; have e3 : (wAnd).length = 3 := rfl; omega, by rw [up2_off (by decide), up2_ne (by decide)]; exact ((hz2.2 29 (by decide) (by decide) (by decide)).trans ((hf99.2 29 (by decide) (by decide) (by decide)).trans ((hhB1 29 (by decide)).trans h29))), by rw [up2_off (by decide), up2_ne (by decide)]; exact ((hz2.2 30 (by decide) (by decide) (by decide)).trans ((hf99.2 30 (by decide) (by decide) (by decide)).trans ((hhB1 30 (by decide)).trans h30))), mQ.push (x := 13) hq2, by rw [up2_off (by decide), up2_ne (by decide), ho3, opens_b (by decide), ho2]⟩, hr.then (stp_and hb102 hpop), by have := @sk_ge t L ((sk t L a1) + 3); omega⟩)⟩
              · rw [b32_n] at hb111
                obtain ⟨x, W3, hx, hWe⟩ : ∃ x W3, x = 13 ∧ W2 = x :: W3 := by
                  obtain ⟨W3, h⟩ := topB_c hb111
                  exact ⟨13, W3, rfl, h⟩
                have hx : x = 13 ∨ x = 14 := Or.inl hx
                have hxe : x = 13 := by
                  obtain ⟨W4, h⟩ := topB_c hb111
                  rw [hWe] at h
                  exact (List.cons.inj h).1
                refine r_aload_n C 0 (dk oX10_takeJoin 58 rfl) rfl ?_
                refine r_ivv C Z (dk oX10_takeJoin 59 rfl) cl_X10_191 ci_X10_sayTop rfl (km hn rfl) (c_X10_sayTop hn I2 J x W3 C2 (by rw [hWe] at hq2; exact hq2) (by have h := hw2.1; rw [hWe] at h; exact Nat.lt_of_lt_of_le (Nat.lt_succ_self _) h) (by have h := hb2; rw [hWe, nops_c (by omega)] at h; omega)) rfl rfl (Nat.le_of_ble_eq_true rfl) ⟨Nat.le_of_ble_eq_true rfl, Nat.le_of_ble_eq_true rfl⟩ ⟨Nat.zero_le _, Nat.zero_le _⟩ (fun I115 J115 h115 => ?_)
                obtain ⟨e1_, e2_⟩ := h115
                have e1_ := e1_.symm
                have e2_ := e2_.symm
                subst e1_
                subst e2_
                refine r_goto (tgt := 105) C (dk oX10_takeJoin 60 rfl) (by decide) ?_
                refine V.sub [0] rfl ?_
                refine ih W3 (C2 ++ [x]) _ (by rw [hWe] at hd105; exact Nat.lt_of_succ_lt_succ hd105) ?_ ((by rw [hWe] at hq2; exact hq2 : mQ I2 (x :: W3) C2).pop (by omega) (by omega)) (by rw [hWe] at hw2; exact hw2.tl) (by rw [hWe, nops_c (by omega)] at hb2; rw [List.length_append]; show C2.length + 1 + nops W3 ≤ 120; omega) (by rw [hWe, opens_b hx] at ho2; exact ho2) (by rw [up2_off (by decide), up2_ne (by decide), up2_off (by decide)]; exact ho3) (((hz2.f (Or.inl rfl)).c (Or.inr rfl)).f (Or.inr (Or.inr rfl)))
                rw [← hpe, hWe]
                exact (popB_t (decide_eq_true (by omega))).symm
          refine V.sub [0] rfl ?_
          exact L105 (W1.length + 1) W1 C1 I99 (by omega) rfl hqE hw (by omega) rfl hoE (mzF.rf _)
      · rw [hr_c (fun h => (hT.2.2 _ h).1) (by decide)] at hb6
        have ihO := ih
        have hqE : mQ I1 W1 C1 := hq.of (hhB1 32 (by decide)) (hhB1 35 (by decide)) (hhA1 142 (by decide)) (hhA1 143 (by decide))
        have hoE : I1 117 33 = nI (opens W1) := (hhB1 33 (by decide)).trans ho
        have L9 : ∀ (d_ : Nat) (W2 C2 : List Nat) (I2 : MI), W2.length < d_ → popAO W2 C2 = popAO W1 C1 → mQ I2 W2 C2 → wOK W2 → C2.length + nops W2 ≤ 120 → opens W2 = opens W1 → I2 117 33 = nI (opens W1) → mzF I1 I2 → V p l e (rmL 3) s m args below meth c Q D A 1 0 0 n ad (mE cA ad I2 J) 9 [(0, .ref (ad 117))] [] := by
          intro d_
          induction d_ with
          | zero => intros; exact absurd (by assumption) (Nat.not_lt_zero _)
          | succ d_ ih => 
            intro W2 C2 I2 hd9 hpe hq2 hw2 hb2 ho2 ho3 hz2
            refine r_aload_n C 0 (dk oX10_takeJoin 4 rfl) rfl ?_
            refine r_bipush C (dk oX10_takeJoin 5 rfl) (v := nI 101) (by decide) ?_
            refine r_ivi C Z (dk oX10_takeJoin 6 rfl) cl_X10_187 ci_X10_isTop rfl (km hn rfl) (c_X10_isTop hn I2 J W2 C2 hq2 hw2 13 (by decide)) rfl rfl (Nat.le_of_ble_eq_true rfl) ⟨Nat.le_of_ble_eq_true rfl, Nat.le_of_ble_eq_true rfl⟩ ⟨Nat.zero_le _, Nat.zero_le _⟩ (fun r12 I12 J12 h12 => ?_)
            obtain ⟨h12, e1_, e2_⟩ := h12
            have e1_ := e1_.symm
            have e2_ := e2_.symm
            subst e1_
            subst e2_
            subst h12
            refine r_if_ne (tgt := 27) C (dk oX10_takeJoin 7 rfl) (by decide) (fun hb15 => ?_) (fun hb15 => ?_)
            · rw [b32_n] at hb15
              obtain ⟨x, W3, hx, hWe⟩ : ∃ x W3, (x = 13 ∨ x = 14) ∧ W2 = x :: W3 := by
                first
                  | (obtain ⟨W3, h⟩ := topB_c hb15; exact ⟨13, W3, Or.inl rfl, h⟩)
                  | (obtain ⟨W3, h⟩ := topB_c hb24; exact ⟨14, W3, Or.inr rfl, h⟩)
              have hxr : 12 ≤ x ∧ x < 15 := by omega
              refine r_aload_n C 0 (dk oX10_takeJoin 12 rfl) rfl ?_
              refine r_ivv C Z (dk oX10_takeJoin 13 rfl) cl_X10_191 ci_X10_sayTop rfl (km hn rfl) (c_X10_sayTop hn I2 J x W3 C2 (by rw [hWe] at hq2; exact hq2) (by have h := hw2.1; rw [hWe] at h; exact Nat.lt_of_lt_of_le (Nat.lt_succ_self _) h) (by have h := hb2; rw [hWe, nops_c (by omega)] at h; omega)) rfl rfl (Nat.le_of_ble_eq_true rfl) ⟨Nat.le_of_ble_eq_true rfl, Nat.le_of_ble_eq_true rfl⟩ ⟨Nat.zero_le _, Nat.zero_le _⟩ (fun I28 J28 h28 => ?_)
              obtain ⟨e1_, e2_⟩ := h28
              have e1_ := e1_.symm
              have e2_ := e2_.symm
              subst e1_
              subst e2_
              refine r_goto (tgt := 9) C (dk oX10_takeJoin 14 rfl) (by decide) ?_
              refine V.sub [0] rfl ?_
              refine ih W3 (C2 ++ [x]) _ (by rw [hWe] at hd9; exact Nat.lt_of_succ_lt_succ hd9) ?_ ((by rw [hWe] at hq2; exact hq2 : mQ I2 (x :: W3) C2).pop (by omega) (by omega)) (by rw [hWe] at hw2; exact hw2.tl) (by rw [hWe, nops_c (by omega)] at hb2; rw [List.length_append]; show C2.length + 1 + nops W3 ≤ 120; omega) (by rw [hWe, opens_b hx] at ho2; exact ho2) (by rw [up2_off (by decide), up2_ne (by decide), up2_off (by decide)]; exact ho3) (((hz2.f (Or.inl rfl)).c (Or.inr rfl)).f (Or.inr (Or.inr rfl)))
              rw [← hpe, hWe]
              exact (popB_t (decide_eq_true (by omega))).symm
            · rw [b32_0] at hb15
              refine r_aload_n C 0 (dk oX10_takeJoin 8 rfl) rfl ?_
              refine r_bipush C (dk oX10_takeJoin 9 rfl) (v := nI 102) (by decide) ?_
              refine r_ivi C Z (dk oX10_takeJoin 10 rfl) cl_X10_187 ci_X10_isTop rfl (km hn rfl) (c_X10_isTop hn I2 J W2 C2 hq2 hw2 14 (by decide)) rfl rfl (Nat.le_of_ble_eq_true rfl) ⟨Nat.le_of_ble_eq_true rfl, Nat.le_of_ble_eq_true rfl⟩ ⟨Nat.zero_le _, Nat.zero_le _⟩ (fun r21 I21 J21 h21 => ?_)
              obtain ⟨h21, e1_, e2_⟩ := h21
              have e1_ := e1_.symm
              have e2_ := e2_.symm
              subst e1_
              subst e2_
              subst h21
              refine r_if_eq (tgt := 34) C (dk oX10_takeJoin 11 rfl) (by decide) (fun hb24 => ?_) (fun hb24 => ?_)
              · rw [b32_0] at hb24
                refine r_aload_n C 0 (dk oX10_takeJoin 15 rfl) rfl ?_
                refine r_aload_n C 0 (dk oX10_takeJoin 16 rfl) rfl ?_
                refine r_bipush C (dk oX10_takeJoin 17 rfl) (v := nI 103) (by decide) ?_
                refine r_ivi C Z (dk oX10_takeJoin 18 rfl) cl_X10_187 ci_X10_isTop rfl (km hn rfl) (c_X10_isTop hn I2 J W2 C2 hq2 hw2 15 (by decide)) rfl rfl (Nat.le_of_ble_eq_true rfl) ⟨Nat.le_of_ble_eq_true rfl, Nat.le_of_ble_eq_true rfl⟩ ⟨Nat.zero_le _, Nat.zero_le _⟩ (fun r38 I38 J38 h38 => ?_)
                obtain ⟨h38, e1_, e2_⟩ := h38
                have e1_ := e1_.symm
                have e2_ := e2_.symm
                subst e1_
                subst e2_
                subst h38
                refine r_topI (show b32 (topB 15 W2) = b32 (decide (topB 15 W2 = true)) from by cases topB 15 W2 <;> rfl) ?_
                have hpop : popAO W1 C1 = (W2, C2) := by rw [← hpe]; exact pop_no hb15 hb24
                refine r_iconst C (dk oX10_takeJoin 19 rfl) (v := nI 1) (by decide) ?_
                refine r_aload_n C 0 (dk oX10_takeJoin 20 rfl) rfl ?_
                refine r_getI C (dk oX10_takeJoin 21 rfl) fl_X10_142 rfl (km hn rfl) ?_
                rw [hz2.2 26 (by decide) (by decide) (by decide), hh1]
                refine r_ivi C Z (dk oX10_takeJoin 22 rfl) cl_X10_173 ci_X10_want rfl (km hn rfl) (c_X10_want hn I2 J (decide (topB 15 W2 = true)) (nI 1) (nI (sk t L a1)) (nI 0) ((hz2.2 29 (by decide) (by decide) (by decide)).trans ((hhB1 29 (by decide)).trans h29))) rfl rfl (Nat.le_of_ble_eq_true rfl) ⟨Nat.le_of_ble_eq_true rfl, Nat.le_of_ble_eq_true rfl⟩ ⟨Nat.zero_le _, Nat.zero_le _⟩ (fun r46 I46 J46 h46 => ?_)
                obtain ⟨e1_, hW46, e2_⟩ := h46
                have e1_ := e1_.symm
                have e2_ := e2_.symm
                subst e1_
                subst e2_
                refine r_if_ne (tgt := 54) C (dk oX10_takeJoin 23 rfl) (by decide) (fun hb49 => ?_) (fun hb49 => ?_)
                · rw [b32_n, decide_eq_true_eq] at hb49
                  have hb49 := want_1 (by decide) hb49
                  have hI46 := want_f hW46 hb49
                  subst hI46
                  obtain ⟨W5, hW5⟩ := topB_c hb49
                  have hq5 := hq2
                  rw [hW5] at hq5
                  have ho5 : opens W1 = opens W5 + 1 := by rw [← ho2, hW5, opens_o (Or.inr rfl)]
                  have hw5 := hw2
                  rw [hW5] at hw5
                  have hb5 : C2.length + nops W5 ≤ 120 := by
                    have h := hb2
                    rw [hW5] at h
                    have h2 : nops (15 :: W5) = nops W5 := by simp [nops, List.countP_cons]
                    omega
                  refine r_aload_n C 0 (dk oX10_takeJoin 26 rfl) rfl ?_
                  refine r_dup C (dk oX10_takeJoin 27 rfl) rfl ?_
                  refine r_getI C (dk oX10_takeJoin 28 rfl) fl_X10_181 rfl (km hn rfl) ?_
                  rw [hq2.1, hW5, show (15 :: W5).length = W5.length + 1 from rfl]
                  refine r_iconst C (dk oX10_takeJoin 29 rfl) (v := nI 1) (by decide) ?_
                  refine r_isub C (dk oX10_takeJoin 30 rfl) ?_
                  rw [pk_sub (by omega), Nat.add_sub_cancel]
                  refine r_putI C (dk oX10_takeJoin 31 rfl) fl_X10_181 ft_10_32 rfl (km hn rfl) ?_
                  refine r_aload_n C 0 (dk oX10_takeJoin 32 rfl) rfl ?_
                  refine r_dup C (dk oX10_takeJoin 33 rfl) rfl ?_
                  refine r_getI C (dk oX10_takeJoin 34 rfl) fl_X10_194 rfl (km hn rfl) ?_
                  rw [up2_off (by decide), ho3, ho5]
                  refine r_iconst C (dk oX10_takeJoin 35 rfl) (v := nI 1) (by decide) ?_
                  refine r_isub C (dk oX10_takeJoin 36 rfl) ?_
                  rw [pk_sub (by omega), Nat.add_sub_cancel]
                  refine r_putI C (dk oX10_takeJoin 37 rfl) fl_X10_194 ft_10_33 rfl (km hn rfl) ?_
                  refine r_aload_n C 0 (dk oX10_takeJoin 38 rfl) rfl ?_
                  refine r_dup C (dk oX10_takeJoin 39 rfl) rfl ?_
                  refine r_getI C (dk oX10_takeJoin 40 rfl) fl_X10_142 rfl (km hn rfl) ?_
                  rw [up2_off (by decide), up2_off (by decide), hz2.2 26 (by decide) (by decide) (by decide), hh1]
                  refine r_iconst C (dk oX10_takeJoin 41 rfl) (v := nI 1) (by decide) ?_
                  refine r_iadd C (dk oX10_takeJoin 42 rfl) ?_
                  rw [nI_add]
                  refine r_putI C (dk oX10_takeJoin 43 rfl) fl_X10_142 ft_10_26 rfl (km hn rfl) ?_
                  refine r_aload_n C 0 (dk oX10_takeJoin 44 rfl) rfl ?_
                  refine r_ivv C Z (dk oX10_takeJoin 45 rfl) cl_X10_208 ci_X10_closeNots rfl (km hn rfl) (c_X10_closeNots hn (up2 (up2 (up2 I46 117 32 (nI W5.length)) 117 33 (nI (opens W5))) 117 26 (nI ((sk t L a1) + 1))) J W5 C2 (hq5.drop.of (by rw [up2_off (by decide), up2_off (by decide)]) (by rw [up2_off (by decide), up2_off (by decide)]) (by rw [up2_ne (by decide), up2_ne (by decide)]) (by rw [up2_ne (by decide), up2_ne (by decide)])) hw5.tl hb5 (by rw [up2_off (by decide), up2_at])) rfl rfl (Nat.le_of_ble_eq_true rfl) ⟨Nat.le_of_ble_eq_true rfl, Nat.le_of_ble_eq_true rfl⟩ ⟨Nat.zero_le _, Nat.zero_le _⟩ (fun I85 J85 h85 => ?_)
                  obtain ⟨hq85, ho85, hz85, e2_⟩ := h85
                  have e2_ := e2_.symm
                  subst e2_
                  refine r_goto (tgt := 0) C (dk oX10_takeJoin 46 rfl) (by decide) ?_
                  refine V.sub [0] rfl ?_
                  refine ihO ((sk t L a1) + 1) (clW W5 C2).1 (clW W5 C2).2 _ (by have := isS_l hb6; have := @sk_ge t L ((sk t L a1) + 1); omega) ((((((hX.tr (hereX hhA1 hhB1)).tr hz2.X).up 32 _ (by decide)).up 33 _ (by decide)).up 26 _ (by decide)).tr hz85.X) ⟨hT.of ((hz85.2 25 (by decide) (by decide) (by decide)).trans (by rw [up2_off (by decide), up2_off (by decide), up2_off (by decide)]; exact ((hz2.2 25 (by decide) (by decide) (by decide)).trans (hhB1 25 (by decide))))) ((hz85.1 141 (by decide) (by decide) (by decide)).trans (by rw [up2_ne (by decide), up2_ne (by decide), up2_ne (by decide), hz2.1 141 (by decide) (by decide) (by decide)]; exact hhA1 141 (by decide))), (hz85.2 26 (by decide) (by decide) (by decide)).trans up2_at, by have := isS_l hb6; omega, (hz85.2 29 (by decide) (by decide) (by decide)).trans (by rw [up2_off (by decide), up2_off (by decide), up2_off (by decide)]; exact ((hz2.2 29 (by decide) (by decide) (by decide)).trans ((hhB1 29 (by decide)).trans h29))), (hz85.2 30 (by decide) (by decide) (by decide)).trans (by rw [up2_off (by decide), up2_off (by decide), up2_off (by decide)]; exact ((hz2.2 30 (by decide) (by decide) (by decide)).trans ((hhB1 30 (by decide)).trans h30))), hq85, ho85⟩ (hr.then (stp_close hb6 (by rw [hpop, hW5]))) (by have := @sk_ge t L ((sk t L a1) + 1); omega)
                · rw [b32_0, decide_eq_false_iff_not] at hb49
                  have hb49 := want_0 hb49
                  have hI46 := want_t hW46 hb49
                  subst hI46
                  refine r_iconst C (dk oX10_takeJoin 24 rfl) (v := nI 0) (by decide) ?_
                  refine hret (dk oX10_takeJoin 25 rfl) rfl ?_
                  exact ⟨rfl, ((((hX.tr (hereX hhA1 hhB1)).tr hz2.X).up 29 _ (by decide)).up 30 _ (by decide)), Or.inl ⟨rfl, 1, (sk t L a1), W1, C1, by decide, by decide, by rw [up2_off (by decide), up2_at], up2_at, hr.then (stp_closeG hb6 hpop hb49)⟩⟩
              · rw [b32_n] at hb24
                obtain ⟨x, W3, hx, hWe⟩ : ∃ x W3, (x = 13 ∨ x = 14) ∧ W2 = x :: W3 := by
                  first
                    | (obtain ⟨W3, h⟩ := topB_c hb15; exact ⟨13, W3, Or.inl rfl, h⟩)
                    | (obtain ⟨W3, h⟩ := topB_c hb24; exact ⟨14, W3, Or.inr rfl, h⟩)
                have hxr : 12 ≤ x ∧ x < 15 := by omega
                refine r_aload_n C 0 (dk oX10_takeJoin 12 rfl) rfl ?_
                refine r_ivv C Z (dk oX10_takeJoin 13 rfl) cl_X10_191 ci_X10_sayTop rfl (km hn rfl) (c_X10_sayTop hn I2 J x W3 C2 (by rw [hWe] at hq2; exact hq2) (by have h := hw2.1; rw [hWe] at h; exact Nat.lt_of_lt_of_le (Nat.lt_succ_self _) h) (by have h := hb2; rw [hWe, nops_c (by omega)] at h; omega)) rfl rfl (Nat.le_of_ble_eq_true rfl) ⟨Nat.le_of_ble_eq_true rfl, Nat.le_of_ble_eq_true rfl⟩ ⟨Nat.zero_le _, Nat.zero_le _⟩ (fun I28 J28 h28 => ?_)
                obtain ⟨e1_, e2_⟩ := h28
                have e1_ := e1_.symm
                have e2_ := e2_.symm
                subst e1_
                subst e2_
                refine r_goto (tgt := 9) C (dk oX10_takeJoin 14 rfl) (by decide) ?_
                refine V.sub [0] rfl ?_
                refine ih W3 (C2 ++ [x]) _ (by rw [hWe] at hd9; exact Nat.lt_of_succ_lt_succ hd9) ?_ ((by rw [hWe] at hq2; exact hq2 : mQ I2 (x :: W3) C2).pop (by omega) (by omega)) (by rw [hWe] at hw2; exact hw2.tl) (by rw [hWe, nops_c (by omega)] at hb2; rw [List.length_append]; show C2.length + 1 + nops W3 ≤ 120; omega) (by rw [hWe, opens_b hx] at ho2; exact ho2) (by rw [up2_off (by decide), up2_ne (by decide), up2_off (by decide)]; exact ho3) (((hz2.f (Or.inl rfl)).c (Or.inr rfl)).f (Or.inr (Or.inr rfl)))
                rw [← hpe, hWe]
                exact (popB_t (decide_eq_true (by omega))).symm
        refine V.sub [0] rfl ?_
        exact L9 (W1.length + 1) W1 C1 I1 (by omega) rfl hqE hw (by omega) rfl hoE (mzF.rf _)
  refine V.sub [0] rfl ?_
  exact L0 (L + 2) a_ W_ C_ I (by omega) (rdX.rf I) hRS0 rch.rf (Nat.le_refl _)

end MOD11
