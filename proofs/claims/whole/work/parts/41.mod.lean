section MOD10
variable {l : Launch} {n : Nat} {ad : Nat → Nat} {cA : Nat → ClassId} {D : va_G} {z : Zw}
/-- what reading a claim changes -/
def rdX (I I' : MI) : Prop := (∀ k, k ≠ 117 → k ≠ 142 → k ≠ 143 → I' k = I k) ∧ ∀ i, i ≠ 26 → i ≠ 27 → i ≠ 28 → i ≠ 29 → i ≠ 30 → i ≠ 32 → i ≠ 33 → i ≠ 35 → I' 117 i = I 117 i
theorem rdX.rf (I : MI) : rdX I I := ⟨fun _ _ _ _ => rfl, fun _ _ _ _ _ _ _ _ _ => rfl⟩
theorem rdX.tr {I I1 I2 : MI} (h1 : rdX I I1) (h2 : rdX I1 I2) : rdX I I2 := ⟨fun k a b c => (h2.1 k a b c).trans (h1.1 k a b c), fun k a b c d e f g h => (h2.2 k a b c d e f g h).trans (h1.2 k a b c d e f g h)⟩
theorem rdX.up {I I1 : MI} (h : rdX I I1) (i : Nat) (v : Int32) (hi : i = 26 ∨ i = 27 ∨ i = 28 ∨ i = 29 ∨ i = 30 ∨ i = 32 ∨ i = 33 ∨ i = 35) : rdX I (up2 I1 117 i v) := ⟨fun k a b c => by rw [up2_ne a]; exact h.1 k a b c, fun q a b c d e f g j => by rw [up2_off (by omega)]; exact h.2 q a b c d e f g j⟩
theorem rdX.uc {I I1 : MI} (h : rdX I I1) {k i : Nat} {v : Int32} (hk : k = 142 ∨ k = 143) : rdX I (up2 I1 k i v) := ⟨fun q a b c => by rw [up2_ne (by omega)]; exact h.1 q a b c, fun q a b c d e f g j => by rw [up2_ne (by omega)]; exact h.2 q a b c d e f g j⟩
theorem tkF.X {I I' : MI} (h : tkF I I') : rdX I I' := ⟨fun k a _ _ => h.1 k a, fun i a b c _ _ _ _ _ => h.2 i a b c⟩
theorem nuF.X {I I' : MI} (h : nuF I I') : rdX I I' := ⟨fun k a _ _ => h.1 k a, fun i a b _ d e _ _ _ => h.2 i a b d e⟩
theorem mzF.X {I I' : MI} (h : mzF I I') : rdX I I' := ⟨fun k a b c => h.1 k a b c, fun i _ _ _ _ _ f g j => h.2 i f g j⟩
theorem hereX {I I' : MI} (h1 : ∀ k, k ≠ 117 → I' k = I k) (h2 : ∀ i, i ≠ 26 → I' 117 i = I 117 i) : rdX I I' := ⟨fun k a _ _ => h1 k a, fun i a _ _ _ _ _ _ _ => h2 i a⟩
/-- reading goes on -/
def RS (I : MI) (t : Nat → Nat) (L a : Nat) (W C : List Nat) : Prop := MTx I t L ∧ I 117 26 = nI a ∧ a ≤ L ∧ I 117 29 = nI 0 ∧ I 117 30 = -1 ∧ mQ I W C ∧ I 117 33 = nI (opens W)
def mBad (t : Nat → Nat) (L : Nat) (σ : MS) (I' : MI) : Prop := ∃ f s' W' C', 0 < f ∧ f < 4 ∧ I' 117 29 = nI f ∧ I' 117 30 = nI s' ∧ rch t L σ (10 + f, s', W', C')
theorem mBad.to {t : Nat → Nat} {L : Nat} {σ τ : MS} {I' : MI} (h : mBad t L τ I') (hr : rch t L σ τ) : mBad t L σ I' := by
  obtain ⟨f, s', W', C', a, b, c, d, e⟩ := h
  exact ⟨f, s', W', C', a, b, c, d, hr.trans e⟩
def opI (t : Nat → Nat) (L : Nat) (σ : MS) (g : Bool) (m : Nat) (I1 : MI) : Prop := (g = true ∧ ∃ a1 W1 C1, m = L + 2 - sk t L a1 ∧ RS I1 t L a1 W1 C1 ∧ rch t L σ (0, sk t L a1, W1, C1) ∧ σ.2.1 ≤ sk t L a1) ∨ mBad t L σ I1 ∨ (g = false ∧ ∃ a1 W1 C1, RS I1 t L a1 W1 C1 ∧ rch t L σ (1, sk t L a1, W1, C1) ∧ σ.2.1 < sk t L a1)
theorem nbf {x : Bool} (h : ¬ x = true) : x = false := by cases x <;> simp_all
theorem want_f {I1 I2 : MI} {P : Prop} [Decidable P] {x w : Int32} (h : I2 = if decide P = false ∧ nI 0 = 0 then up2 (up2 I1 117 29 x) 117 30 w else I1) (hP : P) : I2 = I1 := h.trans (if_neg (fun q => by rw [decide_eq_true hP] at q; exact absurd q.1 (by decide)))
theorem want_t {I1 I2 : MI} {P : Prop} [Decidable P] {x w : Int32} (h : I2 = if decide P = false ∧ nI 0 = 0 then up2 (up2 I1 117 29 x) 117 30 w else I1) (hP : ¬ P) : I2 = up2 (up2 I1 117 29 x) 117 30 w := h.trans (if_pos ⟨decide_eq_false hP, rfl⟩)
theorem want_1 {P : Prop} [Decidable P] {x : Int32} (hx : ¬ x = 0) (h : (if decide P = false ∧ nI 0 = 0 then x else nI 0) = 0) : P := by
  by_cases hP : P
  · exact hP
  · rw [if_pos ⟨decide_eq_false hP, rfl⟩] at h
    exact absurd h hx
theorem want_0 {P : Prop} [Decidable P] {x : Int32} (h : ¬ (if decide P = false ∧ nI 0 = 0 then x else nI 0) = 0) : ¬ P := fun hP => h (by rw [if_neg (fun q => by rw [decide_eq_true hP] at q; exact absurd q.1 (by decide))]; rfl)
theorem isS_l {t : Nat → Nat} {L s c : Nat} (h : isS t L s c = true) : s < L := (of_decide_eq_true h).1
set_option maxHeartbeats 1000000 in
set_option maxRecDepth 100000 in
theorem c_X10_takeOperand (hn : 148 ≤ n) (I : MI) (J : MJ) (t : Nat → Nat) (L a_ : Nat) (W_ C_ : List Nat) (hL : L ≤ 120) (hRS0 : RS I t L a_ W_ C_) (hOK : mOK L (0, sk t L a_, W_, C_)) : Cv l n ad cA D z 3 yX10_takeOperand cX10_takeOperand 3 I J [.ref (ad 117)] (fun I' J' => J' = J ∧ rdX I I' ∧ (mBad t L (0, sk t L a_, W_, C_) I' ∨ ∃ a1 W1 C1, RS I' t L a1 W1 C1 ∧ rch t L (0, sk t L a_, W_, C_) (1, sk t L a1, W1, C1) ∧ sk t L a_ < sk t L a1)) := by
  refine Cv.of (by decide) (Nat.le_of_ble_eq_true rfl) ?_
  intro p e s m args below meth c A C hin Z Q hret
  refine r_iconst C (dk oX10_takeOperand 0 rfl) (v := nI 1) (by decide) ?_
  refine r_istore_n (lo' := [(1, _), (0, _)]) C (dk oX10_takeOperand 1 rfl) rfl (by decide) rfl ?_
  have L2 : ∀ (d_ : Nat) (g : Bool) (m_ : Nat) (I1 : MI), m_ < d_ → rdX I I1 → opI t L (0, sk t L a_, W_, C_) g m_ I1 → V p l e (rmL 3) s m args below meth c Q D A 3 0 0 n ad (mE cA ad I1 J) 2 [(0, .ref (ad 117)), (1, .int (b32 g))] [] := by
    intro d_
    induction d_ with
    | zero => intros; exact absurd (by assumption) (Nat.not_lt_zero _)
    | succ d_ ih => 
      intro g m_ I1 hd_ hX hI
      refine r_iload_n C 1 (dk oX10_takeOperand 2 rfl) rfl ?_
      refine r_if_eq (tgt := 165) C (dk oX10_takeOperand 3 rfl) (by decide) (fun hb3 => ?_) (fun hb3 => ?_)
      · refine hret (dk oX10_takeOperand 86 rfl) ?_
        refine ⟨rfl, hX, ?_⟩
        rcases hI with ⟨hg, a1, W1, C1, hm, hRS, _⟩ | h | ⟨_, h⟩
        · exfalso
          first
            | (rw [hg] at hb3; exact absurd hb3 (by decide))
            | exact hb10 (by rw [hRS.2.2.2.1]; rfl)
        · exact Or.inl h
        · exact Or.inr h
      · refine r_aload_n C 0 (dk oX10_takeOperand 4 rfl) rfl ?_
        refine r_getI C (dk oX10_takeOperand 5 rfl) fl_X10_145 rfl (km hn rfl) ?_
        refine r_if_ne (tgt := 165) C (dk oX10_takeOperand 6 rfl) (by decide) (fun hb10 => ?_) (fun hb10 => ?_)
        · refine hret (dk oX10_takeOperand 86 rfl) ?_
          refine ⟨rfl, hX, ?_⟩
          rcases hI with ⟨hg, a1, W1, C1, hm, hRS, _⟩ | h | ⟨_, h⟩
          · exfalso
            first
              | (rw [hg] at hb3; exact absurd hb3 (by decide))
              | exact hb10 (by rw [hRS.2.2.2.1]; rfl)
          · exact Or.inl h
          · exact Or.inr h
        · obtain ⟨a1, W1, C1, hm, hRS, hr, hle⟩ : ∃ a1 W1 C1, m_ = L + 2 - sk t L a1 ∧ RS I1 t L a1 W1 C1 ∧ rch t L (0, sk t L a_, W_, C_) (0, sk t L a1, W1, C1) ∧ sk t L a_ ≤ sk t L a1 := by
            rcases hI with ⟨_, h⟩ | ⟨f, s', W', C', h1, h2, h3, _⟩ | ⟨h, _⟩
            · exact h
            · rw [h3] at hb10
              exact absurd ((nI_eq0 (by omega)).mp hb10) (by omega)
            · rw [h] at hb3
              exact absurd rfl hb3
          obtain ⟨hT, h26, haL, h29, h30, hq, ho⟩ := hRS
          have hmk := rch_ok hOK hr
          obtain ⟨hsL, hcn, hWK, hop8, hC15, _⟩ := hmk
          have hsL : sk t L a1 ≤ L := hsL
          have hcn : C1.length + nops W1 ≤ sk t L a1 := hcn
          have hop8 : opens W1 ≤ 8 := hop8
          have hw : wOK W1 := WOK.w hWK hop8
          have hwl := hw.1
          refine r_aload_n C 0 (dk oX10_takeOperand 7 rfl) rfl ?_
          refine r_ivi C Z (dk oX10_takeOperand 8 rfl) cl_X10_148 ci_X10_here rfl (km hn rfl) (c_X10_here hn I1 J t L (hT) (a1) (h26) (haL)) rfl rfl (Nat.le_of_ble_eq_true rfl) ⟨Nat.le_of_ble_eq_true rfl, Nat.le_of_ble_eq_true rfl⟩ ⟨Nat.zero_le _, Nat.zero_le _⟩ (fun r14 I14 J14 h14 => ?_)
          obtain ⟨e1_, hh14, hhA14, hhB14, e2_⟩ := h14
          have e1_ := e1_.symm
          have e2_ := e2_.symm
          subst e1_
          subst e2_
          refine r_bipush C (dk oX10_takeOperand 9 rfl) (v := nI 40) (by decide) ?_
          refine r_icmp_ne (tgt := 77) C (dk oX10_takeOperand 10 rfl) (by decide) (fun hb19 => ?_) (fun hb19 => ?_)
          · rw [hr_c (fun h => (hT.2.2 _ h).1) (by decide)] at hb19
            have hb19 := nbf hb19
            refine r_aload_n C 0 (dk oX10_takeOperand 40 rfl) rfl ?_
            refine r_iconst C (dk oX10_takeOperand 41 rfl) (v := nI 3) (by decide) ?_
            refine r_bipush C (dk oX10_takeOperand 42 rfl) (v := nI 110) (by decide) ?_
            refine r_bipush C (dk oX10_takeOperand 43 rfl) (v := nI 111) (by decide) ?_
            refine r_bipush C (dk oX10_takeOperand 44 rfl) (v := nI 116) (by decide) ?_
            refine r_ivi C Z (dk oX10_takeOperand 45 rfl) cl_X10_200 ci_X10_isNext rfl (km hn rfl) (c_X10_isNext hn I14 J t L (hT.tk ⟨hhA14, fun i a _ _ => hhB14 i a⟩) (sk t L a1) hh14 hsL 3 110 111 116 (by decide) (by decide) wNot (by decide)) rfl rfl (Nat.le_of_ble_eq_true rfl) ⟨Nat.le_of_ble_eq_true rfl, Nat.le_of_ble_eq_true rfl⟩ ⟨Nat.zero_le _, Nat.zero_le _⟩ (fun r85 I85 J85 h85 => ?_)
            obtain ⟨e1_, h26n, h27n, hfn, e2_⟩ := h85
            rw [sk_sk] at e1_ h26n h27n
            have e1_ := e1_.symm
            have e2_ := e2_.symm
            subst e1_
            subst e2_
            refine r_if_eq (tgt := 136) C (dk oX10_takeOperand 46 rfl) (by decide) (fun hb88 => ?_) (fun hb88 => ?_)
            · rw [b32_0] at hb88
              rw [hb88, if_neg (by decide)] at h26n
              refine r_aload_n C 0 (dk oX10_takeOperand 70 rfl) rfl ?_
              refine r_iconst C (dk oX10_takeOperand 71 rfl) (v := nI 0) (by decide) ?_
              refine r_bipush C (dk oX10_takeOperand 72 rfl) (v := nI 11) (by decide) ?_
              refine r_ivi C Z (dk oX10_takeOperand 73 rfl) cl_X10_204 ci_X10_takeNumber rfl (km hn rfl) (c_X10_takeNumber hn I85 J t L ((hT.tk ⟨hhA14, fun i a _ _ => hhB14 i a⟩).tk hfn) (sk t L a1) h26n hsL ((hfn.2 29 (by decide) (by decide) (by decide)).trans ((hhB14 29 (by decide)).trans h29)) 0 11 (by decide) (by decide)) rfl rfl (Nat.le_of_ble_eq_true rfl) ⟨Nat.le_of_ble_eq_true rfl, Nat.le_of_ble_eq_true rfl⟩ ⟨Nat.zero_le _, Nat.zero_le _⟩ (fun r140 I140 J140 h140 => ?_)
              obtain ⟨hn1, hn2, hn3, hn4, hn5, hnf, e2_⟩ := h140
              rw [sk_sk] at hn1 hn2 hn3 hn4
              have e2_ := e2_.symm
              subst e2_
              refine r_istore_n (lo' := [(2, _), (0, _), (1, _)]) C (dk oX10_takeOperand 74 rfl) rfl (by decide) rfl ?_
              refine r_aload_n C 1 (dk oX10_takeOperand 75 rfl) rfl ?_
              refine r_getI C (dk oX10_takeOperand 76 rfl) fl_X10_145 rfl (km hn rfl) ?_
              rw [hn1]
              refine r_if_ne (tgt := 160) C (dk oX10_takeOperand 77 rfl) (by decide) (fun hb148 => ?_) (fun hb148 => ?_)
              · rw [nI_eq0 (by have := @nmF_lt t L (sk t L a1) 0 11; omega)] at hb148
                refine r_iconst C (dk oX10_takeOperand 83 rfl) (v := nI 0) (by decide) ?_
                refine r_istore_n (lo' := [(1, _), (2, _), (0, _)]) C (dk oX10_takeOperand 84 rfl) rfl (by decide) rfl ?_
                refine r_goto (tgt := 2) C (dk oX10_takeOperand 85 rfl) (by decide) ?_
                refine V.sub [2, 0] rfl ?_
                first
                  | exact ih g 0 _ (by omega) (((hX.tr (hereX hhA14 hhB14)).up 29 _ (by decide)).up 30 _ (by decide)) (Or.inr (Or.inl ⟨3, _, W1, C1, by decide, by decide, by rw [up2_off (by decide), up2_at], up2_at, hr.then (stp_openF hb19 hb45)⟩))
                  | exact ih g (L + 2 - sk t L ((sk t L a1) + 1)) _ (by have := isS_l hb19; have := @sk_ge t L ((sk t L a1) + 1); omega) (((((hX.tr (hereX hhA14 hhB14)).uc (Or.inl rfl)).up 32 _ (by decide)).up 33 _ (by decide)).up 26 _ (by decide)) (Or.inl ⟨b32_n.mp hb3, (sk t L a1) + 1, 15 :: W1, C1, rfl, ⟨hT.of (by rw [up2_off (by decide), up2_off (by decide), up2_off (by decide), up2_ne (by decide)]; exact (hhB14 25 (by decide))) (by rw [up2_ne (by decide), up2_ne (by decide), up2_ne (by decide), up2_ne (by decide)]; exact hhA14 141 (by decide)), up2_at, by have := isS_l hb19; omega, by rw [up2_off (by decide), up2_off (by decide), up2_off (by decide), up2_ne (by decide)]; exact ((hhB14 29 (by decide)).trans h29), by rw [up2_off (by decide), up2_off (by decide), up2_off (by decide), up2_ne (by decide)]; exact ((hhB14 30 (by decide)).trans h30), (mQ.push (x := 15) hq14).of (by rw [up2_off (by decide), up2_off (by decide)]) (by rw [up2_off (by decide), up2_off (by decide)]) (by rw [up2_ne (by decide), up2_ne (by decide)]) (by rw [up2_ne (by decide), up2_ne (by decide)]), by rw [up2_off (by decide), up2_at, opens_o (Or.inr rfl)]⟩, hr.then (stp_open hb19 hb45), by have := @sk_ge t L ((sk t L a1) + 1); show sk t L a_ ≤ _; omega⟩)
                  | exact ih g 0 _ (by omega) ((((hX.tr (hereX hhA14 hhB14)).tr hfn.X).up 29 _ (by decide)).up 30 _ (by decide)) (Or.inr (Or.inl ⟨3, _, W1, C1, by decide, by decide, by rw [up2_off (by decide), up2_at], up2_at, hr.then (stp_notF hb88 hb114)⟩))
                  | exact ih g (L + 2 - sk t L ((sk t L a1) + 3)) _ (by have := isW_lt (w := wNot) hsL hb88; have := @sk_ge t L ((sk t L a1) + 3); omega) (((((hX.tr (hereX hhA14 hhB14)).tr hfn.X).uc (Or.inl rfl)).up 32 _ (by decide)).up 33 _ (by decide)) (Or.inl ⟨b32_n.mp hb3, (sk t L a1) + 3, 12 :: W1, C1, rfl, ⟨hT.of (by rw [up2_off (by decide), up2_off (by decide), up2_ne (by decide)]; exact ((hfn.2 25 (by decide) (by decide) (by decide)).trans (hhB14 25 (by decide)))) (by rw [up2_ne (by decide), up2_ne (by decide), up2_ne (by decide), hfn.1 141 (by decide)]; exact hhA14 141 (by decide)), by rw [up2_off (by decide), up2_off (by decide), up2_ne (by decide)]; exact h26n, by have := isW_lt (w := wNot) hsL hb88; have e3 : wNot.length = 3 := rfl; omega, by rw [up2_off (by decide), up2_off (by decide), up2_ne (by decide)]; exact ((hfn.2 29 (by decide) (by decide) (by decide)).trans ((hhB14 29 (by decide)).trans h29)), by rw [up2_off (by decide), up2_off (by decide), up2_ne (by decide)]; exact ((hfn.2 30 (by decide) (by decide) (by decide)).trans ((hhB14 30 (by decide)).trans h30)), (mQ.push (x := 12) hq85).of (up2_off (by decide)) (up2_off (by decide)) (up2_ne (by decide)) (up2_ne (by decide)), by rw [up2_at, opens_o (Or.inl rfl)]⟩, hr.then (stp_not hb88 hb114), by have := @sk_ge t L ((sk t L a1) + 3); show sk t L a_ ≤ _; omega⟩)
                  | exact ih false 0 _ (by omega) (((hX.tr (hereX hhA14 hhB14)).tr hfn.X).tr hnf.X) (Or.inr (Or.inl ⟨nmF t L (sk t L a1) 0 11, _, W1, C1, by omega, by have := @nmF_lt t L (sk t L a1) 0 11; omega, hn1, by rw [hn2, if_neg hb148], hr.then (stp_figF hb19 hb88 hb148)⟩))
                  | exact ih false 0 _ (by omega) ((((((hX.tr (hereX hhA14 hhB14)).tr hfn.X).tr hnf.X).uc (Or.inr rfl)).up 35 _ (by decide)).tr hz157.X) (Or.inr (Or.inr ⟨rfl, nE t L (sk t L a1), (clW W1 (C1 ++ [nmV t L (sk t L a1)])).1, (clW W1 (C1 ++ [nmV t L (sk t L a1)])).2, ⟨hT.of ((hz157.2 25 (by decide) (by decide) (by decide)).trans (by rw [up2_off (by decide), up2_ne (by decide)]; exact (hnf.2 25 (by decide) (by decide) (by decide) (by decide)).trans ((hfn.2 25 (by decide) (by decide) (by decide)).trans (hhB14 25 (by decide))))) ((hz157.1 141 (by decide) (by decide) (by decide)).trans (by rw [up2_ne (by decide), up2_ne (by decide)]; exact (hnf.1 141 (by decide)).trans ((hfn.1 141 (by decide)).trans (hhA14 141 (by decide))))), (hz157.2 26 (by decide) (by decide) (by decide)).trans (by rw [up2_off (by decide), up2_ne (by decide)]; exact h26v), nE_le hsL, (hz157.2 29 (by decide) (by decide) (by decide)).trans (by rw [up2_off (by decide), up2_ne (by decide), hn1, hb148]), (hz157.2 30 (by decide) (by decide) (by decide)).trans (by rw [up2_off (by decide), up2_ne (by decide), hn2, if_pos hb148]; exact (hfn.2 30 (by decide) (by decide) (by decide)).trans ((hhB14 30 (by decide)).trans h30)), hq157, ho157⟩, hr.then (stp_fig hb19 hb88 hb148), by have := @sk_ge t L (nE t L (sk t L a1)); show sk t L a_ < _; omega⟩))
              · rw [nI_eq0 (by have := @nmF_lt t L (sk t L a1) 0 11; omega)] at hb148
                obtain ⟨hrv, h26v⟩ := hn4 hb148
                have hrv := hrv.symm
                subst hrv
                obtain ⟨hfg1, hfg2, hfg3, hfg4, _⟩ := nmF_fig hb148
                have hq140 : mQ I140 W1 C1 := ((hq.of (hhB14 32 (by decide)) (hhB14 35 (by decide)) (hhA14 142 (by decide)) (hhA14 143 (by decide))).of (hfn.2 32 (by decide) (by decide) (by decide)) (hfn.2 35 (by decide) (by decide) (by decide)) (hfn.1 142 (by decide)) (hfn.1 143 (by decide))).of (hnf.2 32 (by decide) (by decide) (by decide) (by decide)) (hnf.2 35 (by decide) (by decide) (by decide) (by decide)) (hnf.1 142 (by decide)) (hnf.1 143 (by decide))
                have ho140 : I140 117 33 = nI (opens W1) := (hnf.2 33 (by decide) (by decide) (by decide) (by decide)).trans ((hfn.2 33 (by decide) (by decide) (by decide)).trans ((hhB14 33 (by decide)).trans ho))
                refine r_aload_n C 1 (dk oX10_takeOperand 78 rfl) rfl ?_
                refine r_iload_n C 0 (dk oX10_takeOperand 79 rfl) rfl ?_
                refine r_ivv C Z (dk oX10_takeOperand 80 rfl) cl_X10_184 ci_X10_say rfl (km hn rfl) (c_X10_say hn I140 J C1.length hq140.2.2.1 (by omega) (nI (nmV t L (sk t L a1)))) rfl rfl (Nat.le_of_ble_eq_true rfl) ⟨Nat.le_of_ble_eq_true rfl, Nat.le_of_ble_eq_true rfl⟩ ⟨Nat.zero_le _, Nat.zero_le _⟩ (fun I153 J153 h153 => ?_)
                obtain ⟨e1_, e2_⟩ := h153
                have e1_ := e1_.symm
                have e2_ := e2_.symm
                subst e1_
                subst e2_
                refine r_aload_n C 1 (dk oX10_takeOperand 81 rfl) rfl ?_
                refine r_ivv C Z (dk oX10_takeOperand 82 rfl) cl_X10_208 ci_X10_closeNots rfl (km hn rfl) (c_X10_closeNots hn (up2 (up2 I140 143 C1.length (nI (nmV t L (sk t L a1)))) 117 35 (nI (C1.length + 1))) J W1 (C1 ++ [nmV t L (sk t L a1)]) (hq140.say (by omega)) hw (by rw [List.length_append]; show C1.length + 1 + nops W1 ≤ 120; omega) (by rw [up2_off (by decide), up2_ne (by decide)]; exact ho140)) rfl rfl (Nat.le_of_ble_eq_true rfl) ⟨Nat.le_of_ble_eq_true rfl, Nat.le_of_ble_eq_true rfl⟩ ⟨Nat.zero_le _, Nat.zero_le _⟩ (fun I157 J157 h157 => ?_)
                obtain ⟨hq157, ho157, hz157, e2_⟩ := h157
                have e2_ := e2_.symm
                subst e2_
                refine r_iconst C (dk oX10_takeOperand 83 rfl) (v := nI 0) (by decide) ?_
                refine r_istore_n (lo' := [(1, _), (2, _), (0, _)]) C (dk oX10_takeOperand 84 rfl) rfl (by decide) rfl ?_
                refine r_goto (tgt := 2) C (dk oX10_takeOperand 85 rfl) (by decide) ?_
                refine V.sub [2, 0] rfl ?_
                first
                  | exact ih g 0 _ (by omega) (((hX.tr (hereX hhA14 hhB14)).up 29 _ (by decide)).up 30 _ (by decide)) (Or.inr (Or.inl ⟨3, _, W1, C1, by decide, by decide, by rw [up2_off (by decide), up2_at], up2_at, hr.then (stp_openF hb19 hb45)⟩))
                  | exact ih g (L + 2 - sk t L ((sk t L a1) + 1)) _ (by have := isS_l hb19; have := @sk_ge t L ((sk t L a1) + 1); omega) (((((hX.tr (hereX hhA14 hhB14)).uc (Or.inl rfl)).up 32 _ (by decide)).up 33 _ (by decide)).up 26 _ (by decide)) (Or.inl ⟨b32_n.mp hb3, (sk t L a1) + 1, 15 :: W1, C1, rfl, ⟨hT.of (by rw [up2_off (by decide), up2_off (by decide), up2_off (by decide), up2_ne (by decide)]; exact (hhB14 25 (by decide))) (by rw [up2_ne (by decide), up2_ne (by decide), up2_ne (by decide), up2_ne (by decide)]; exact hhA14 141 (by decide)), up2_at, by have := isS_l hb19; omega, by rw [up2_off (by decide), up2_off (by decide), up2_off (by decide), up2_ne (by decide)]; exact ((hhB14 29 (by decide)).trans h29), by rw [up2_off (by decide), up2_off (by decide), up2_off (by decide), up2_ne (by decide)]; exact ((hhB14 30 (by decide)).trans h30), (mQ.push (x := 15) hq14).of (by rw [up2_off (by decide), up2_off (by decide)]) (by rw [up2_off (by decide), up2_off (by decide)]) (by rw [up2_ne (by decide), up2_ne (by decide)]) (by rw [up2_ne (by decide), up2_ne (by decide)]), by rw [up2_off (by decide), up2_at, opens_o (Or.inr rfl)]⟩, hr.then (stp_open hb19 hb45), by have := @sk_ge t L ((sk t L a1) + 1); show sk t L a_ ≤ _; omega⟩)
                  | exact ih g 0 _ (by omega) ((((hX.tr (hereX hhA14 hhB14)).tr hfn.X).up 29 _ (by decide)).up 30 _ (by decide)) (Or.inr (Or.inl ⟨3, _, W1, C1, by decide, by decide, by rw [up2_off (by decide), up2_at], up2_at, hr.then (stp_notF hb88 hb114)⟩))
                  | exact ih g (L + 2 - sk t L ((sk t L a1) + 3)) _ (by have := isW_lt (w := wNot) hsL hb88; have := @sk_ge t L ((sk t L a1) + 3); omega) (((((hX.tr (hereX hhA14 hhB14)).tr hfn.X).uc (Or.inl rfl)).up 32 _ (by decide)).up 33 _ (by decide)) (Or.inl ⟨b32_n.mp hb3, (sk t L a1) + 3, 12 :: W1, C1, rfl, ⟨hT.of (by rw [up2_off (by decide), up2_off (by decide), up2_ne (by decide)]; exact ((hfn.2 25 (by decide) (by decide) (by decide)).trans (hhB14 25 (by decide)))) (by rw [up2_ne (by decide), up2_ne (by decide), up2_ne (by decide), hfn.1 141 (by decide)]; exact hhA14 141 (by decide)), by rw [up2_off (by decide), up2_off (by decide), up2_ne (by decide)]; exact h26n, by have := isW_lt (w := wNot) hsL hb88; have e3 : wNot.length = 3 := rfl; omega, by rw [up2_off (by decide), up2_off (by decide), up2_ne (by decide)]; exact ((hfn.2 29 (by decide) (by decide) (by decide)).trans ((hhB14 29 (by decide)).trans h29)), by rw [up2_off (by decide), up2_off (by decide), up2_ne (by decide)]; exact ((hfn.2 30 (by decide) (by decide) (by decide)).trans ((hhB14 30 (by decide)).trans h30)), (mQ.push (x := 12) hq85).of (up2_off (by decide)) (up2_off (by decide)) (up2_ne (by decide)) (up2_ne (by decide)), by rw [up2_at, opens_o (Or.inl rfl)]⟩, hr.then (stp_not hb88 hb114), by have := @sk_ge t L ((sk t L a1) + 3); show sk t L a_ ≤ _; omega⟩)
                  | exact ih false 0 _ (by omega) (((hX.tr (hereX hhA14 hhB14)).tr hfn.X).tr hnf.X) (Or.inr (Or.inl ⟨nmF t L (sk t L a1) 0 11, _, W1, C1, by omega, by have := @nmF_lt t L (sk t L a1) 0 11; omega, hn1, by rw [hn2, if_neg hb148], hr.then (stp_figF hb19 hb88 hb148)⟩))
                  | exact ih false 0 _ (by omega) ((((((hX.tr (hereX hhA14 hhB14)).tr hfn.X).tr hnf.X).uc (Or.inr rfl)).up 35 _ (by decide)).tr hz157.X) (Or.inr (Or.inr ⟨rfl, nE t L (sk t L a1), (clW W1 (C1 ++ [nmV t L (sk t L a1)])).1, (clW W1 (C1 ++ [nmV t L (sk t L a1)])).2, ⟨hT.of ((hz157.2 25 (by decide) (by decide) (by decide)).trans (by rw [up2_off (by decide), up2_ne (by decide)]; exact (hnf.2 25 (by decide) (by decide) (by decide) (by decide)).trans ((hfn.2 25 (by decide) (by decide) (by decide)).trans (hhB14 25 (by decide))))) ((hz157.1 141 (by decide) (by decide) (by decide)).trans (by rw [up2_ne (by decide), up2_ne (by decide)]; exact (hnf.1 141 (by decide)).trans ((hfn.1 141 (by decide)).trans (hhA14 141 (by decide))))), (hz157.2 26 (by decide) (by decide) (by decide)).trans (by rw [up2_off (by decide), up2_ne (by decide)]; exact h26v), nE_le hsL, (hz157.2 29 (by decide) (by decide) (by decide)).trans (by rw [up2_off (by decide), up2_ne (by decide), hn1, hb148]), (hz157.2 30 (by decide) (by decide) (by decide)).trans (by rw [up2_off (by decide), up2_ne (by decide), hn2, if_pos hb148]; exact (hfn.2 30 (by decide) (by decide) (by decide)).trans ((hhB14 30 (by decide)).trans h30)), hq157, ho157⟩, hr.then (stp_fig hb19 hb88 hb148), by have := @sk_ge t L (nE t L (sk t L a1)); show sk t L a_ < _; omega⟩))
            · rw [b32_n] at hb88
              rw [hb88, if_pos rfl] at h26n
              refine r_aload_n C 0 (dk oX10_takeOperand 47 rfl) rfl ?_
              refine r_aload_n C 0 (dk oX10_takeOperand 48 rfl) rfl ?_
              refine r_getI C (dk oX10_takeOperand 49 rfl) fl_X10_194 rfl (km hn rfl) ?_
              rw [hfn.2 33 (by decide) (by decide) (by decide), hhB14 33 (by decide), ho]
              refine r_bipush C (dk oX10_takeOperand 50 rfl) (v := nI 8) (by decide) ?_
              refine r_icmp_ge (tgt := 105) C (dk oX10_takeOperand 51 rfl) (by decide) (fun hb98 => ?_) (fun hb98 => ?_)
              · simp (disch := omega) only [nI_leI, nI_ltI, nI_eq, nI_eq0] at hb98
                refine r_iconst C (dk oX10_takeOperand 54 rfl) (v := nI 0) (by decide) ?_
                refine r_topI (show nI 0 = b32 (decide (opens W1 < 8)) from b32_df (by omega)) ?_
                refine r_iconst C (dk oX10_takeOperand 55 rfl) (v := nI 3) (by decide) ?_
                refine r_aload_n C 0 (dk oX10_takeOperand 56 rfl) rfl ?_
                refine r_getI C (dk oX10_takeOperand 57 rfl) fl_X10_152 rfl (km hn rfl) ?_
                rw [h27n]
                refine r_ivi C Z (dk oX10_takeOperand 58 rfl) cl_X10_173 ci_X10_want rfl (km hn rfl) (c_X10_want hn I85 J (decide (opens W1 < 8)) (nI 3) (nI (sk t L a1)) (nI 0) ((hfn.2 29 (by decide) (by decide) (by decide)).trans ((hhB14 29 (by decide)).trans h29))) rfl rfl (Nat.le_of_ble_eq_true rfl) ⟨Nat.le_of_ble_eq_true rfl, Nat.le_of_ble_eq_true rfl⟩ ⟨Nat.zero_le _, Nat.zero_le _⟩ (fun r111 I111 J111 h111 => ?_)
                obtain ⟨e1_, hW111, e2_⟩ := h111
                have e1_ := e1_.symm
                have e2_ := e2_.symm
                subst e1_
                subst e2_
                refine r_if_eq (tgt := 2) C (dk oX10_takeOperand 59 rfl) (by decide) (fun hb114 => ?_) (fun hb114 => ?_)
                · rw [b32_0, decide_eq_false_iff_not] at hb114
                  have hb114 := want_0 hb114
                  have hI111 := want_t hW111 hb114
                  subst hI111
                  refine V.sub [0, 1] rfl ?_
                  first
                    | exact ih g 0 _ (by omega) (((hX.tr (hereX hhA14 hhB14)).up 29 _ (by decide)).up 30 _ (by decide)) (Or.inr (Or.inl ⟨3, _, W1, C1, by decide, by decide, by rw [up2_off (by decide), up2_at], up2_at, hr.then (stp_openF hb19 hb45)⟩))
                    | exact ih g (L + 2 - sk t L ((sk t L a1) + 1)) _ (by have := isS_l hb19; have := @sk_ge t L ((sk t L a1) + 1); omega) (((((hX.tr (hereX hhA14 hhB14)).uc (Or.inl rfl)).up 32 _ (by decide)).up 33 _ (by decide)).up 26 _ (by decide)) (Or.inl ⟨b32_n.mp hb3, (sk t L a1) + 1, 15 :: W1, C1, rfl, ⟨hT.of (by rw [up2_off (by decide), up2_off (by decide), up2_off (by decide), up2_ne (by decide)]; exact (hhB14 25 (by decide))) (by rw [up2_ne (by decide), up2_ne (by decide), up2_ne (by decide), up2_ne (by decide)]; exact hhA14 141 (by decide)), up2_at, by have := isS_l hb19; omega, by rw [up2_off (by decide), up2_off (by decide), up2_off (by decide), up2_ne (by decide)]; exact ((hhB14 29 (by decide)).trans h29), by rw [up2_off (by decide), up2_off (by decide), up2_off (by decide), up2_ne (by decide)]; exact ((hhB14 30 (by decide)).trans h30), (mQ.push (x := 15) hq14).of (by rw [up2_off (by decide), up2_off (by decide)]) (by rw [up2_off (by decide), up2_off (by decide)]) (by rw [up2_ne (by decide), up2_ne (by decide)]) (by rw [up2_ne (by decide), up2_ne (by decide)]), by rw [up2_off (by decide), up2_at, opens_o (Or.inr rfl)]⟩, hr.then (stp_open hb19 hb45), by have := @sk_ge t L ((sk t L a1) + 1); show sk t L a_ ≤ _; omega⟩)
                    | exact ih g 0 _ (by omega) ((((hX.tr (hereX hhA14 hhB14)).tr hfn.X).up 29 _ (by decide)).up 30 _ (by decide)) (Or.inr (Or.inl ⟨3, _, W1, C1, by decide, by decide, by rw [up2_off (by decide), up2_at], up2_at, hr.then (stp_notF hb88 hb114)⟩))
                    | exact ih g (L + 2 - sk t L ((sk t L a1) + 3)) _ (by have := isW_lt (w := wNot) hsL hb88; have := @sk_ge t L ((sk t L a1) + 3); omega) (((((hX.tr (hereX hhA14 hhB14)).tr hfn.X).uc (Or.inl rfl)).up 32 _ (by decide)).up 33 _ (by decide)) (Or.inl ⟨b32_n.mp hb3, (sk t L a1) + 3, 12 :: W1, C1, rfl, ⟨hT.of (by rw [up2_off (by decide), up2_off (by decide), up2_ne (by decide)]; exact ((hfn.2 25 (by decide) (by decide) (by decide)).trans (hhB14 25 (by decide)))) (by rw [up2_ne (by decide), up2_ne (by decide), up2_ne (by decide), hfn.1 141 (by decide)]; exact hhA14 141 (by decide)), by rw [up2_off (by decide), up2_off (by decide), up2_ne (by decide)]; exact h26n, by have := isW_lt (w := wNot) hsL hb88; have e3 : wNot.length = 3 := rfl; omega, by rw [up2_off (by decide), up2_off (by decide), up2_ne (by decide)]; exact ((hfn.2 29 (by decide) (by decide) (by decide)).trans ((hhB14 29 (by decide)).trans h29)), by rw [up2_off (by decide), up2_off (by decide), up2_ne (by decide)]; exact ((hfn.2 30 (by decide) (by decide) (by decide)).trans ((hhB14 30 (by decide)).trans h30)), (mQ.push (x := 12) hq85).of (up2_off (by decide)) (up2_off (by decide)) (up2_ne (by decide)) (up2_ne (by decide)), by rw [up2_at, opens_o (Or.inl rfl)]⟩, hr.then (stp_not hb88 hb114), by have := @sk_ge t L ((sk t L a1) + 3); show sk t L a_ ≤ _; omega⟩)
                    | exact ih false 0 _ (by omega) (((hX.tr (hereX hhA14 hhB14)).tr hfn.X).tr hnf.X) (Or.inr (Or.inl ⟨nmF t L (sk t L a1) 0 11, _, W1, C1, by omega, by have := @nmF_lt t L (sk t L a1) 0 11; omega, hn1, by rw [hn2, if_neg hb148], hr.then (stp_figF hb19 hb88 hb148)⟩))
                    | exact ih false 0 _ (by omega) ((((((hX.tr (hereX hhA14 hhB14)).tr hfn.X).tr hnf.X).uc (Or.inr rfl)).up 35 _ (by decide)).tr hz157.X) (Or.inr (Or.inr ⟨rfl, nE t L (sk t L a1), (clW W1 (C1 ++ [nmV t L (sk t L a1)])).1, (clW W1 (C1 ++ [nmV t L (sk t L a1)])).2, ⟨hT.of ((hz157.2 25 (by decide) (by decide) (by decide)).trans (by rw [up2_off (by decide), up2_ne (by decide)]; exact (hnf.2 25 (by decide) (by decide) (by decide) (by decide)).trans ((hfn.2 25 (by decide) (by decide) (by decide)).trans (hhB14 25 (by decide))))) ((hz157.1 141 (by decide) (by decide) (by decide)).trans (by rw [up2_ne (by decide), up2_ne (by decide)]; exact (hnf.1 141 (by decide)).trans ((hfn.1 141 (by decide)).trans (hhA14 141 (by decide))))), (hz157.2 26 (by decide) (by decide) (by decide)).trans (by rw [up2_off (by decide), up2_ne (by decide)]; exact h26v), nE_le hsL, (hz157.2 29 (by decide) (by decide) (by decide)).trans (by rw [up2_off (by decide), up2_ne (by decide), hn1, hb148]), (hz157.2 30 (by decide) (by decide) (by decide)).trans (by rw [up2_off (by decide), up2_ne (by decide), hn2, if_pos hb148]; exact (hfn.2 30 (by decide) (by decide) (by decide)).trans ((hhB14 30 (by decide)).trans h30)), hq157, ho157⟩, hr.then (stp_fig hb19 hb88 hb148), by have := @sk_ge t L (nE t L (sk t L a1)); show sk t L a_ < _; omega⟩))
                · rw [b32_n, decide_eq_true_eq] at hb114
                  have hb114 := want_1 (by decide) hb114
                  have hI111 := want_f hW111 hb114
                  subst hI111
                  have hq85 : mQ I111 W1 C1 := (hq.of (hhB14 32 (by decide)) (hhB14 35 (by decide)) (hhA14 142 (by decide)) (hhA14 143 (by decide))).of (hfn.2 32 (by decide) (by decide) (by decide)) (hfn.2 35 (by decide) (by decide) (by decide)) (hfn.1 142 (by decide)) (hfn.1 143 (by decide))
                  refine r_aload_n C 0 (dk oX10_takeOperand 60 rfl) rfl ?_
                  refine r_bipush C (dk oX10_takeOperand 61 rfl) (v := nI 100) (by decide) ?_
                  refine r_ivv C Z (dk oX10_takeOperand 62 rfl) cl_X10_197 ci_X10_push rfl (km hn rfl) (c_X10_push hn I111 J W1.length hq85.1 (by omega) (nI (12 + 88))) rfl rfl (Nat.le_of_ble_eq_true rfl) ⟨Nat.le_of_ble_eq_true rfl, Nat.le_of_ble_eq_true rfl⟩ ⟨Nat.zero_le _, Nat.zero_le _⟩ (fun I120 J120 h120 => ?_)
                  obtain ⟨e1_, e2_⟩ := h120
                  have e1_ := e1_.symm
                  have e2_ := e2_.symm
                  subst e1_
                  subst e2_
                  refine r_aload_n C 0 (dk oX10_takeOperand 63 rfl) rfl ?_
                  refine r_dup C (dk oX10_takeOperand 64 rfl) rfl ?_
                  refine r_getI C (dk oX10_takeOperand 65 rfl) fl_X10_194 rfl (km hn rfl) ?_
                  rw [up2_off (by decide), up2_ne (by decide), hfn.2 33 (by decide) (by decide) (by decide), hhB14 33 (by decide), ho]
                  refine r_iconst C (dk oX10_takeOperand 66 rfl) (v := nI 1) (by decide) ?_
                  refine r_iadd C (dk oX10_takeOperand 67 rfl) ?_
                  rw [nI_add]
                  refine r_putI C (dk oX10_takeOperand 68 rfl) fl_X10_194 ft_10_33 rfl (km hn rfl) ?_
                  refine r_goto (tgt := 2) C (dk oX10_takeOperand 69 rfl) (by decide) ?_
                  refine V.sub [0, 1] rfl ?_
                  first
                    | exact ih g 0 _ (by omega) (((hX.tr (hereX hhA14 hhB14)).up 29 _ (by decide)).up 30 _ (by decide)) (Or.inr (Or.inl ⟨3, _, W1, C1, by decide, by decide, by rw [up2_off (by decide), up2_at], up2_at, hr.then (stp_openF hb19 hb45)⟩))
                    | exact ih g (L + 2 - sk t L ((sk t L a1) + 1)) _ (by have := isS_l hb19; have := @sk_ge t L ((sk t L a1) + 1); omega) (((((hX.tr (hereX hhA14 hhB14)).uc (Or.inl rfl)).up 32 _ (by decide)).up 33 _ (by decide)).up 26 _ (by decide)) (Or.inl ⟨b32_n.mp hb3, (sk t L a1) + 1, 15 :: W1, C1, rfl, ⟨hT.of (by rw [up2_off (by decide), up2_off (by decide), up2_off (by decide), up2_ne (by decide)]; exact (hhB14 25 (by decide))) (by rw [up2_ne (by decide), up2_ne (by decide), up2_ne (by decide), up2_ne (by decide)]; exact hhA14 141 (by decide)), up2_at, by have := isS_l hb19; omega, by rw [up2_off (by decide), up2_off (by decide), up2_off (by decide), up2_ne (by decide)]; exact ((hhB14 29 (by decide)).trans h29), by rw [up2_off (by decide), up2_off (by decide), up2_off (by decide), up2_ne (by decide)]; exact ((hhB14 30 (by decide)).trans h30), (mQ.push (x := 15) hq14).of (by rw [up2_off (by decide), up2_off (by decide)]) (by rw [up2_off (by decide), up2_off (by decide)]) (by rw [up2_ne (by decide), up2_ne (by decide)]) (by rw [up2_ne (by decide), up2_ne (by decide)]), by rw [up2_off (by decide), up2_at, opens_o (Or.inr rfl)]⟩, hr.then (stp_open hb19 hb45), by have := @sk_ge t L ((sk t L a1) + 1); show sk t L a_ ≤ _; omega⟩)
                    | exact ih g 0 _ (by omega) ((((hX.tr (hereX hhA14 hhB14)).tr hfn.X).up 29 _ (by decide)).up 30 _ (by decide)) (Or.inr (Or.inl ⟨3, _, W1, C1, by decide, by decide, by rw [up2_off (by decide), up2_at], up2_at, hr.then (stp_notF hb88 hb114)⟩))
                    | exact ih g (L + 2 - sk t L ((sk t L a1) + 3)) _ (by have := isW_lt (w := wNot) hsL hb88; have := @sk_ge t L ((sk t L a1) + 3); omega) (((((hX.tr (hereX hhA14 hhB14)).tr hfn.X).uc (Or.inl rfl)).up 32 _ (by decide)).up 33 _ (by decide)) (Or.inl ⟨b32_n.mp hb3, (sk t L a1) + 3, 12 :: W1, C1, rfl, ⟨hT.of (by rw [up2_off (by decide), up2_off (by decide), up2_ne (by decide)]; exact ((hfn.2 25 (by decide) (by decide) (by decide)).trans (hhB14 25 (by decide)))) (by rw [up2_ne (by decide), up2_ne (by decide), up2_ne (by decide), hfn.1 141 (by decide)]; exact hhA14 141 (by decide)), by rw [up2_off (by decide), up2_off (by decide), up2_ne (by decide)]; exact h26n, by have := isW_lt (w := wNot) hsL hb88; have e3 : wNot.length = 3 := rfl; omega, by rw [up2_off (by decide), up2_off (by decide), up2_ne (by decide)]; exact ((hfn.2 29 (by decide) (by decide) (by decide)).trans ((hhB14 29 (by decide)).trans h29)), by rw [up2_off (by decide), up2_off (by decide), up2_ne (by decide)]; exact ((hfn.2 30 (by decide) (by decide) (by decide)).trans ((hhB14 30 (by decide)).trans h30)), (mQ.push (x := 12) hq85).of (up2_off (by decide)) (up2_off (by decide)) (up2_ne (by decide)) (up2_ne (by decide)), by rw [up2_at, opens_o (Or.inl rfl)]⟩, hr.then (stp_not hb88 hb114), by have := @sk_ge t L ((sk t L a1) + 3); show sk t L a_ ≤ _; omega⟩)
                    | exact ih false 0 _ (by omega) (((hX.tr (hereX hhA14 hhB14)).tr hfn.X).tr hnf.X) (Or.inr (Or.inl ⟨nmF t L (sk t L a1) 0 11, _, W1, C1, by omega, by have := @nmF_lt t L (sk t L a1) 0 11; omega, hn1, by rw [hn2, if_neg hb148], hr.then (stp_figF hb19 hb88 hb148)⟩))
                    | exact ih false 0 _ (by omega) ((((((hX.tr (hereX hhA14 hhB14)).tr hfn.X).tr hnf.X).uc (Or.inr rfl)).up 35 _ (by decide)).tr hz157.X) (Or.inr (Or.inr ⟨rfl, nE t L (sk t L a1), (clW W1 (C1 ++ [nmV t L (sk t L a1)])).1, (clW W1 (C1 ++ [nmV t L (sk t L a1)])).2, ⟨hT.of ((hz157.2 25 (by decide) (by decide) (by decide)).trans (by rw [up2_off (by decide), up2_ne (by decide)]; exact (hnf.2 25 (by decide) (by decide) (by decide) (by decide)).trans ((hfn.2 25 (by decide) (by decide) (by decide)).trans (hhB14 25 (by decide))))) ((hz157.1 141 (by decide) (by decide) (by decide)).trans (by rw [up2_ne (by decide), up2_ne (by decide)]; exact (hnf.1 141 (by decide)).trans ((hfn.1 141 (by decide)).trans (hhA14 141 (by decide))))), (hz157.2 26 (by decide) (by decide) (by decide)).trans (by rw [up2_off (by decide), up2_ne (by decide)]; exact h26v), nE_le hsL, (hz157.2 29 (by decide) (by decide) (by decide)).trans (by rw [up2_off (by decide), up2_ne (by decide), hn1, hb148]), (hz157.2 30 (by decide) (by decide) (by decide)).trans (by rw [up2_off (by decide), up2_ne (by decide), hn2, if_pos hb148]; exact (hfn.2 30 (by decide) (by decide) (by decide)).trans ((hhB14 30 (by decide)).trans h30)), hq157, ho157⟩, hr.then (stp_fig hb19 hb88 hb148), by have := @sk_ge t L (nE t L (sk t L a1)); show sk t L a_ < _; omega⟩))
              · simp (disch := omega) only [nI_leI, nI_ltI, nI_eq, nI_eq0] at hb98
                refine r_iconst C (dk oX10_takeOperand 52 rfl) (v := nI 1) (by decide) ?_
                refine r_topI (show nI 1 = b32 (decide (opens W1 < 8)) from b32_dt (by omega)) ?_
                refine r_goto (tgt := 106) C (dk oX10_takeOperand 53 rfl) (by decide) ?_
                refine r_iconst C (dk oX10_takeOperand 55 rfl) (v := nI 3) (by decide) ?_
                refine r_aload_n C 0 (dk oX10_takeOperand 56 rfl) rfl ?_
                refine r_getI C (dk oX10_takeOperand 57 rfl) fl_X10_152 rfl (km hn rfl) ?_
                rw [h27n]
                refine r_ivi C Z (dk oX10_takeOperand 58 rfl) cl_X10_173 ci_X10_want rfl (km hn rfl) (c_X10_want hn I85 J (decide (opens W1 < 8)) (nI 3) (nI (sk t L a1)) (nI 0) ((hfn.2 29 (by decide) (by decide) (by decide)).trans ((hhB14 29 (by decide)).trans h29))) rfl rfl (Nat.le_of_ble_eq_true rfl) ⟨Nat.le_of_ble_eq_true rfl, Nat.le_of_ble_eq_true rfl⟩ ⟨Nat.zero_le _, Nat.zero_le _⟩ (fun r111 I111 J111 h111 => ?_)
                obtain ⟨e1_, hW111, e2_⟩ := h111
                have e1_ := e1_.symm
                have e2_ := e2_.symm
                subst e1_
                subst e2_
                refine r_if_eq (tgt := 2) C (dk oX10_takeOperand 59 rfl) (by decide) (fun hb114 => ?_) (fun hb114 => ?_)
                · rw [b32_0, decide_eq_false_iff_not] at hb114
                  have hb114 := want_0 hb114
                  have hI111 := want_t hW111 hb114
                  subst hI111
                  refine V.sub [0, 1] rfl ?_
                  first
                    | exact ih g 0 _ (by omega) (((hX.tr (hereX hhA14 hhB14)).up 29 _ (by decide)).up 30 _ (by decide)) (Or.inr (Or.inl ⟨3, _, W1, C1, by decide, by decide, by rw [up2_off (by decide), up2_at], up2_at, hr.then (stp_openF hb19 hb45)⟩))
                    | exact ih g (L + 2 - sk t L ((sk t L a1) + 1)) _ (by have := isS_l hb19; have := @sk_ge t L ((sk t L a1) + 1); omega) (((((hX.tr (hereX hhA14 hhB14)).uc (Or.inl rfl)).up 32 _ (by decide)).up 33 _ (by decide)).up 26 _ (by decide)) (Or.inl ⟨b32_n.mp hb3, (sk t L a1) + 1, 15 :: W1, C1, rfl, ⟨hT.of (by rw [up2_off (by decide), up2_off (by decide), up2_off (by decide), up2_ne (by decide)]; exact (hhB14 25 (by decide))) (by rw [up2_ne (by decide), up2_ne (by decide), up2_ne (by decide), up2_ne (by decide)]; exact hhA14 141 (by decide)), up2_at, by have := isS_l hb19; omega, by rw [up2_off (by decide), up2_off (by decide), up2_off (by decide), up2_ne (by decide)]; exact ((hhB14 29 (by decide)).trans h29), by rw [up2_off (by decide), up2_off (by decide), up2_off (by decide), up2_ne (by decide)]; exact ((hhB14 30 (by decide)).trans h30), (mQ.push (x := 15) hq14).of (by rw [up2_off (by decide), up2_off (by decide)]) (by rw [up2_off (by decide), up2_off (by decide)]) (by rw [up2_ne (by decide), up2_ne (by decide)]) (by rw [up2_ne (by decide), up2_ne (by decide)]), by rw [up2_off (by decide), up2_at, opens_o (Or.inr rfl)]⟩, hr.then (stp_open hb19 hb45), by have := @sk_ge t L ((sk t L a1) + 1); show sk t L a_ ≤ _; omega⟩)
                    | exact ih g 0 _ (by omega) ((((hX.tr (hereX hhA14 hhB14)).tr hfn.X).up 29 _ (by decide)).up 30 _ (by decide)) (Or.inr (Or.inl ⟨3, _, W1, C1, by decide, by decide, by rw [up2_off (by decide), up2_at], up2_at, hr.then (stp_notF hb88 hb114)⟩))
                    | exact ih g (L + 2 - sk t L ((sk t L a1) + 3)) _ (by have := isW_lt (w := wNot) hsL hb88; have := @sk_ge t L ((sk t L a1) + 3); omega) (((((hX.tr (hereX hhA14 hhB14)).tr hfn.X).uc (Or.inl rfl)).up 32 _ (by decide)).up 33 _ (by decide)) (Or.inl ⟨b32_n.mp hb3, (sk t L a1) + 3, 12 :: W1, C1, rfl, ⟨hT.of (by rw [up2_off (by decide), up2_off (by decide), up2_ne (by decide)]; exact ((hfn.2 25 (by decide) (by decide) (by decide)).trans (hhB14 25 (by decide)))) (by rw [up2_ne (by decide), up2_ne (by decide), up2_ne (by decide), hfn.1 141 (by decide)]; exact hhA14 141 (by decide)), by rw [up2_off (by decide), up2_off (by decide), up2_ne (by decide)]; exact h26n, by have := isW_lt (w := wNot) hsL hb88; have e3 : wNot.length = 3 := rfl; omega, by rw [up2_off (by decide), up2_off (by decide), up2_ne (by decide)]; exact ((hfn.2 29 (by decide) (by decide) (by decide)).trans ((hhB14 29 (by decide)).trans h29)), by rw [up2_off (by decide), up2_off (by decide), up2_ne (by decide)]; exact ((hfn.2 30 (by decide) (by decide) (by decide)).trans ((hhB14 30 (by decide)).trans h30)), (mQ.push (x := 12) hq85).of (up2_off (by decide)) (up2_off (by decide)) (up2_ne (by decide)) (up2_ne (by decide)), by rw [up2_at, opens_o (Or.inl rfl)]⟩, hr.then (stp_not hb88 hb114), by have := @sk_ge t L ((sk t L a1) + 3); show sk t L a_ ≤ _; omega⟩)
                    | exact ih false 0 _ (by omega) (((hX.tr (hereX hhA14 hhB14)).tr hfn.X).tr hnf.X) (Or.inr (Or.inl ⟨nmF t L (sk t L a1) 0 11, _, W1, C1, by omega, by have := @nmF_lt t L (sk t L a1) 0 11; omega, hn1, by rw [hn2, if_neg hb148], hr.then (stp_figF hb19 hb88 hb148)⟩))
                    | exact ih false 0 _ (by omega) ((((((hX.tr (hereX hhA14 hhB14)).tr hfn.X).tr hnf.X).uc (Or.inr rfl)).up 35 _ (by decide)).tr hz157.X) (Or.inr (Or.inr ⟨rfl, nE t L (sk t L a1), (clW W1 (C1 ++ [nmV t L (sk t L a1)])).1, (clW W1 (C1 ++ [nmV t L (sk t L a1)])).2, ⟨hT.of ((hz157.2 25 (by decide) (by decide) (by decide)).trans (by rw [up2_off (by decide), up2_ne (by decide)]; exact (hnf.2 25 (by decide) (by decide) (by decide) (by decide)).trans ((hfn.2 25 (by decide) (by decide) (by decide)).trans (hhB14 25 (by decide))))) ((hz157.1 141 (by decide) (by decide) (by decide)).trans (by rw [up2_ne (by decide), up2_ne (by decide)]; exact (hnf.1 141 (by decide)).trans ((hfn.1 141 (by decide)).trans (hhA14 141 (by decide))))), (hz157.2 26 (by decide) (by decide) (by decide)).trans (by rw [up2_off (by decide), up2_ne (by decide)]; exact h26v), nE_le hsL, (hz157.2 29 (by decide) (by decide) (by decide)).trans (by rw [up2_off (by decide), up2_ne (by decide), hn1, hb148]), (hz157.2 30 (by decide) (by decide) (by decide)).trans (by rw [up2_off (by decide), up2_ne (by decide), hn2, if_pos hb148]; exact (hfn.2 30 (by decide) (by decide) (by decide)).trans ((hhB14 30 (by decide)).trans h30)), hq157, ho157⟩, hr.then (stp_fig hb19 hb88 hb148), by have := @sk_ge t L (nE t L (sk t L a1)); show sk t L a_ < _; omega⟩))
                · rw [b32_n, decide_eq_true_eq] at hb114
                  have hb114 := want_1 (by decide) hb114
                  have hI111 := want_f hW111 hb114
                  subst hI111
                  have hq85 : mQ I111 W1 C1 := (hq.of (hhB14 32 (by decide)) (hhB14 35 (by decide)) (hhA14 142 (by decide)) (hhA14 143 (by decide))).of (hfn.2 32 (by decide) (by decide) (by decide)) (hfn.2 35 (by decide) (by decide) (by decide)) (hfn.1 142 (by decide)) (hfn.1 143 (by decide))
                  refine r_aload_n C 0 (dk oX10_takeOperand 60 rfl) rfl ?_
                  refine r_bipush C (dk oX10_takeOperand 61 rfl) (v := nI 100) (by decide) ?_
                  refine r_ivv C Z (dk oX10_takeOperand 62 rfl) cl_X10_197 ci_X10_push rfl (km hn rfl) (c_X10_push hn I111 J W1.length hq85.1 (by omega) (nI (12 + 88))) rfl rfl (Nat.le_of_ble_eq_true rfl) ⟨Nat.le_of_ble_eq_true rfl, Nat.le_of_ble_eq_true rfl⟩ ⟨Nat.zero_le _, Nat.zero_le _⟩ (fun I120 J120 h120 => ?_)
                  obtain ⟨e1_, e2_⟩ := h120
                  have e1_ := e1_.symm
                  have e2_ := e2_.symm
                  subst e1_
                  subst e2_
                  refine r_aload_n C 0 (dk oX10_takeOperand 63 rfl) rfl ?_
                  refine r_dup C (dk oX10_takeOperand 64 rfl) rfl ?_
                  refine r_getI C (dk oX10_takeOperand 65 rfl) fl_X10_194 rfl (km hn rfl) ?_
                  rw [up2_off (by decide), up2_ne (by decide), hfn.2 33 (by decide) (by decide) (by decide), hhB14 33 (by decide), ho]
                  refine r_iconst C (dk oX10_takeOperand 66 rfl) (v := nI 1) (by decide) ?_
                  refine r_iadd C (dk oX10_takeOperand 67 rfl) ?_
                  rw [nI_add]
                  refine r_putI C (dk oX10_takeOperand 68 rfl) fl_X10_194 ft_10_33 rfl (km hn rfl) ?_
                  refine r_goto (tgt := 2) C (dk oX10_takeOperand 69 rfl) (by decide) ?_
                  refine V.sub [0, 1] rfl ?_
                  first
                    | exact ih g 0 _ (by omega) (((hX.tr (hereX hhA14 hhB14)).up 29 _ (by decide)).up 30 _ (by decide)) (Or.inr (Or.inl ⟨3, _, W1, C1, by decide, by decide, by rw [up2_off (by decide), up2_at], up2_at, hr.then (stp_openF hb19 hb45)⟩))
                    | exact ih g (L + 2 - sk t L ((sk t L a1) + 1)) _ (by have := isS_l hb19; have := @sk_ge t L ((sk t L a1) + 1); omega) (((((hX.tr (hereX hhA14 hhB14)).uc (Or.inl rfl)).up 32 _ (by decide)).up 33 _ (by decide)).up 26 _ (by decide)) (Or.inl ⟨b32_n.mp hb3, (sk t L a1) + 1, 15 :: W1, C1, rfl, ⟨hT.of (by rw [up2_off (by decide), up2_off (by decide), up2_off (by decide), up2_ne (by decide)]; exact (hhB14 25 (by decide))) (by rw [up2_ne (by decide), up2_ne (by decide), up2_ne (by decide), up2_ne (by decide)]; exact hhA14 141 (by decide)), up2_at, by have := isS_l hb19; omega, by rw [up2_off (by decide), up2_off (by decide), up2_off (by decide), up2_ne (by decide)]; exact ((hhB14 29 (by decide)).trans h29), by rw [up2_off (by decide), up2_off (by decide), up2_off (by decide), up2_ne (by decide)]; exact ((hhB14 30 (by decide)).trans h30), (mQ.push (x := 15) hq14).of (by rw [up2_off (by decide), up2_off (by decide)]) (by rw [up2_off (by decide), up2_off (by decide)]) (by rw [up2_ne (by decide), up2_ne (by decide)]) (by rw [up2_ne (by decide), up2_ne (by decide)]), by rw [up2_off (by decide), up2_at, opens_o (Or.inr rfl)]⟩, hr.then (stp_open hb19 hb45), by have := @sk_ge t L ((sk t L a1) + 1); show sk t L a_ ≤ _; omega⟩)
                    | exact ih g 0 _ (by omega) ((((hX.tr (hereX hhA14 hhB14)).tr hfn.X).up 29 _ (by decide)).up 30 _ (by decide)) (Or.inr (Or.inl ⟨3, _, W1, C1, by decide, by decide, by rw [up2_off (by decide), up2_at], up2_at, hr.then (stp_notF hb88 hb114)⟩))
                    | exact ih g (L + 2 - sk t L ((sk t L a1) + 3)) _ (by have := isW_lt (w := wNot) hsL hb88; have := @sk_ge t L ((sk t L a1) + 3); omega) (((((hX.tr (hereX hhA14 hhB14)).tr hfn.X).uc (Or.inl rfl)).up 32 _ (by decide)).up 33 _ (by decide)) (Or.inl ⟨b32_n.mp hb3, (sk t L a1) + 3, 12 :: W1, C1, rfl, ⟨hT.of (by rw [up2_off (by decide), up2_off (by decide), up2_ne (by decide)]; exact ((hfn.2 25 (by decide) (by decide) (by decide)).trans (hhB14 25 (by decide)))) (by rw [up2_ne (by decide), up2_ne (by decide), up2_ne (by decide), hfn.1 141 (by decide)]; exact hhA14 141 (by decide)), by rw [up2_off (by decide), up2_off (by decide), up2_ne (by decide)]; exact h26n, by have := isW_lt (w := wNot) hsL hb88; have e3 : wNot.length = 3 := rfl; omega, by rw [up2_off (by decide), up2_off (by decide), up2_ne (by decide)]; exact ((hfn.2 29 (by decide) (by decide) (by decide)).trans ((hhB14 29 (by decide)).trans h29)), by rw [up2_off (by decide), up2_off (by decide), up2_ne (by decide)]; exact ((hfn.2 30 (by decide) (by decide) (by decide)).trans ((hhB14 30 (by decide)).trans h30)), (mQ.push (x := 12) hq85).of (up2_off (by decide)) (up2_off (by decide)) (up2_ne (by decide)) (up2_ne (by decide)), by rw [up2_at, opens_o (Or.inl rfl)]⟩, hr.then (stp_not hb88 hb114), by have := @sk_ge t L ((sk t L a1) + 3); show sk t L a_ ≤ _; omega⟩)
                    | exact ih false 0 _ (by omega) (((hX.tr (hereX hhA14 hhB14)).tr hfn.X).tr hnf.X) (Or.inr (Or.inl ⟨nmF t L (sk t L a1) 0 11, _, W1, C1, by omega, by have := @nmF_lt t L (sk t L a1) 0 11; omega, hn1, by rw [hn2, if_neg hb148], hr.then (stp_figF hb19 hb88 hb148)⟩))
                    | exact ih false 0 _ (by omega) ((((((hX.tr (hereX hhA14 hhB14)).tr hfn.X).tr hnf.X).uc (Or.inr rfl)).up 35 _ (by decide)).tr hz157.X) (Or.inr (Or.inr ⟨rfl, nE t L (sk t L a1), (clW W1 (C1 ++ [nmV t L (sk t L a1)])).1, (clW W1 (C1 ++ [nmV t L (sk t L a1)])).2, ⟨hT.of ((hz157.2 25 (by decide) (by decide) (by decide)).trans (by rw [up2_off (by decide), up2_ne (by decide)]; exact (hnf.2 25 (by decide) (by decide) (by decide) (by decide)).trans ((hfn.2 25 (by decide) (by decide) (by decide)).trans (hhB14 25 (by decide))))) ((hz157.1 141 (by decide) (by decide) (by decide)).trans (by rw [up2_ne (by decide), up2_ne (by decide)]; exact (hnf.1 141 (by decide)).trans ((hfn.1 141 (by decide)).trans (hhA14 141 (by decide))))), (hz157.2 26 (by decide) (by decide) (by decide)).trans (by rw [up2_off (by decide), up2_ne (by decide)]; exact h26v), nE_le hsL, (hz157.2 29 (by decide) (by decide) (by decide)).trans (by rw [up2_off (by decide), up2_ne (by decide), hn1, hb148]), (hz157.2 30 (by decide) (by decide) (by decide)).trans (by rw [up2_off (by decide), up2_ne (by decide), hn2, if_pos hb148]; exact (hfn.2 30 (by decide) (by decide) (by decide)).trans ((hhB14 30 (by decide)).trans h30)), hq157, ho157⟩, hr.then (stp_fig hb19 hb88 hb148), by have := @sk_ge t L (nE t L (sk t L a1)); show sk t L a_ < _; omega⟩))
          · rw [hr_c (fun h => (hT.2.2 _ h).1) (by decide)] at hb19
            refine r_aload_n C 0 (dk oX10_takeOperand 11 rfl) rfl ?_
            refine r_aload_n C 0 (dk oX10_takeOperand 12 rfl) rfl ?_
            refine r_getI C (dk oX10_takeOperand 13 rfl) fl_X10_194 rfl (km hn rfl) ?_
            rw [hhB14 33 (by decide), ho]
            refine r_bipush C (dk oX10_takeOperand 14 rfl) (v := nI 8) (by decide) ?_
            refine r_icmp_ge (tgt := 36) C (dk oX10_takeOperand 15 rfl) (by decide) (fun hb29 => ?_) (fun hb29 => ?_)
            · simp (disch := omega) only [nI_leI, nI_ltI, nI_eq, nI_eq0] at hb29
              refine r_iconst C (dk oX10_takeOperand 18 rfl) (v := nI 0) (by decide) ?_
              refine r_topI (show nI 0 = b32 (decide (opens W1 < 8)) from b32_df (by omega)) ?_
              refine r_iconst C (dk oX10_takeOperand 19 rfl) (v := nI 3) (by decide) ?_
              refine r_aload_n C 0 (dk oX10_takeOperand 20 rfl) rfl ?_
              refine r_getI C (dk oX10_takeOperand 21 rfl) fl_X10_142 rfl (km hn rfl) ?_
              rw [hh14]
              refine r_ivi C Z (dk oX10_takeOperand 22 rfl) cl_X10_173 ci_X10_want rfl (km hn rfl) (c_X10_want hn I14 J (decide (opens W1 < 8)) (nI 3) (nI (sk t L a1)) (nI 0) ((hhB14 29 (by decide)).trans h29)) rfl rfl (Nat.le_of_ble_eq_true rfl) ⟨Nat.le_of_ble_eq_true rfl, Nat.le_of_ble_eq_true rfl⟩ ⟨Nat.zero_le _, Nat.zero_le _⟩ (fun r42 I42 J42 h42 => ?_)
              obtain ⟨e1_, hW42, e2_⟩ := h42
              have e1_ := e1_.symm
              have e2_ := e2_.symm
              subst e1_
              subst e2_
              refine r_if_eq (tgt := 2) C (dk oX10_takeOperand 23 rfl) (by decide) (fun hb45 => ?_) (fun hb45 => ?_)
              · rw [b32_0, decide_eq_false_iff_not] at hb45
                have hb45 := want_0 hb45
                have hI42 := want_t hW42 hb45
                subst hI42
                refine V.sub [0, 1] rfl ?_
                first
                  | exact ih g 0 _ (by omega) (((hX.tr (hereX hhA14 hhB14)).up 29 _ (by decide)).up 30 _ (by decide)) (Or.inr (Or.inl ⟨3, _, W1, C1, by decide, by decide, by rw [up2_off (by decide), up2_at], up2_at, hr.then (stp_openF hb19 hb45)⟩))
                  | exact ih g (L + 2 - sk t L ((sk t L a1) + 1)) _ (by have := isS_l hb19; have := @sk_ge t L ((sk t L a1) + 1); omega) (((((hX.tr (hereX hhA14 hhB14)).uc (Or.inl rfl)).up 32 _ (by decide)).up 33 _ (by decide)).up 26 _ (by decide)) (Or.inl ⟨b32_n.mp hb3, (sk t L a1) + 1, 15 :: W1, C1, rfl, ⟨hT.of (by rw [up2_off (by decide), up2_off (by decide), up2_off (by decide), up2_ne (by decide)]; exact (hhB14 25 (by decide))) (by rw [up2_ne (by decide), up2_ne (by decide), up2_ne (by decide), up2_ne (by decide)]; exact hhA14 141 (by decide)), up2_at, by have := isS_l hb19; omega, by rw [up2_off (by decide), up2_off (by decide), up2_off (by decide), up2_ne (by decide)]; exact ((hhB14 29 (by decide)).trans h29), by rw [up2_off (by decide), up2_off (by decide), up2_off (by decide), up2_ne (by decide)]; exact ((hhB14 30 (by decide)).trans h30), (mQ.push (x := 15) hq14).of (by rw [up2_off (by decide), up2_off (by decide)]) (by rw [up2_off (by decide), up2_off (by decide)]) (by rw [up2_ne (by decide), up2_ne (by decide)]) (by rw [up2_ne (by decide), up2_ne (by decide)]), by rw [up2_off (by decide), up2_at, opens_o (Or.inr rfl)]⟩, hr.then (stp_open hb19 hb45), by have := @sk_ge t L ((sk t L a1) + 1); show sk t L a_ ≤ _; omega⟩)
                  | exact ih g 0 _ (by omega) ((((hX.tr (hereX hhA14 hhB14)).tr hfn.X).up 29 _ (by decide)).up 30 _ (by decide)) (Or.inr (Or.inl ⟨3, _, W1, C1, by decide, by decide, by rw [up2_off (by decide), up2_at], up2_at, hr.then (stp_notF hb88 hb114)⟩))
                  | exact ih g (L + 2 - sk t L ((sk t L a1) + 3)) _ (by have := isW_lt (w := wNot) hsL hb88; have := @sk_ge t L ((sk t L a1) + 3); omega) (((((hX.tr (hereX hhA14 hhB14)).tr hfn.X).uc (Or.inl rfl)).up 32 _ (by decide)).up 33 _ (by decide)) (Or.inl ⟨b32_n.mp hb3, (sk t L a1) + 3, 12 :: W1, C1, rfl, ⟨hT.of (by rw [up2_off (by decide), up2_off (by decide), up2_ne (by decide)]; exact ((hfn.2 25 (by decide) (by decide) (by decide)).trans (hhB14 25 (by decide)))) (by rw [up2_ne (by decide), up2_ne (by decide), up2_ne (by decide), hfn.1 141 (by decide)]; exact hhA14 141 (by decide)), by rw [up2_off (by decide), up2_off (by decide), up2_ne (by decide)]; exact h26n, by have := isW_lt (w := wNot) hsL hb88; have e3 : wNot.length = 3 := rfl; omega, by rw [up2_off (by decide), up2_off (by decide), up2_ne (by decide)]; exact ((hfn.2 29 (by decide) (by decide) (by decide)).trans ((hhB14 29 (by decide)).trans h29)), by rw [up2_off (by decide), up2_off (by decide), up2_ne (by decide)]; exact ((hfn.2 30 (by decide) (by decide) (by decide)).trans ((hhB14 30 (by decide)).trans h30)), (mQ.push (x := 12) hq85).of (up2_off (by decide)) (up2_off (by decide)) (up2_ne (by decide)) (up2_ne (by decide)), by rw [up2_at, opens_o (Or.inl rfl)]⟩, hr.then (stp_not hb88 hb114), by have := @sk_ge t L ((sk t L a1) + 3); show sk t L a_ ≤ _; omega⟩)
                  | exact ih false 0 _ (by omega) (((hX.tr (hereX hhA14 hhB14)).tr hfn.X).tr hnf.X) (Or.inr (Or.inl ⟨nmF t L (sk t L a1) 0 11, _, W1, C1, by omega, by have := @nmF_lt t L (sk t L a1) 0 11; omega, hn1, by rw [hn2, if_neg hb148], hr.then (stp_figF hb19 hb88 hb148)⟩))
                  | exact ih false 0 _ (by omega) ((((((hX.tr (hereX hhA14 hhB14)).tr hfn.X).tr hnf.X).uc (Or.inr rfl)).up 35 _ (by decide)).tr hz157.X) (Or.inr (Or.inr ⟨rfl, nE t L (sk t L a1), (clW W1 (C1 ++ [nmV t L (sk t L a1)])).1, (clW W1 (C1 ++ [nmV t L (sk t L a1)])).2, ⟨hT.of ((hz157.2 25 (by decide) (by decide) (by decide)).trans (by rw [up2_off (by decide), up2_ne (by decide)]; exact (hnf.2 25 (by decide) (by decide) (by decide) (by decide)).trans ((hfn.2 25 (by decide) (by decide) (by decide)).trans (hhB14 25 (by decide))))) ((hz157.1 141 (by decide) (by decide) (by decide)).trans (by rw [up2_ne (by decide), up2_ne (by decide)]; exact (hnf.1 141 (by decide)).trans ((hfn.1 141 (by decide)).trans (hhA14 141 (by decide))))), (hz157.2 26 (by decide) (by decide) (by decide)).trans (by rw [up2_off (by decide), up2_ne (by decide)]; exact h26v), nE_le hsL, (hz157.2 29 (by decide) (by decide) (by decide)).trans (by rw [up2_off (by decide), up2_ne (by decide), hn1, hb148]), (hz157.2 30 (by decide) (by decide) (by decide)).trans (by rw [up2_off (by decide), up2_ne (by decide), hn2, if_pos hb148]; exact (hfn.2 30 (by decide) (by decide) (by decide)).trans ((hhB14 30 (by decide)).trans h30)), hq157, ho157⟩, hr.then (stp_fig hb19 hb88 hb148), by have := @sk_ge t L (nE t L (sk t L a1)); show sk t L a_ < _; omega⟩))
              · rw [b32_n, decide_eq_true_eq] at hb45
                have hb45 := want_1 (by decide) hb45
                have hI42 := want_f hW42 hb45
                subst hI42
                have hq14 : mQ I42 W1 C1 := hq.of (hhB14 32 (by decide)) (hhB14 35 (by decide)) (hhA14 142 (by decide)) (hhA14 143 (by decide))
                refine r_aload_n C 0 (dk oX10_takeOperand 24 rfl) rfl ?_
                refine r_bipush C (dk oX10_takeOperand 25 rfl) (v := nI 103) (by decide) ?_
                refine r_ivv C Z (dk oX10_takeOperand 26 rfl) cl_X10_197 ci_X10_push rfl (km hn rfl) (c_X10_push hn I42 J W1.length hq14.1 (by omega) (nI (15 + 88))) rfl rfl (Nat.le_of_ble_eq_true rfl) ⟨Nat.le_of_ble_eq_true rfl, Nat.le_of_ble_eq_true rfl⟩ ⟨Nat.zero_le _, Nat.zero_le _⟩ (fun I51 J51 h51 => ?_)
                obtain ⟨e1_, e2_⟩ := h51
                have e1_ := e1_.symm
                have e2_ := e2_.symm
                subst e1_
                subst e2_
                refine r_aload_n C 0 (dk oX10_takeOperand 27 rfl) rfl ?_
                refine r_dup C (dk oX10_takeOperand 28 rfl) rfl ?_
                refine r_getI C (dk oX10_takeOperand 29 rfl) fl_X10_194 rfl (km hn rfl) ?_
                rw [up2_off (by decide), up2_ne (by decide), hhB14 33 (by decide), ho]
                refine r_iconst C (dk oX10_takeOperand 30 rfl) (v := nI 1) (by decide) ?_
                refine r_iadd C (dk oX10_takeOperand 31 rfl) ?_
                rw [nI_add]
                refine r_putI C (dk oX10_takeOperand 32 rfl) fl_X10_194 ft_10_33 rfl (km hn rfl) ?_
                refine r_aload_n C 0 (dk oX10_takeOperand 33 rfl) rfl ?_
                refine r_dup C (dk oX10_takeOperand 34 rfl) rfl ?_
                refine r_getI C (dk oX10_takeOperand 35 rfl) fl_X10_142 rfl (km hn rfl) ?_
                rw [up2_off (by decide), up2_off (by decide), up2_ne (by decide), hh14]
                refine r_iconst C (dk oX10_takeOperand 36 rfl) (v := nI 1) (by decide) ?_
                refine r_iadd C (dk oX10_takeOperand 37 rfl) ?_
                rw [nI_add]
                refine r_putI C (dk oX10_takeOperand 38 rfl) fl_X10_142 ft_10_26 rfl (km hn rfl) ?_
                refine r_goto (tgt := 2) C (dk oX10_takeOperand 39 rfl) (by decide) ?_
                refine V.sub [0, 1] rfl ?_
                first
                  | exact ih g 0 _ (by omega) (((hX.tr (hereX hhA14 hhB14)).up 29 _ (by decide)).up 30 _ (by decide)) (Or.inr (Or.inl ⟨3, _, W1, C1, by decide, by decide, by rw [up2_off (by decide), up2_at], up2_at, hr.then (stp_openF hb19 hb45)⟩))
                  | exact ih g (L + 2 - sk t L ((sk t L a1) + 1)) _ (by have := isS_l hb19; have := @sk_ge t L ((sk t L a1) + 1); omega) (((((hX.tr (hereX hhA14 hhB14)).uc (Or.inl rfl)).up 32 _ (by decide)).up 33 _ (by decide)).up 26 _ (by decide)) (Or.inl ⟨b32_n.mp hb3, (sk t L a1) + 1, 15 :: W1, C1, rfl, ⟨hT.of (by rw [up2_off (by decide), up2_off (by decide), up2_off (by decide), up2_ne (by decide)]; exact (hhB14 25 (by decide))) (by rw [up2_ne (by decide), up2_ne (by decide), up2_ne (by decide), up2_ne (by decide)]; exact hhA14 141 (by decide)), up2_at, by have := isS_l hb19; omega, by rw [up2_off (by decide), up2_off (by decide), up2_off (by decide), up2_ne (by decide)]; exact ((hhB14 29 (by decide)).trans h29), by rw [up2_off (by decide), up2_off (by decide), up2_off (by decide), up2_ne (by decide)]; exact ((hhB14 30 (by decide)).trans h30), (mQ.push (x := 15) hq14).of (by rw [up2_off (by decide), up2_off (by decide)]) (by rw [up2_off (by decide), up2_off (by decide)]) (by rw [up2_ne (by decide), up2_ne (by decide)]) (by rw [up2_ne (by decide), up2_ne (by decide)]), by rw [up2_off (by decide), up2_at, opens_o (Or.inr rfl)]⟩, hr.then (stp_open hb19 hb45), by have := @sk_ge t L ((sk t L a1) + 1); show sk t L a_ ≤ _; omega⟩)
                  | exact ih g 0 _ (by omega) ((((hX.tr (hereX hhA14 hhB14)).tr hfn.X).up 29 _ (by decide)).up 30 _ (by decide)) (Or.inr (Or.inl ⟨3, _, W1, C1, by decide, by decide, by rw [up2_off (by decide), up2_at], up2_at, hr.then (stp_notF hb88 hb114)⟩))
                  | exact ih g (L + 2 - sk t L ((sk t L a1) + 3)) _ (by have := isW_lt (w := wNot) hsL hb88; have := @sk_ge t L ((sk t L a1) + 3); omega) (((((hX.tr (hereX hhA14 hhB14)).tr hfn.X).uc (Or.inl rfl)).up 32 _ (by decide)).up 33 _ (by decide)) (Or.inl ⟨b32_n.mp hb3, (sk t L a1) + 3, 12 :: W1, C1, rfl, ⟨hT.of (by rw [up2_off (by decide), up2_off (by decide), up2_ne (by decide)]; exact ((hfn.2 25 (by decide) (by decide) (by decide)).trans (hhB14 25 (by decide)))) (by rw [up2_ne (by decide), up2_ne (by decide), up2_ne (by decide), hfn.1 141 (by decide)]; exact hhA14 141 (by decide)), by rw [up2_off (by decide), up2_off (by decide), up2_ne (by decide)]; exact h26n, by have := isW_lt (w := wNot) hsL hb88; have e3 : wNot.length = 3 := rfl; omega, by rw [up2_off (by decide), up2_off (by decide), up2_ne (by decide)]; exact ((hfn.2 29 (by decide) (by decide) (by decide)).trans ((hhB14 29 (by decide)).trans h29)), by rw [up2_off (by decide), up2_off (by decide), up2_ne (by decide)]; exact ((hfn.2 30 (by decide) (by decide) (by decide)).trans ((hhB14 30 (by decide)).trans h30)), (mQ.push (x := 12) hq85).of (up2_off (by decide)) (up2_off (by decide)) (up2_ne (by decide)) (up2_ne (by decide)), by rw [up2_at, opens_o (Or.inl rfl)]⟩, hr.then (stp_not hb88 hb114), by have := @sk_ge t L ((sk t L a1) + 3); show sk t L a_ ≤ _; omega⟩)
                  | exact ih false 0 _ (by omega) (((hX.tr (hereX hhA14 hhB14)).tr hfn.X).tr hnf.X) (Or.inr (Or.inl ⟨nmF t L (sk t L a1) 0 11, _, W1, C1, by omega, by have := @nmF_lt t L (sk t L a1) 0 11; omega, hn1, by rw [hn2, if_neg hb148], hr.then (stp_figF hb19 hb88 hb148)⟩))
                  | exact ih false 0 _ (by omega) ((((((hX.tr (hereX hhA14 hhB14)).tr hfn.X).tr hnf.X).uc (Or.inr rfl)).up 35 _ (by decide)).tr hz157.X) (Or.inr (Or.inr ⟨rfl, nE t L (sk t L a1), (clW W1 (C1 ++ [nmV t L (sk t L a1)])).1, (clW W1 (C1 ++ [nmV t L (sk t L a1)])).2, ⟨hT.of ((hz157.2 25 (by decide) (by decide) (by decide)).trans (by rw [up2_off (by decide), up2_ne (by decide)]; exact (hnf.2 25 (by decide) (by decide) (by decide) (by decide)).trans ((hfn.2 25 (by decide) (by decide) (by decide)).trans (hhB14 25 (by decide))))) ((hz157.1 141 (by decide) (by decide) (by decide)).trans (by rw [up2_ne (by decide), up2_ne (by decide)]; exact (hnf.1 141 (by decide)).trans ((hfn.1 141 (by decide)).trans (hhA14 141 (by decide))))), (hz157.2 26 (by decide) (by decide) (by decide)).trans (by rw [up2_off (by decide), up2_ne (by decide)]; exact h26v), nE_le hsL, (hz157.2 29 (by decide) (by decide) (by decide)).trans (by rw [up2_off (by decide), up2_ne (by decide), hn1, hb148]), (hz157.2 30 (by decide) (by decide) (by decide)).trans (by rw [up2_off (by decide), up2_ne (by decide), hn2, if_pos hb148]; exact (hfn.2 30 (by decide) (by decide) (by decide)).trans ((hhB14 30 (by decide)).trans h30)), hq157, ho157⟩, hr.then (stp_fig hb19 hb88 hb148), by have := @sk_ge t L (nE t L (sk t L a1)); show sk t L a_ < _; omega⟩))
            · simp (disch := omega) only [nI_leI, nI_ltI, nI_eq, nI_eq0] at hb29
              refine r_iconst C (dk oX10_takeOperand 16 rfl) (v := nI 1) (by decide) ?_
              refine r_topI (show nI 1 = b32 (decide (opens W1 < 8)) from b32_dt (by omega)) ?_
              refine r_goto (tgt := 37) C (dk oX10_takeOperand 17 rfl) (by decide) ?_
              refine r_iconst C (dk oX10_takeOperand 19 rfl) (v := nI 3) (by decide) ?_
              refine r_aload_n C 0 (dk oX10_takeOperand 20 rfl) rfl ?_
              refine r_getI C (dk oX10_takeOperand 21 rfl) fl_X10_142 rfl (km hn rfl) ?_
              rw [hh14]
              refine r_ivi C Z (dk oX10_takeOperand 22 rfl) cl_X10_173 ci_X10_want rfl (km hn rfl) (c_X10_want hn I14 J (decide (opens W1 < 8)) (nI 3) (nI (sk t L a1)) (nI 0) ((hhB14 29 (by decide)).trans h29)) rfl rfl (Nat.le_of_ble_eq_true rfl) ⟨Nat.le_of_ble_eq_true rfl, Nat.le_of_ble_eq_true rfl⟩ ⟨Nat.zero_le _, Nat.zero_le _⟩ (fun r42 I42 J42 h42 => ?_)
              obtain ⟨e1_, hW42, e2_⟩ := h42
              have e1_ := e1_.symm
              have e2_ := e2_.symm
              subst e1_
              subst e2_
              refine r_if_eq (tgt := 2) C (dk oX10_takeOperand 23 rfl) (by decide) (fun hb45 => ?_) (fun hb45 => ?_)
              · rw [b32_0, decide_eq_false_iff_not] at hb45
                have hb45 := want_0 hb45
                have hI42 := want_t hW42 hb45
                subst hI42
                refine V.sub [0, 1] rfl ?_
                first
                  | exact ih g 0 _ (by omega) (((hX.tr (hereX hhA14 hhB14)).up 29 _ (by decide)).up 30 _ (by decide)) (Or.inr (Or.inl ⟨3, _, W1, C1, by decide, by decide, by rw [up2_off (by decide), up2_at], up2_at, hr.then (stp_openF hb19 hb45)⟩))
                  | exact ih g (L + 2 - sk t L ((sk t L a1) + 1)) _ (by have := isS_l hb19; have := @sk_ge t L ((sk t L a1) + 1); omega) (((((hX.tr (hereX hhA14 hhB14)).uc (Or.inl rfl)).up 32 _ (by decide)).up 33 _ (by decide)).up 26 _ (by decide)) (Or.inl ⟨b32_n.mp hb3, (sk t L a1) + 1, 15 :: W1, C1, rfl, ⟨hT.of (by rw [up2_off (by decide), up2_off (by decide), up2_off (by decide), up2_ne (by decide)]; exact (hhB14 25 (by decide))) (by rw [up2_ne (by decide), up2_ne (by decide), up2_ne (by decide), up2_ne (by decide)]; exact hhA14 141 (by decide)), up2_at, by have := isS_l hb19; omega, by rw [up2_off (by decide), up2_off (by decide), up2_off (by decide), up2_ne (by decide)]; exact ((hhB14 29 (by decide)).trans h29), by rw [up2_off (by decide), up2_off (by decide), up2_off (by decide), up2_ne (by decide)]; exact ((hhB14 30 (by decide)).trans h30), (mQ.push (x := 15) hq14).of (by rw [up2_off (by decide), up2_off (by decide)]) (by rw [up2_off (by decide), up2_off (by decide)]) (by rw [up2_ne (by decide), up2_ne (by decide)]) (by rw [up2_ne (by decide), up2_ne (by decide)]), by rw [up2_off (by decide), up2_at, opens_o (Or.inr rfl)]⟩, hr.then (stp_open hb19 hb45), by have := @sk_ge t L ((sk t L a1) + 1); show sk t L a_ ≤ _; omega⟩)
                  | exact ih g 0 _ (by omega) ((((hX.tr (hereX hhA14 hhB14)).tr hfn.X).up 29 _ (by decide)).up 30 _ (by decide)) (Or.inr (Or.inl ⟨3, _, W1, C1, by decide, by decide, by rw [up2_off (by decide), up2_at], up2_at, hr.then (stp_notF hb88 hb114)⟩))
                  | exact ih g (L + 2 - sk t L ((sk t L a1) + 3)) _ (by have := isW_lt (w := wNot) hsL hb88; have := @sk_ge t L ((sk t L a1) + 3); omega) (((((hX.tr (hereX hhA14 hhB14)).tr hfn.X).uc (Or.inl rfl)).up 32 _ (by decide)).up 33 _ (by decide)) (Or.inl ⟨b32_n.mp hb3, (sk t L a1) + 3, 12 :: W1, C1, rfl, ⟨hT.of (by rw [up2_off (by decide), up2_off (by decide), up2_ne (by decide)]; exact ((hfn.2 25 (by decide) (by decide) (by decide)).trans (hhB14 25 (by decide)))) (by rw [up2_ne (by decide), up2_ne (by decide), up2_ne (by decide), hfn.1 141 (by decide)]; exact hhA14 141 (by decide)), by rw [up2_off (by decide), up2_off (by decide), up2_ne (by decide)]; exact h26n, by have := isW_lt (w := wNot) hsL hb88; have e3 : wNot.length = 3 := rfl; omega, by rw [up2_off (by decide), up2_off (by decide), up2_ne (by decide)]; exact ((hfn.2 29 (by decide) (by decide) (by decide)).trans ((hhB14 29 (by decide)).trans h29)), by rw [up2_off (by decide), up2_off (by decide), up2_ne (by decide)]; exact ((hfn.2 30 (by decide) (by decide) (by decide)).trans ((hhB14 30 (by decide)).trans h30)), (mQ.push (x := 12) hq85).of (up2_off (by decide)) (up2_off (by decide)) (up2_ne (by decide)) (up2_ne (by decide)), by rw [up2_at, opens_o (Or.inl rfl)]⟩, hr.then (stp_not hb88 hb114), by have := @sk_ge t L ((sk t L a1) + 3); show sk t L a_ ≤ _; omega⟩)
                  | exact ih false 0 _ (by omega) (((hX.tr (hereX hhA14 hhB14)).tr hfn.X).tr hnf.X) (Or.inr (Or.inl ⟨nmF t L (sk t L a1) 0 11, _, W1, C1, by omega, by have := @nmF_lt t L (sk t L a1) 0 11; omega, hn1, by rw [hn2, if_neg hb148], hr.then (stp_figF hb19 hb88 hb148)⟩))
                  | exact ih false 0 _ (by omega) ((((((hX.tr (hereX hhA14 hhB14)).tr hfn.X).tr hnf.X).uc (Or.inr rfl)).up 35 _ (by decide)).tr hz157.X) (Or.inr (Or.inr ⟨rfl, nE t L (sk t L a1), (clW W1 (C1 ++ [nmV t L (sk t L a1)])).1, (clW W1 (C1 ++ [nmV t L (sk t L a1)])).2, ⟨hT.of ((hz157.2 25 (by decide) (by decide) (by decide)).trans (by rw [up2_off (by decide), up2_ne (by decide)]; exact (hnf.2 25 (by decide) (by decide) (by decide) (by decide)).trans ((hfn.2 25 (by decide) (by decide) (by decide)).trans (hhB14 25 (by decide))))) ((hz157.1 141 (by decide) (by decide) (by decide)).trans (by rw [up2_ne (by decide), up2_ne (by decide)]; exact (hnf.1 141 (by decide)).trans ((hfn.1 141 (by decide)).trans (hhA14 141 (by decide))))), (hz157.2 26 (by decide) (by decide) (by decide)).trans (by rw [up2_off (by decide), up2_ne (by decide)]; exact h26v), nE_le hsL, (hz157.2 29 (by decide) (by decide) (by decide)).trans (by rw [up2_off (by decide), up2_ne (by decide), hn1, hb148]), (hz157.2 30 (by decide) (by decide) (by decide)).trans (by rw [up2_off (by decide), up2_ne (by decide), hn2, if_pos hb148]; exact (hfn.2 30 (by decide) (by decide) (by decide)).trans ((hhB14 30 (by decide)).trans h30)), hq157, ho157⟩, hr.then (stp_fig hb19 hb88 hb148), by have := @sk_ge t L (nE t L (sk t L a1)); show sk t L a_ < _; omega⟩))
              · rw [b32_n, decide_eq_true_eq] at hb45
                have hb45 := want_1 (by decide) hb45
                have hI42 := want_f hW42 hb45
                subst hI42
                have hq14 : mQ I42 W1 C1 := hq.of (hhB14 32 (by decide)) (hhB14 35 (by decide)) (hhA14 142 (by decide)) (hhA14 143 (by decide))
                refine r_aload_n C 0 (dk oX10_takeOperand 24 rfl) rfl ?_
                refine r_bipush C (dk oX10_takeOperand 25 rfl) (v := nI 103) (by decide) ?_
                refine r_ivv C Z (dk oX10_takeOperand 26 rfl) cl_X10_197 ci_X10_push rfl (km hn rfl) (c_X10_push hn I42 J W1.length hq14.1 (by omega) (nI (15 + 88))) rfl rfl (Nat.le_of_ble_eq_true rfl) ⟨Nat.le_of_ble_eq_true rfl, Nat.le_of_ble_eq_true rfl⟩ ⟨Nat.zero_le _, Nat.zero_le _⟩ (fun I51 J51 h51 => ?_)
                obtain ⟨e1_, e2_⟩ := h51
                have e1_ := e1_.symm
                have e2_ := e2_.symm
                subst e1_
                subst e2_
                refine r_aload_n C 0 (dk oX10_takeOperand 27 rfl) rfl ?_
                refine r_dup C (dk oX10_takeOperand 28 rfl) rfl ?_
                refine r_getI C (dk oX10_takeOperand 29 rfl) fl_X10_194 rfl (km hn rfl) ?_
                rw [up2_off (by decide), up2_ne (by decide), hhB14 33 (by decide), ho]
                refine r_iconst C (dk oX10_takeOperand 30 rfl) (v := nI 1) (by decide) ?_
                refine r_iadd C (dk oX10_takeOperand 31 rfl) ?_
                rw [nI_add]
                refine r_putI C (dk oX10_takeOperand 32 rfl) fl_X10_194 ft_10_33 rfl (km hn rfl) ?_
                refine r_aload_n C 0 (dk oX10_takeOperand 33 rfl) rfl ?_
                refine r_dup C (dk oX10_takeOperand 34 rfl) rfl ?_
                refine r_getI C (dk oX10_takeOperand 35 rfl) fl_X10_142 rfl (km hn rfl) ?_
                rw [up2_off (by decide), up2_off (by decide), up2_ne (by decide), hh14]
                refine r_iconst C (dk oX10_takeOperand 36 rfl) (v := nI 1) (by decide) ?_
                refine r_iadd C (dk oX10_takeOperand 37 rfl) ?_
                rw [nI_add]
                refine r_putI C (dk oX10_takeOperand 38 rfl) fl_X10_142 ft_10_26 rfl (km hn rfl) ?_
                refine r_goto (tgt := 2) C (dk oX10_takeOperand 39 rfl) (by decide) ?_
                refine V.sub [0, 1] rfl ?_
                first
                  | exact ih g 0 _ (by omega) (((hX.tr (hereX hhA14 hhB14)).up 29 _ (by decide)).up 30 _ (by decide)) (Or.inr (Or.inl ⟨3, _, W1, C1, by decide, by decide, by rw [up2_off (by decide), up2_at], up2_at, hr.then (stp_openF hb19 hb45)⟩))
                  | exact ih g (L + 2 - sk t L ((sk t L a1) + 1)) _ (by have := isS_l hb19; have := @sk_ge t L ((sk t L a1) + 1); omega) (((((hX.tr (hereX hhA14 hhB14)).uc (Or.inl rfl)).up 32 _ (by decide)).up 33 _ (by decide)).up 26 _ (by decide)) (Or.inl ⟨b32_n.mp hb3, (sk t L a1) + 1, 15 :: W1, C1, rfl, ⟨hT.of (by rw [up2_off (by decide), up2_off (by decide), up2_off (by decide), up2_ne (by decide)]; exact (hhB14 25 (by decide))) (by rw [up2_ne (by decide), up2_ne (by decide), up2_ne (by decide), up2_ne (by decide)]; exact hhA14 141 (by decide)), up2_at, by have := isS_l hb19; omega, by rw [up2_off (by decide), up2_off (by decide), up2_off (by decide), up2_ne (by decide)]; exact ((hhB14 29 (by decide)).trans h29), by rw [up2_off (by decide), up2_off (by decide), up2_off (by decide), up2_ne (by decide)]; exact ((hhB14 30 (by decide)).trans h30), (mQ.push (x := 15) hq14).of (by rw [up2_off (by decide), up2_off (by decide)]) (by rw [up2_off (by decide), up2_off (by decide)]) (by rw [up2_ne (by decide), up2_ne (by decide)]) (by rw [up2_ne (by decide), up2_ne (by decide)]), by rw [up2_off (by decide), up2_at, opens_o (Or.inr rfl)]⟩, hr.then (stp_open hb19 hb45), by have := @sk_ge t L ((sk t L a1) + 1); show sk t L a_ ≤ _; omega⟩)
                  | exact ih g 0 _ (by omega) ((((hX.tr (hereX hhA14 hhB14)).tr hfn.X).up 29 _ (by decide)).up 30 _ (by decide)) (Or.inr (Or.inl ⟨3, _, W1, C1, by decide, by decide, by rw [up2_off (by decide), up2_at], up2_at, hr.then (stp_notF hb88 hb114)⟩))
                  | exact ih g (L + 2 - sk t L ((sk t L a1) + 3)) _ (by have := isW_lt (w := wNot) hsL hb88; have := @sk_ge t L ((sk t L a1) + 3); omega) (((((hX.tr (hereX hhA14 hhB14)).tr hfn.X).uc (Or.inl rfl)).up 32 _ (by decide)).up 33 _ (by decide)) (Or.inl ⟨b32_n.mp hb3, (sk t L a1) + 3, 12 :: W1, C1, rfl, ⟨hT.of (by rw [up2_off (by decide), up2_off (by decide), up2_ne (by decide)]; exact ((hfn.2 25 (by decide) (by decide) (by decide)).trans (hhB14 25 (by decide)))) (by rw [up2_ne (by decide), up2_ne (by decide), up2_ne (by decide), hfn.1 141 (by decide)]; exact hhA14 141 (by decide)), by rw [up2_off (by decide), up2_off (by decide), up2_ne (by decide)]; exact h26n, by have := isW_lt (w := wNot) hsL hb88; have e3 : wNot.length = 3 := rfl; omega, by rw [up2_off (by decide), up2_off (by decide), up2_ne (by decide)]; exact ((hfn.2 29 (by decide) (by decide) (by decide)).trans ((hhB14 29 (by decide)).trans h29)), by rw [up2_off (by decide), up2_off (by decide), up2_ne (by decide)]; exact ((hfn.2 30 (by decide) (by decide) (by decide)).trans ((hhB14 30 (by decide)).trans h30)), (mQ.push (x := 12) hq85).of (up2_off (by decide)) (up2_off (by decide)) (up2_ne (by decide)) (up2_ne (by decide)), by rw [up2_at, opens_o (Or.inl rfl)]⟩, hr.then (stp_not hb88 hb114), by have := @sk_ge t L ((sk t L a1) + 3); show sk t L a_ ≤ _; omega⟩)
                  | exact ih false 0 _ (by omega) (((hX.tr (hereX hhA14 hhB14)).tr hfn.X).tr hnf.X) (Or.inr (Or.inl ⟨nmF t L (sk t L a1) 0 11, _, W1, C1, by omega, by have := @nmF_lt t L (sk t L a1) 0 11; omega, hn1, by rw [hn2, if_neg hb148], hr.then (stp_figF hb19 hb88 hb148)⟩))
                  | exact ih false 0 _ (by omega) ((((((hX.tr (hereX hhA14 hhB14)).tr hfn.X).tr hnf.X).uc (Or.inr rfl)).up 35 _ (by decide)).tr hz157.X) (Or.inr (Or.inr ⟨rfl, nE t L (sk t L a1), (clW W1 (C1 ++ [nmV t L (sk t L a1)])).1, (clW W1 (C1 ++ [nmV t L (sk t L a1)])).2, ⟨hT.of ((hz157.2 25 (by decide) (by decide) (by decide)).trans (by rw [up2_off (by decide), up2_ne (by decide)]; exact (hnf.2 25 (by decide) (by decide) (by decide) (by decide)).trans ((hfn.2 25 (by decide) (by decide) (by decide)).trans (hhB14 25 (by decide))))) ((hz157.1 141 (by decide) (by decide) (by decide)).trans (by rw [up2_ne (by decide), up2_ne (by decide)]; exact (hnf.1 141 (by decide)).trans ((hfn.1 141 (by decide)).trans (hhA14 141 (by decide))))), (hz157.2 26 (by decide) (by decide) (by decide)).trans (by rw [up2_off (by decide), up2_ne (by decide)]; exact h26v), nE_le hsL, (hz157.2 29 (by decide) (by decide) (by decide)).trans (by rw [up2_off (by decide), up2_ne (by decide), hn1, hb148]), (hz157.2 30 (by decide) (by decide) (by decide)).trans (by rw [up2_off (by decide), up2_ne (by decide), hn2, if_pos hb148]; exact (hfn.2 30 (by decide) (by decide) (by decide)).trans ((hhB14 30 (by decide)).trans h30)), hq157, ho157⟩, hr.then (stp_fig hb19 hb88 hb148), by have := @sk_ge t L (nE t L (sk t L a1)); show sk t L a_ < _; omega⟩))
  refine V.sub [1, 0] rfl ?_
  exact L2 (L + 2 - sk t L a_ + 1) true (L + 2 - sk t L a_) I (by omega) (rdX.rf I) (Or.inl ⟨rfl, a_, W_, C_, rfl, hRS0, rch.rf, Nat.le_refl _⟩)

end MOD10
