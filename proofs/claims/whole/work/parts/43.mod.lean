section MOD12
variable {l : Launch} {n : Nat} {ad : Nat → Nat} {cA : Nat → ClassId} {D : va_G} {z : Zw}
def csI (t : Nat → Nat) (L : Nat) (σ : MS) (g : Bool) (m : Nat) (I1 : MI) : Prop := (g = true ∧ ∃ a1 W1 C1, m = L + 2 - sk t L a1 ∧ RS I1 t L a1 W1 C1 ∧ rch t L σ (0, sk t L a1, W1, C1)) ∨ mBad t L σ I1 ∨ (g = false ∧ ∃ a1 W1 C1, RS I1 t L a1 W1 C1 ∧ rch t L σ (1, sk t L a1, W1, C1) ∧ isS t L (sk t L a1) 41 = false ∧ isW t L (sk t L a1) wAnd = false ∧ isW t L (sk t L a1) wOr = false)
theorem mBad.nz {t : Nat → Nat} {L : Nat} {σ : MS} {I1 : MI} (h : mBad t L σ I1) : ¬ I1 117 29 = 0 := by
  obtain ⟨f, s', W', C', h1, h2, h3, _⟩ := h
  rw [h3]
  exact fun q => absurd ((nI_eq0 (by omega)).mp q) (by omega)
theorem RS.zf {I1 : MI} {t : Nat → Nat} {L a : Nat} {W C : List Nat} (h : RS I1 t L a W C) : I1 117 29 = 0 := by
  rw [h.2.2.2.1]; rfl
theorem mOK_0 {L s : Nat} (h : s ≤ L) : mOK L (0, s, [], []) := ⟨h, Nat.zero_le _, trivial, Nat.zero_le _, (fun x hx => absurd hx List.not_mem_nil), fun _ => rfl, fun e => absurd e (show ¬ (0 : Nat) = 1 by decide), fun e => absurd e (show ¬ (0 : Nat) = 2 by decide)⟩
set_option maxHeartbeats 1000000 in
set_option maxRecDepth 100000 in
theorem c_X10_takeCase (hn : 148 ≤ n) (I : MI) (J : MJ) (t : Nat → Nat) (L a_ : Nat) (hL : L ≤ 120) (hT0 : MTx I t L) (ha : I 117 26 = nI a_) (haL : a_ ≤ L) (hf29 : I 117 29 = nI 0) (hf30 : I 117 30 = -1) : Cv l n ad cA D z 4 yX10_takeCase cX10_takeCase 3 I J [.ref (ad 117)] (fun I' J' => J' = J ∧ rdX I I' ∧ ∃ f pl C, f < 4 ∧ (f = 0 → ∃ q, rch t L (0, sk t L a_, [], []) (2, q, [], C)) ∧ (f = 0 → mQ I' [] C) ∧ (f ≠ 0 → ∃ W C', rch t L (0, sk t L a_, [], []) (10 + f, pl, W, C')) ∧ I' 117 29 = nI f ∧ I' 117 30 = (if f = 0 then -1 else nI pl)) := by
  refine Cv.of (by decide) (Nat.le_of_ble_eq_true rfl) ?_
  intro p e s m args below meth c A C hin Z Q hret
  have hOK := mOK_0 (L := L) (s := sk t L a_) (sk_le haL)
  refine r_aload_n C 0 (dk oX10_takeCase 0 rfl) rfl ?_
  refine r_iconst C (dk oX10_takeCase 1 rfl) (v := nI 0) (by decide) ?_
  refine r_putI C (dk oX10_takeCase 2 rfl) fl_X10_181 ft_10_32 rfl (km hn rfl) ?_
  refine r_aload_n C 0 (dk oX10_takeCase 3 rfl) rfl ?_
  refine r_iconst C (dk oX10_takeCase 4 rfl) (v := nI 0) (by decide) ?_
  refine r_putI C (dk oX10_takeCase 5 rfl) fl_X10_194 ft_10_33 rfl (km hn rfl) ?_
  refine r_aload_n C 0 (dk oX10_takeCase 6 rfl) rfl ?_
  refine r_iconst C (dk oX10_takeCase 7 rfl) (v := nI 0) (by decide) ?_
  refine r_putI C (dk oX10_takeCase 8 rfl) fl_X10_178 ft_10_35 rfl (km hn rfl) ?_
  refine r_iconst C (dk oX10_takeCase 9 rfl) (v := nI 1) (by decide) ?_
  refine r_istore_n (lo' := [(1, _), (0, _)]) C (dk oX10_takeCase 10 rfl) rfl (by decide) rfl ?_
  have L17 : ∀ (d_ : Nat) (g : Bool) (m_ : Nat) (I1 : MI), m_ < d_ → rdX I I1 → csI t L (0, sk t L a_, [], []) g m_ I1 → V p l e (rmL 4) s m args below meth c Q D A 3 0 0 n ad (mE cA ad I1 J) 17 [(0, .ref (ad 117)), (1, .int (b32 g))] [] := by
    intro d_
    induction d_ with
    | zero => intros; exact absurd (by assumption) (Nat.not_lt_zero _)
    | succ d_ ih => 
      intro g m_ I1 hd_ hX hI
      refine r_iload_n C 1 (dk oX10_takeCase 11 rfl) rfl ?_
      refine r_if_eq (tgt := 55) C (dk oX10_takeCase 12 rfl) (by decide) (fun hb18 => ?_) (fun hb18 => ?_)
      · refine r_aload_n C 0 (dk oX10_takeCase 29 rfl) rfl ?_
        refine r_getI C (dk oX10_takeCase 30 rfl) fl_X10_145 rfl (km hn rfl) ?_
        refine r_if_ne (tgt := 117) C (dk oX10_takeCase 31 rfl) (by decide) (fun hb59 => ?_) (fun hb59 => ?_)
        · skip
          refine hret (dk oX10_takeCase 59 rfl) ?_
          first
            | (have hbd : mBad t L (0, sk t L a_, [], []) I1 := by
                 rcases hI with ⟨hg, a1, W1, C1, hm, hRS, _⟩ | h | ⟨_, a1, W1, C1, hRS, _⟩
                 · exact absurd hRS.zf hb59
                 · exact h
                 · exact absurd hRS.zf hb59
               obtain ⟨f, s', W', C', h1, h2, h3, h4, h5⟩ := hbd
               exact ⟨rfl, hX, f, s', [], h2, fun e => absurd e (by omega), fun e => absurd e (by omega), fun _ => ⟨W', C', h5⟩, h3, by rw [h4, if_neg (by omega)]⟩)
            | (have hpop : popAO W1 C1 = (W2, C2) := by rw [← hpe]; exact pop_no hb68 hb77
               have hse := stp_end (t := t) (L := L) (s := sk t L a1) hn41 hnA hnO hpop
               have hX89 := (hX.tr hz2.X).tr (hereX hhA89 hhB89)
               by_cases hP : sk t L a1 = L ∧ W2 = []
               · have hI113 := want_f hW113 hP
                 subst hI113
                 rw [if_pos hP] at hse
                 refine ⟨rfl, hX89, 0, 0, C2, by decide, fun _ => ⟨_, by rw [hP.2] at hse; exact hr.then hse⟩, fun _ => ?_, fun e => absurd rfl e, ?_, ?_⟩
                 · have h := hq2.of (hhB89 32 (by decide)) (hhB89 35 (by decide)) (hhA89 142 (by decide)) (hhA89 143 (by decide))
                   rw [hP.2] at h
                   exact h
                 · exact (hhB89 29 (by decide)).trans ((hz2.2 29 (by decide) (by decide) (by decide)).trans h29)
                 · exact (hhB89 30 (by decide)).trans ((hz2.2 30 (by decide) (by decide) (by decide)).trans h30)
               · have hI113 := want_t hW113 hP
                 subst hI113
                 rw [if_neg hP] at hse
                 exact ⟨rfl, (hX89.up 29 _ (by decide)).up 30 _ (by decide), 1, sk t L a1, [], by decide, fun e => absurd e (by decide), fun e => absurd e (by decide), fun _ => ⟨W2, C2, hr.then hse⟩, by rw [up2_off (by decide), up2_at], by rw [up2_at, if_neg (by decide)]⟩)
        · obtain ⟨a1, W1, C1, hRS, hr, hn41, hnA, hnO⟩ : ∃ a1 W1 C1, RS I1 t L a1 W1 C1 ∧ rch t L (0, sk t L a_, [], []) (1, sk t L a1, W1, C1) ∧ isS t L (sk t L a1) 41 = false ∧ isW t L (sk t L a1) wAnd = false ∧ isW t L (sk t L a1) wOr = false := by
            rcases hI with ⟨hg, a1, W1, C1, hm, hRS, _⟩ | h | ⟨_, h⟩
            · exfalso
              first
                | (rw [hg] at hb18; exact absurd hb18 (by decide))
                | exact hb25 hRS.zf
            · exact absurd hb59 h.nz
            · exact h
          obtain ⟨hT, h26, haL1, h29, h30, hqE, hoE⟩ := hRS
          have hmk := rch_ok hOK hr
          obtain ⟨hsL, hcn, hWK, hop8, hC15, _⟩ := hmk
          have hsL : sk t L a1 ≤ L := hsL
          have hcn : C1.length + nops W1 ≤ sk t L a1 := hcn
          have hop8 : opens W1 ≤ 8 := hop8
          have hw : wOK W1 := WOK.w hWK hop8
          have hwl := hw.1
          have L62 : ∀ (d_ : Nat) (W2 C2 : List Nat) (I2 : MI), W2.length < d_ → popAO W2 C2 = popAO W1 C1 → mQ I2 W2 C2 → wOK W2 → C2.length + nops W2 ≤ 120 → opens W2 = opens W1 → I2 117 33 = nI (opens W1) → mzF I1 I2 → V p l e (rmL 4) s m args below meth c Q D A 3 0 0 n ad (mE cA ad I2 J) 62 [(0, .ref (ad 117))] [] := by
            intro d_
            induction d_ with
            | zero => intros; exact absurd (by assumption) (Nat.not_lt_zero _)
            | succ d_ ih => 
              intro W2 C2 I2 hd62 hpe hq2 hw2 hb2 ho2 ho3 hz2
              refine r_aload_n C 0 (dk oX10_takeCase 32 rfl) rfl ?_
              refine r_bipush C (dk oX10_takeCase 33 rfl) (v := nI 101) (by decide) ?_
              refine r_ivi C Z (dk oX10_takeCase 34 rfl) cl_X10_187 ci_X10_isTop rfl (km hn rfl) (c_X10_isTop hn I2 J W2 C2 hq2 hw2 13 (by decide)) rfl rfl (Nat.le_of_ble_eq_true rfl) ⟨Nat.le_of_ble_eq_true rfl, Nat.le_of_ble_eq_true rfl⟩ ⟨Nat.zero_le _, Nat.zero_le _⟩ (fun r65 I65 J65 h65 => ?_)
              obtain ⟨h65, e1_, e2_⟩ := h65
              have e1_ := e1_.symm
              have e2_ := e2_.symm
              subst e1_
              subst e2_
              subst h65
              refine r_if_ne (tgt := 80) C (dk oX10_takeCase 35 rfl) (by decide) (fun hb68 => ?_) (fun hb68 => ?_)
              · rw [b32_n] at hb68
                obtain ⟨x, W3, hx, hWe⟩ : ∃ x W3, (x = 13 ∨ x = 14) ∧ W2 = x :: W3 := by
                  first
                    | (obtain ⟨W3, h⟩ := topB_c hb68; exact ⟨13, W3, Or.inl rfl, h⟩)
                    | (obtain ⟨W3, h⟩ := topB_c hb77; exact ⟨14, W3, Or.inr rfl, h⟩)
                have hxr : 12 ≤ x ∧ x < 15 := by omega
                refine r_aload_n C 0 (dk oX10_takeCase 40 rfl) rfl ?_
                refine r_ivv C Z (dk oX10_takeCase 41 rfl) cl_X10_191 ci_X10_sayTop rfl (km hn rfl) (c_X10_sayTop hn I2 J x W3 C2 (by rw [hWe] at hq2; exact hq2) (by have h := hw2.1; rw [hWe] at h; exact Nat.lt_of_lt_of_le (Nat.lt_succ_self _) h) (by have h := hb2; rw [hWe, nops_c (by omega)] at h; omega)) rfl rfl (Nat.le_of_ble_eq_true rfl) ⟨Nat.le_of_ble_eq_true rfl, Nat.le_of_ble_eq_true rfl⟩ ⟨Nat.zero_le _, Nat.zero_le _⟩ (fun I81 J81 h81 => ?_)
                obtain ⟨e1_, e2_⟩ := h81
                have e1_ := e1_.symm
                have e2_ := e2_.symm
                subst e1_
                subst e2_
                refine r_goto (tgt := 62) C (dk oX10_takeCase 42 rfl) (by decide) ?_
                refine V.sub [0] rfl ?_
                refine ih W3 (C2 ++ [x]) _ (by rw [hWe] at hd62; exact Nat.lt_of_succ_lt_succ hd62) ?_ ((by rw [hWe] at hq2; exact hq2 : mQ I2 (x :: W3) C2).pop (by omega) (by omega)) (by rw [hWe] at hw2; exact hw2.tl) (by rw [hWe, nops_c (by omega)] at hb2; rw [List.length_append]; show C2.length + 1 + nops W3 ≤ 120; omega) (by rw [hWe, opens_b hx] at ho2; exact ho2) (by rw [up2_off (by decide), up2_ne (by decide), up2_off (by decide)]; exact ho3) (((hz2.f (Or.inl rfl)).c (Or.inr rfl)).f (Or.inr (Or.inr rfl)))
                rw [← hpe, hWe]
                exact (popB_t (decide_eq_true (by omega))).symm
              · rw [b32_0] at hb68
                refine r_aload_n C 0 (dk oX10_takeCase 36 rfl) rfl ?_
                refine r_bipush C (dk oX10_takeCase 37 rfl) (v := nI 102) (by decide) ?_
                refine r_ivi C Z (dk oX10_takeCase 38 rfl) cl_X10_187 ci_X10_isTop rfl (km hn rfl) (c_X10_isTop hn I2 J W2 C2 hq2 hw2 14 (by decide)) rfl rfl (Nat.le_of_ble_eq_true rfl) ⟨Nat.le_of_ble_eq_true rfl, Nat.le_of_ble_eq_true rfl⟩ ⟨Nat.zero_le _, Nat.zero_le _⟩ (fun r74 I74 J74 h74 => ?_)
                obtain ⟨h74, e1_, e2_⟩ := h74
                have e1_ := e1_.symm
                have e2_ := e2_.symm
                subst e1_
                subst e2_
                subst h74
                refine r_if_eq (tgt := 87) C (dk oX10_takeCase 39 rfl) (by decide) (fun hb77 => ?_) (fun hb77 => ?_)
                · rw [b32_0] at hb77
                  refine r_aload_n C 0 (dk oX10_takeCase 43 rfl) rfl ?_
                  refine r_aload_n C 0 (dk oX10_takeCase 44 rfl) rfl ?_
                  refine r_ivi C Z (dk oX10_takeCase 45 rfl) cl_X10_148 ci_X10_here rfl (km hn rfl) (c_X10_here hn I2 J t L ((hT.of (hz2.2 25 (by decide) (by decide) (by decide)) (hz2.1 141 (by decide) (by decide) (by decide)))) (a1) ((hz2.2 26 (by decide) (by decide) (by decide)).trans h26) (haL1)) rfl rfl (Nat.le_of_ble_eq_true rfl) ⟨Nat.le_of_ble_eq_true rfl, Nat.le_of_ble_eq_true rfl⟩ ⟨Nat.zero_le _, Nat.zero_le _⟩ (fun r89 I89 J89 h89 => ?_)
                  obtain ⟨e1_, hh89, hhA89, hhB89, e2_⟩ := h89
                  have e1_ := e1_.symm
                  have e2_ := e2_.symm
                  subst e1_
                  subst e2_
                  refine r_iconst C (dk oX10_takeCase 46 rfl) (v := -1) (by decide) ?_
                  refine r_icmp_ne (tgt := 107) C (dk oX10_takeCase 47 rfl) (by decide) (fun hb93 => ?_) (fun hb93 => ?_)
                  · rw [hr_n (fun h => (hT.2.2 _ h).1)] at hb93
                    refine r_iconst C (dk oX10_takeCase 53 rfl) (v := nI 0) (by decide) ?_
                    refine r_topI (show nI 0 = b32 (decide (sk t L a1 = L ∧ W2 = [])) from by
                      first
                        | exact b32_df (fun q => hb93 (by omega))
                        | exact b32_df (fun q => hb100 (by rw [q.2]; rfl))) ?_
                    refine r_iconst C (dk oX10_takeCase 54 rfl) (v := nI 1) (by decide) ?_
                    refine r_aload_n C 0 (dk oX10_takeCase 55 rfl) rfl ?_
                    refine r_getI C (dk oX10_takeCase 56 rfl) fl_X10_142 rfl (km hn rfl) ?_
                    rw [hh89]
                    refine r_ivi C Z (dk oX10_takeCase 57 rfl) cl_X10_173 ci_X10_want rfl (km hn rfl) (c_X10_want hn I89 J (decide (sk t L a1 = L ∧ W2 = [])) (nI 1) (nI (sk t L a1)) (nI 0) ((hhB89 29 (by decide)).trans ((hz2.2 29 (by decide) (by decide) (by decide)).trans h29))) rfl rfl (Nat.le_of_ble_eq_true rfl) ⟨Nat.le_of_ble_eq_true rfl, Nat.le_of_ble_eq_true rfl⟩ ⟨Nat.zero_le _, Nat.zero_le _⟩ (fun r113 I113 J113 h113 => ?_)
                    obtain ⟨e1_, hW113, e2_⟩ := h113
                    have e1_ := e1_.symm
                    have e2_ := e2_.symm
                    subst e1_
                    subst e2_
                    refine r_istore_n (lo' := [(2, _), (0, _)]) C (dk oX10_takeCase 58 rfl) rfl (by decide) rfl ?_
                    refine hret (dk oX10_takeCase 59 rfl) ?_
                    first
                      | (have hbd : mBad t L (0, sk t L a_, [], []) I1 := by
                           rcases hI with ⟨hg, a1, W1, C1, hm, hRS, _⟩ | h | ⟨_, a1, W1, C1, hRS, _⟩
                           · exact absurd hRS.zf hb59
                           · exact h
                           · exact absurd hRS.zf hb59
                         obtain ⟨f, s', W', C', h1, h2, h3, h4, h5⟩ := hbd
                         exact ⟨rfl, hX, f, s', [], h2, fun e => absurd e (by omega), fun e => absurd e (by omega), fun _ => ⟨W', C', h5⟩, h3, by rw [h4, if_neg (by omega)]⟩)
                      | (have hpop : popAO W1 C1 = (W2, C2) := by rw [← hpe]; exact pop_no hb68 hb77
                         have hse := stp_end (t := t) (L := L) (s := sk t L a1) hn41 hnA hnO hpop
                         have hX89 := (hX.tr hz2.X).tr (hereX hhA89 hhB89)
                         by_cases hP : sk t L a1 = L ∧ W2 = []
                         · have hI113 := want_f hW113 hP
                           subst hI113
                           rw [if_pos hP] at hse
                           refine ⟨rfl, hX89, 0, 0, C2, by decide, fun _ => ⟨_, by rw [hP.2] at hse; exact hr.then hse⟩, fun _ => ?_, fun e => absurd rfl e, ?_, ?_⟩
                           · have h := hq2.of (hhB89 32 (by decide)) (hhB89 35 (by decide)) (hhA89 142 (by decide)) (hhA89 143 (by decide))
                             rw [hP.2] at h
                             exact h
                           · exact (hhB89 29 (by decide)).trans ((hz2.2 29 (by decide) (by decide) (by decide)).trans h29)
                           · exact (hhB89 30 (by decide)).trans ((hz2.2 30 (by decide) (by decide) (by decide)).trans h30)
                         · have hI113 := want_t hW113 hP
                           subst hI113
                           rw [if_neg hP] at hse
                           exact ⟨rfl, (hX89.up 29 _ (by decide)).up 30 _ (by decide), 1, sk t L a1, [], by decide, fun e => absurd e (by decide), fun e => absurd e (by decide), fun _ => ⟨W2, C2, hr.then hse⟩, by rw [up2_off (by decide), up2_at], by rw [up2_at, if_neg (by decide)]⟩)
                  · rw [hr_n (fun h => (hT.2.2 _ h).1)] at hb93
                    refine r_aload_n C 0 (dk oX10_takeCase 48 rfl) rfl ?_
                    refine r_getI C (dk oX10_takeCase 49 rfl) fl_X10_181 rfl (km hn rfl) ?_
                    rw [hhB89 32 (by decide), hq2.1]
                    have hwl2 := hw2.1
                    refine r_if_ne (tgt := 107) C (dk oX10_takeCase 50 rfl) (by decide) (fun hb100 => ?_) (fun hb100 => ?_)
                    · simp (disch := omega) only [nI_leI, nI_ltI, nI_eq, nI_eq0] at hb100
                      refine r_iconst C (dk oX10_takeCase 53 rfl) (v := nI 0) (by decide) ?_
                      refine r_topI (show nI 0 = b32 (decide (sk t L a1 = L ∧ W2 = [])) from by
                        first
                          | exact b32_df (fun q => hb93 (by omega))
                          | exact b32_df (fun q => hb100 (by rw [q.2]; rfl))) ?_
                      refine r_iconst C (dk oX10_takeCase 54 rfl) (v := nI 1) (by decide) ?_
                      refine r_aload_n C 0 (dk oX10_takeCase 55 rfl) rfl ?_
                      refine r_getI C (dk oX10_takeCase 56 rfl) fl_X10_142 rfl (km hn rfl) ?_
                      rw [hh89]
                      refine r_ivi C Z (dk oX10_takeCase 57 rfl) cl_X10_173 ci_X10_want rfl (km hn rfl) (c_X10_want hn I89 J (decide (sk t L a1 = L ∧ W2 = [])) (nI 1) (nI (sk t L a1)) (nI 0) ((hhB89 29 (by decide)).trans ((hz2.2 29 (by decide) (by decide) (by decide)).trans h29))) rfl rfl (Nat.le_of_ble_eq_true rfl) ⟨Nat.le_of_ble_eq_true rfl, Nat.le_of_ble_eq_true rfl⟩ ⟨Nat.zero_le _, Nat.zero_le _⟩ (fun r113 I113 J113 h113 => ?_)
                      obtain ⟨e1_, hW113, e2_⟩ := h113
                      have e1_ := e1_.symm
                      have e2_ := e2_.symm
                      subst e1_
                      subst e2_
                      refine r_istore_n (lo' := [(2, _), (0, _)]) C (dk oX10_takeCase 58 rfl) rfl (by decide) rfl ?_
                      refine hret (dk oX10_takeCase 59 rfl) ?_
                      first
                        | (have hbd : mBad t L (0, sk t L a_, [], []) I1 := by
                             rcases hI with ⟨hg, a1, W1, C1, hm, hRS, _⟩ | h | ⟨_, a1, W1, C1, hRS, _⟩
                             · exact absurd hRS.zf hb59
                             · exact h
                             · exact absurd hRS.zf hb59
                           obtain ⟨f, s', W', C', h1, h2, h3, h4, h5⟩ := hbd
                           exact ⟨rfl, hX, f, s', [], h2, fun e => absurd e (by omega), fun e => absurd e (by omega), fun _ => ⟨W', C', h5⟩, h3, by rw [h4, if_neg (by omega)]⟩)
                        | (have hpop : popAO W1 C1 = (W2, C2) := by rw [← hpe]; exact pop_no hb68 hb77
                           have hse := stp_end (t := t) (L := L) (s := sk t L a1) hn41 hnA hnO hpop
                           have hX89 := (hX.tr hz2.X).tr (hereX hhA89 hhB89)
                           by_cases hP : sk t L a1 = L ∧ W2 = []
                           · have hI113 := want_f hW113 hP
                             subst hI113
                             rw [if_pos hP] at hse
                             refine ⟨rfl, hX89, 0, 0, C2, by decide, fun _ => ⟨_, by rw [hP.2] at hse; exact hr.then hse⟩, fun _ => ?_, fun e => absurd rfl e, ?_, ?_⟩
                             · have h := hq2.of (hhB89 32 (by decide)) (hhB89 35 (by decide)) (hhA89 142 (by decide)) (hhA89 143 (by decide))
                               rw [hP.2] at h
                               exact h
                             · exact (hhB89 29 (by decide)).trans ((hz2.2 29 (by decide) (by decide) (by decide)).trans h29)
                             · exact (hhB89 30 (by decide)).trans ((hz2.2 30 (by decide) (by decide) (by decide)).trans h30)
                           · have hI113 := want_t hW113 hP
                             subst hI113
                             rw [if_neg hP] at hse
                             exact ⟨rfl, (hX89.up 29 _ (by decide)).up 30 _ (by decide), 1, sk t L a1, [], by decide, fun e => absurd e (by decide), fun e => absurd e (by decide), fun _ => ⟨W2, C2, hr.then hse⟩, by rw [up2_off (by decide), up2_at], by rw [up2_at, if_neg (by decide)]⟩)
                    · simp (disch := omega) only [nI_leI, nI_ltI, nI_eq, nI_eq0] at hb100
                      refine r_iconst C (dk oX10_takeCase 51 rfl) (v := nI 1) (by decide) ?_
                      refine r_topI (show nI 1 = b32 (decide (sk t L a1 = L ∧ W2 = [])) from b32_dt ⟨by omega, List.eq_nil_of_length_eq_zero hb100⟩) ?_
                      refine r_goto (tgt := 108) C (dk oX10_takeCase 52 rfl) (by decide) ?_
                      refine r_iconst C (dk oX10_takeCase 54 rfl) (v := nI 1) (by decide) ?_
                      refine r_aload_n C 0 (dk oX10_takeCase 55 rfl) rfl ?_
                      refine r_getI C (dk oX10_takeCase 56 rfl) fl_X10_142 rfl (km hn rfl) ?_
                      rw [hh89]
                      refine r_ivi C Z (dk oX10_takeCase 57 rfl) cl_X10_173 ci_X10_want rfl (km hn rfl) (c_X10_want hn I89 J (decide (sk t L a1 = L ∧ W2 = [])) (nI 1) (nI (sk t L a1)) (nI 0) ((hhB89 29 (by decide)).trans ((hz2.2 29 (by decide) (by decide) (by decide)).trans h29))) rfl rfl (Nat.le_of_ble_eq_true rfl) ⟨Nat.le_of_ble_eq_true rfl, Nat.le_of_ble_eq_true rfl⟩ ⟨Nat.zero_le _, Nat.zero_le _⟩ (fun r113 I113 J113 h113 => ?_)
                      obtain ⟨e1_, hW113, e2_⟩ := h113
                      have e1_ := e1_.symm
                      have e2_ := e2_.symm
                      subst e1_
                      subst e2_
                      refine r_istore_n (lo' := [(2, _), (0, _)]) C (dk oX10_takeCase 58 rfl) rfl (by decide) rfl ?_
                      refine hret (dk oX10_takeCase 59 rfl) ?_
                      first
                        | (have hbd : mBad t L (0, sk t L a_, [], []) I1 := by
                             rcases hI with ⟨hg, a1, W1, C1, hm, hRS, _⟩ | h | ⟨_, a1, W1, C1, hRS, _⟩
                             · exact absurd hRS.zf hb59
                             · exact h
                             · exact absurd hRS.zf hb59
                           obtain ⟨f, s', W', C', h1, h2, h3, h4, h5⟩ := hbd
                           exact ⟨rfl, hX, f, s', [], h2, fun e => absurd e (by omega), fun e => absurd e (by omega), fun _ => ⟨W', C', h5⟩, h3, by rw [h4, if_neg (by omega)]⟩)
                        | (have hpop : popAO W1 C1 = (W2, C2) := by rw [← hpe]; exact pop_no hb68 hb77
                           have hse := stp_end (t := t) (L := L) (s := sk t L a1) hn41 hnA hnO hpop
                           have hX89 := (hX.tr hz2.X).tr (hereX hhA89 hhB89)
                           by_cases hP : sk t L a1 = L ∧ W2 = []
                           · have hI113 := want_f hW113 hP
                             subst hI113
                             rw [if_pos hP] at hse
                             refine ⟨rfl, hX89, 0, 0, C2, by decide, fun _ => ⟨_, by rw [hP.2] at hse; exact hr.then hse⟩, fun _ => ?_, fun e => absurd rfl e, ?_, ?_⟩
                             · have h := hq2.of (hhB89 32 (by decide)) (hhB89 35 (by decide)) (hhA89 142 (by decide)) (hhA89 143 (by decide))
                               rw [hP.2] at h
                               exact h
                             · exact (hhB89 29 (by decide)).trans ((hz2.2 29 (by decide) (by decide) (by decide)).trans h29)
                             · exact (hhB89 30 (by decide)).trans ((hz2.2 30 (by decide) (by decide) (by decide)).trans h30)
                           · have hI113 := want_t hW113 hP
                             subst hI113
                             rw [if_neg hP] at hse
                             exact ⟨rfl, (hX89.up 29 _ (by decide)).up 30 _ (by decide), 1, sk t L a1, [], by decide, fun e => absurd e (by decide), fun e => absurd e (by decide), fun _ => ⟨W2, C2, hr.then hse⟩, by rw [up2_off (by decide), up2_at], by rw [up2_at, if_neg (by decide)]⟩)
                · rw [b32_n] at hb77
                  obtain ⟨x, W3, hx, hWe⟩ : ∃ x W3, (x = 13 ∨ x = 14) ∧ W2 = x :: W3 := by
                    first
                      | (obtain ⟨W3, h⟩ := topB_c hb68; exact ⟨13, W3, Or.inl rfl, h⟩)
                      | (obtain ⟨W3, h⟩ := topB_c hb77; exact ⟨14, W3, Or.inr rfl, h⟩)
                  have hxr : 12 ≤ x ∧ x < 15 := by omega
                  refine r_aload_n C 0 (dk oX10_takeCase 40 rfl) rfl ?_
                  refine r_ivv C Z (dk oX10_takeCase 41 rfl) cl_X10_191 ci_X10_sayTop rfl (km hn rfl) (c_X10_sayTop hn I2 J x W3 C2 (by rw [hWe] at hq2; exact hq2) (by have h := hw2.1; rw [hWe] at h; exact Nat.lt_of_lt_of_le (Nat.lt_succ_self _) h) (by have h := hb2; rw [hWe, nops_c (by omega)] at h; omega)) rfl rfl (Nat.le_of_ble_eq_true rfl) ⟨Nat.le_of_ble_eq_true rfl, Nat.le_of_ble_eq_true rfl⟩ ⟨Nat.zero_le _, Nat.zero_le _⟩ (fun I81 J81 h81 => ?_)
                  obtain ⟨e1_, e2_⟩ := h81
                  have e1_ := e1_.symm
                  have e2_ := e2_.symm
                  subst e1_
                  subst e2_
                  refine r_goto (tgt := 62) C (dk oX10_takeCase 42 rfl) (by decide) ?_
                  refine V.sub [0] rfl ?_
                  refine ih W3 (C2 ++ [x]) _ (by rw [hWe] at hd62; exact Nat.lt_of_succ_lt_succ hd62) ?_ ((by rw [hWe] at hq2; exact hq2 : mQ I2 (x :: W3) C2).pop (by omega) (by omega)) (by rw [hWe] at hw2; exact hw2.tl) (by rw [hWe, nops_c (by omega)] at hb2; rw [List.length_append]; show C2.length + 1 + nops W3 ≤ 120; omega) (by rw [hWe, opens_b hx] at ho2; exact ho2) (by rw [up2_off (by decide), up2_ne (by decide), up2_off (by decide)]; exact ho3) (((hz2.f (Or.inl rfl)).c (Or.inr rfl)).f (Or.inr (Or.inr rfl)))
                  rw [← hpe, hWe]
                  exact (popB_t (decide_eq_true (by omega))).symm
          refine V.sub [0] rfl ?_
          exact L62 (W1.length + 1) W1 C1 I1 (by omega) rfl hqE hw (by omega) rfl hoE (mzF.rf _)
      · refine r_aload_n C 0 (dk oX10_takeCase 13 rfl) rfl ?_
        refine r_getI C (dk oX10_takeCase 14 rfl) fl_X10_145 rfl (km hn rfl) ?_
        refine r_if_ne (tgt := 55) C (dk oX10_takeCase 15 rfl) (by decide) (fun hb25 => ?_) (fun hb25 => ?_)
        · refine r_aload_n C 0 (dk oX10_takeCase 29 rfl) rfl ?_
          refine r_getI C (dk oX10_takeCase 30 rfl) fl_X10_145 rfl (km hn rfl) ?_
          refine r_if_ne (tgt := 117) C (dk oX10_takeCase 31 rfl) (by decide) (fun hb59 => ?_) (fun hb59 => ?_)
          · skip
            refine hret (dk oX10_takeCase 59 rfl) ?_
            first
              | (have hbd : mBad t L (0, sk t L a_, [], []) I1 := by
                   rcases hI with ⟨hg, a1, W1, C1, hm, hRS, _⟩ | h | ⟨_, a1, W1, C1, hRS, _⟩
                   · exact absurd hRS.zf hb59
                   · exact h
                   · exact absurd hRS.zf hb59
                 obtain ⟨f, s', W', C', h1, h2, h3, h4, h5⟩ := hbd
                 exact ⟨rfl, hX, f, s', [], h2, fun e => absurd e (by omega), fun e => absurd e (by omega), fun _ => ⟨W', C', h5⟩, h3, by rw [h4, if_neg (by omega)]⟩)
              | (have hpop : popAO W1 C1 = (W2, C2) := by rw [← hpe]; exact pop_no hb68 hb77
                 have hse := stp_end (t := t) (L := L) (s := sk t L a1) hn41 hnA hnO hpop
                 have hX89 := (hX.tr hz2.X).tr (hereX hhA89 hhB89)
                 by_cases hP : sk t L a1 = L ∧ W2 = []
                 · have hI113 := want_f hW113 hP
                   subst hI113
                   rw [if_pos hP] at hse
                   refine ⟨rfl, hX89, 0, 0, C2, by decide, fun _ => ⟨_, by rw [hP.2] at hse; exact hr.then hse⟩, fun _ => ?_, fun e => absurd rfl e, ?_, ?_⟩
                   · have h := hq2.of (hhB89 32 (by decide)) (hhB89 35 (by decide)) (hhA89 142 (by decide)) (hhA89 143 (by decide))
                     rw [hP.2] at h
                     exact h
                   · exact (hhB89 29 (by decide)).trans ((hz2.2 29 (by decide) (by decide) (by decide)).trans h29)
                   · exact (hhB89 30 (by decide)).trans ((hz2.2 30 (by decide) (by decide) (by decide)).trans h30)
                 · have hI113 := want_t hW113 hP
                   subst hI113
                   rw [if_neg hP] at hse
                   exact ⟨rfl, (hX89.up 29 _ (by decide)).up 30 _ (by decide), 1, sk t L a1, [], by decide, fun e => absurd e (by decide), fun e => absurd e (by decide), fun _ => ⟨W2, C2, hr.then hse⟩, by rw [up2_off (by decide), up2_at], by rw [up2_at, if_neg (by decide)]⟩)
          · obtain ⟨a1, W1, C1, hRS, hr, hn41, hnA, hnO⟩ : ∃ a1 W1 C1, RS I1 t L a1 W1 C1 ∧ rch t L (0, sk t L a_, [], []) (1, sk t L a1, W1, C1) ∧ isS t L (sk t L a1) 41 = false ∧ isW t L (sk t L a1) wAnd = false ∧ isW t L (sk t L a1) wOr = false := by
              rcases hI with ⟨hg, a1, W1, C1, hm, hRS, _⟩ | h | ⟨_, h⟩
              · exfalso
                first
                  | (rw [hg] at hb18; exact absurd hb18 (by decide))
                  | exact hb25 hRS.zf
              · exact absurd hb59 h.nz
              · exact h
            obtain ⟨hT, h26, haL1, h29, h30, hqE, hoE⟩ := hRS
            have hmk := rch_ok hOK hr
            obtain ⟨hsL, hcn, hWK, hop8, hC15, _⟩ := hmk
            have hsL : sk t L a1 ≤ L := hsL
            have hcn : C1.length + nops W1 ≤ sk t L a1 := hcn
            have hop8 : opens W1 ≤ 8 := hop8
            have hw : wOK W1 := WOK.w hWK hop8
            have hwl := hw.1
            have L62 : ∀ (d_ : Nat) (W2 C2 : List Nat) (I2 : MI), W2.length < d_ → popAO W2 C2 = popAO W1 C1 → mQ I2 W2 C2 → wOK W2 → C2.length + nops W2 ≤ 120 → opens W2 = opens W1 → I2 117 33 = nI (opens W1) → mzF I1 I2 → V p l e (rmL 4) s m args below meth c Q D A 3 0 0 n ad (mE cA ad I2 J) 62 [(0, .ref (ad 117))] [] := by
              intro d_
              induction d_ with
              | zero => intros; exact absurd (by assumption) (Nat.not_lt_zero _)
              | succ d_ ih => 
                intro W2 C2 I2 hd62 hpe hq2 hw2 hb2 ho2 ho3 hz2
                refine r_aload_n C 0 (dk oX10_takeCase 32 rfl) rfl ?_
                refine r_bipush C (dk oX10_takeCase 33 rfl) (v := nI 101) (by decide) ?_
                refine r_ivi C Z (dk oX10_takeCase 34 rfl) cl_X10_187 ci_X10_isTop rfl (km hn rfl) (c_X10_isTop hn I2 J W2 C2 hq2 hw2 13 (by decide)) rfl rfl (Nat.le_of_ble_eq_true rfl) ⟨Nat.le_of_ble_eq_true rfl, Nat.le_of_ble_eq_true rfl⟩ ⟨Nat.zero_le _, Nat.zero_le _⟩ (fun r65 I65 J65 h65 => ?_)
                obtain ⟨h65, e1_, e2_⟩ := h65
                have e1_ := e1_.symm
                have e2_ := e2_.symm
                subst e1_
                subst e2_
                subst h65
                refine r_if_ne (tgt := 80) C (dk oX10_takeCase 35 rfl) (by decide) (fun hb68 => ?_) (fun hb68 => ?_)
                · rw [b32_n] at hb68
                  obtain ⟨x, W3, hx, hWe⟩ : ∃ x W3, (x = 13 ∨ x = 14) ∧ W2 = x :: W3 := by
                    first
                      | (obtain ⟨W3, h⟩ := topB_c hb68; exact ⟨13, W3, Or.inl rfl, h⟩)
                      | (obtain ⟨W3, h⟩ := topB_c hb77; exact ⟨14, W3, Or.inr rfl, h⟩)
                  have hxr : 12 ≤ x ∧ x < 15 := by omega
                  refine r_aload_n C 0 (dk oX10_takeCase 40 rfl) rfl ?_
                  refine r_ivv C Z (dk oX10_takeCase 41 rfl) cl_X10_191 ci_X10_sayTop rfl (km hn rfl) (c_X10_sayTop hn I2 J x W3 C2 (by rw [hWe] at hq2; exact hq2) (by have h := hw2.1; rw [hWe] at h; exact Nat.lt_of_lt_of_le (Nat.lt_succ_self _) h) (by have h := hb2; rw [hWe, nops_c (by omega)] at h; omega)) rfl rfl (Nat.le_of_ble_eq_true rfl) ⟨Nat.le_of_ble_eq_true rfl, Nat.le_of_ble_eq_true rfl⟩ ⟨Nat.zero_le _, Nat.zero_le _⟩ (fun I81 J81 h81 => ?_)
                  obtain ⟨e1_, e2_⟩ := h81
                  have e1_ := e1_.symm
                  have e2_ := e2_.symm
                  subst e1_
                  subst e2_
                  refine r_goto (tgt := 62) C (dk oX10_takeCase 42 rfl) (by decide) ?_
                  refine V.sub [0] rfl ?_
                  refine ih W3 (C2 ++ [x]) _ (by rw [hWe] at hd62; exact Nat.lt_of_succ_lt_succ hd62) ?_ ((by rw [hWe] at hq2; exact hq2 : mQ I2 (x :: W3) C2).pop (by omega) (by omega)) (by rw [hWe] at hw2; exact hw2.tl) (by rw [hWe, nops_c (by omega)] at hb2; rw [List.length_append]; show C2.length + 1 + nops W3 ≤ 120; omega) (by rw [hWe, opens_b hx] at ho2; exact ho2) (by rw [up2_off (by decide), up2_ne (by decide), up2_off (by decide)]; exact ho3) (((hz2.f (Or.inl rfl)).c (Or.inr rfl)).f (Or.inr (Or.inr rfl)))
                  rw [← hpe, hWe]
                  exact (popB_t (decide_eq_true (by omega))).symm
                · rw [b32_0] at hb68
                  refine r_aload_n C 0 (dk oX10_takeCase 36 rfl) rfl ?_
                  refine r_bipush C (dk oX10_takeCase 37 rfl) (v := nI 102) (by decide) ?_
                  refine r_ivi C Z (dk oX10_takeCase 38 rfl) cl_X10_187 ci_X10_isTop rfl (km hn rfl) (c_X10_isTop hn I2 J W2 C2 hq2 hw2 14 (by decide)) rfl rfl (Nat.le_of_ble_eq_true rfl) ⟨Nat.le_of_ble_eq_true rfl, Nat.le_of_ble_eq_true rfl⟩ ⟨Nat.zero_le _, Nat.zero_le _⟩ (fun r74 I74 J74 h74 => ?_)
                  obtain ⟨h74, e1_, e2_⟩ := h74
                  have e1_ := e1_.symm
                  have e2_ := e2_.symm
                  subst e1_
                  subst e2_
                  subst h74
                  refine r_if_eq (tgt := 87) C (dk oX10_takeCase 39 rfl) (by decide) (fun hb77 => ?_) (fun hb77 => ?_)
                  · rw [b32_0] at hb77
                    refine r_aload_n C 0 (dk oX10_takeCase 43 rfl) rfl ?_
                    refine r_aload_n C 0 (dk oX10_takeCase 44 rfl) rfl ?_
                    refine r_ivi C Z (dk oX10_takeCase 45 rfl) cl_X10_148 ci_X10_here rfl (km hn rfl) (c_X10_here hn I2 J t L ((hT.of (hz2.2 25 (by decide) (by decide) (by decide)) (hz2.1 141 (by decide) (by decide) (by decide)))) (a1) ((hz2.2 26 (by decide) (by decide) (by decide)).trans h26) (haL1)) rfl rfl (Nat.le_of_ble_eq_true rfl) ⟨Nat.le_of_ble_eq_true rfl, Nat.le_of_ble_eq_true rfl⟩ ⟨Nat.zero_le _, Nat.zero_le _⟩ (fun r89 I89 J89 h89 => ?_)
                    obtain ⟨e1_, hh89, hhA89, hhB89, e2_⟩ := h89
                    have e1_ := e1_.symm
                    have e2_ := e2_.symm
                    subst e1_
                    subst e2_
                    refine r_iconst C (dk oX10_takeCase 46 rfl) (v := -1) (by decide) ?_
                    refine r_icmp_ne (tgt := 107) C (dk oX10_takeCase 47 rfl) (by decide) (fun hb93 => ?_) (fun hb93 => ?_)
                    · rw [hr_n (fun h => (hT.2.2 _ h).1)] at hb93
                      refine r_iconst C (dk oX10_takeCase 53 rfl) (v := nI 0) (by decide) ?_
                      refine r_topI (show nI 0 = b32 (decide (sk t L a1 = L ∧ W2 = [])) from by
                        first
                          | exact b32_df (fun q => hb93 (by omega))
                          | exact b32_df (fun q => hb100 (by rw [q.2]; rfl))) ?_
                      refine r_iconst C (dk oX10_takeCase 54 rfl) (v := nI 1) (by decide) ?_
                      refine r_aload_n C 0 (dk oX10_takeCase 55 rfl) rfl ?_
                      refine r_getI C (dk oX10_takeCase 56 rfl) fl_X10_142 rfl (km hn rfl) ?_
                      rw [hh89]
                      refine r_ivi C Z (dk oX10_takeCase 57 rfl) cl_X10_173 ci_X10_want rfl (km hn rfl) (c_X10_want hn I89 J (decide (sk t L a1 = L ∧ W2 = [])) (nI 1) (nI (sk t L a1)) (nI 0) ((hhB89 29 (by decide)).trans ((hz2.2 29 (by decide) (by decide) (by decide)).trans h29))) rfl rfl (Nat.le_of_ble_eq_true rfl) ⟨Nat.le_of_ble_eq_true rfl, Nat.le_of_ble_eq_true rfl⟩ ⟨Nat.zero_le _, Nat.zero_le _⟩ (fun r113 I113 J113 h113 => ?_)
                      obtain ⟨e1_, hW113, e2_⟩ := h113
                      have e1_ := e1_.symm
                      have e2_ := e2_.symm
                      subst e1_
                      subst e2_
                      refine r_istore_n (lo' := [(2, _), (0, _)]) C (dk oX10_takeCase 58 rfl) rfl (by decide) rfl ?_
                      refine hret (dk oX10_takeCase 59 rfl) ?_
                      first
                        | (have hbd : mBad t L (0, sk t L a_, [], []) I1 := by
                             rcases hI with ⟨hg, a1, W1, C1, hm, hRS, _⟩ | h | ⟨_, a1, W1, C1, hRS, _⟩
                             · exact absurd hRS.zf hb59
                             · exact h
                             · exact absurd hRS.zf hb59
                           obtain ⟨f, s', W', C', h1, h2, h3, h4, h5⟩ := hbd
                           exact ⟨rfl, hX, f, s', [], h2, fun e => absurd e (by omega), fun e => absurd e (by omega), fun _ => ⟨W', C', h5⟩, h3, by rw [h4, if_neg (by omega)]⟩)
                        | (have hpop : popAO W1 C1 = (W2, C2) := by rw [← hpe]; exact pop_no hb68 hb77
                           have hse := stp_end (t := t) (L := L) (s := sk t L a1) hn41 hnA hnO hpop
                           have hX89 := (hX.tr hz2.X).tr (hereX hhA89 hhB89)
                           by_cases hP : sk t L a1 = L ∧ W2 = []
                           · have hI113 := want_f hW113 hP
                             subst hI113
                             rw [if_pos hP] at hse
                             refine ⟨rfl, hX89, 0, 0, C2, by decide, fun _ => ⟨_, by rw [hP.2] at hse; exact hr.then hse⟩, fun _ => ?_, fun e => absurd rfl e, ?_, ?_⟩
                             · have h := hq2.of (hhB89 32 (by decide)) (hhB89 35 (by decide)) (hhA89 142 (by decide)) (hhA89 143 (by decide))
                               rw [hP.2] at h
                               exact h
                             · exact (hhB89 29 (by decide)).trans ((hz2.2 29 (by decide) (by decide) (by decide)).trans h29)
                             · exact (hhB89 30 (by decide)).trans ((hz2.2 30 (by decide) (by decide) (by decide)).trans h30)
                           · have hI113 := want_t hW113 hP
                             subst hI113
                             rw [if_neg hP] at hse
                             exact ⟨rfl, (hX89.up 29 _ (by decide)).up 30 _ (by decide), 1, sk t L a1, [], by decide, fun e => absurd e (by decide), fun e => absurd e (by decide), fun _ => ⟨W2, C2, hr.then hse⟩, by rw [up2_off (by decide), up2_at], by rw [up2_at, if_neg (by decide)]⟩)
                    · rw [hr_n (fun h => (hT.2.2 _ h).1)] at hb93
                      refine r_aload_n C 0 (dk oX10_takeCase 48 rfl) rfl ?_
                      refine r_getI C (dk oX10_takeCase 49 rfl) fl_X10_181 rfl (km hn rfl) ?_
                      rw [hhB89 32 (by decide), hq2.1]
                      have hwl2 := hw2.1
                      refine r_if_ne (tgt := 107) C (dk oX10_takeCase 50 rfl) (by decide) (fun hb100 => ?_) (fun hb100 => ?_)
                      · simp (disch := omega) only [nI_leI, nI_ltI, nI_eq, nI_eq0] at hb100
                        refine r_iconst C (dk oX10_takeCase 53 rfl) (v := nI 0) (by decide) ?_
                        refine r_topI (show nI 0 = b32 (decide (sk t L a1 = L ∧ W2 = [])) from by
                          first
                            | exact b32_df (fun q => hb93 (by omega))
                            | exact b32_df (fun q => hb100 (by rw [q.2]; rfl))) ?_
                        refine r_iconst C (dk oX10_takeCase 54 rfl) (v := nI 1) (by decide) ?_
                        refine r_aload_n C 0 (dk oX10_takeCase 55 rfl) rfl ?_
                        refine r_getI C (dk oX10_takeCase 56 rfl) fl_X10_142 rfl (km hn rfl) ?_
                        rw [hh89]
                        refine r_ivi C Z (dk oX10_takeCase 57 rfl) cl_X10_173 ci_X10_want rfl (km hn rfl) (c_X10_want hn I89 J (decide (sk t L a1 = L ∧ W2 = [])) (nI 1) (nI (sk t L a1)) (nI 0) ((hhB89 29 (by decide)).trans ((hz2.2 29 (by decide) (by decide) (by decide)).trans h29))) rfl rfl (Nat.le_of_ble_eq_true rfl) ⟨Nat.le_of_ble_eq_true rfl, Nat.le_of_ble_eq_true rfl⟩ ⟨Nat.zero_le _, Nat.zero_le _⟩ (fun r113 I113 J113 h113 => ?_)
                        obtain ⟨e1_, hW113, e2_⟩ := h113
                        have e1_ := e1_.symm
                        have e2_ := e2_.symm
                        subst e1_
                        subst e2_
                        refine r_istore_n (lo' := [(2, _), (0, _)]) C (dk oX10_takeCase 58 rfl) rfl (by decide) rfl ?_
                        refine hret (dk oX10_takeCase 59 rfl) ?_
                        first
                          | (have hbd : mBad t L (0, sk t L a_, [], []) I1 := by
                               rcases hI with ⟨hg, a1, W1, C1, hm, hRS, _⟩ | h | ⟨_, a1, W1, C1, hRS, _⟩
                               · exact absurd hRS.zf hb59
                               · exact h
                               · exact absurd hRS.zf hb59
                             obtain ⟨f, s', W', C', h1, h2, h3, h4, h5⟩ := hbd
                             exact ⟨rfl, hX, f, s', [], h2, fun e => absurd e (by omega), fun e => absurd e (by omega), fun _ => ⟨W', C', h5⟩, h3, by rw [h4, if_neg (by omega)]⟩)
                          | (have hpop : popAO W1 C1 = (W2, C2) := by rw [← hpe]; exact pop_no hb68 hb77
                             have hse := stp_end (t := t) (L := L) (s := sk t L a1) hn41 hnA hnO hpop
                             have hX89 := (hX.tr hz2.X).tr (hereX hhA89 hhB89)
                             by_cases hP : sk t L a1 = L ∧ W2 = []
                             · have hI113 := want_f hW113 hP
                               subst hI113
                               rw [if_pos hP] at hse
                               refine ⟨rfl, hX89, 0, 0, C2, by decide, fun _ => ⟨_, by rw [hP.2] at hse; exact hr.then hse⟩, fun _ => ?_, fun e => absurd rfl e, ?_, ?_⟩
                               · have h := hq2.of (hhB89 32 (by decide)) (hhB89 35 (by decide)) (hhA89 142 (by decide)) (hhA89 143 (by decide))
                                 rw [hP.2] at h
                                 exact h
                               · exact (hhB89 29 (by decide)).trans ((hz2.2 29 (by decide) (by decide) (by decide)).trans h29)
                               · exact (hhB89 30 (by decide)).trans ((hz2.2 30 (by decide) (by decide) (by decide)).trans h30)
                             · have hI113 := want_t hW113 hP
                               subst hI113
                               rw [if_neg hP] at hse
                               exact ⟨rfl, (hX89.up 29 _ (by decide)).up 30 _ (by decide), 1, sk t L a1, [], by decide, fun e => absurd e (by decide), fun e => absurd e (by decide), fun _ => ⟨W2, C2, hr.then hse⟩, by rw [up2_off (by decide), up2_at], by rw [up2_at, if_neg (by decide)]⟩)
                      · simp (disch := omega) only [nI_leI, nI_ltI, nI_eq, nI_eq0] at hb100
                        refine r_iconst C (dk oX10_takeCase 51 rfl) (v := nI 1) (by decide) ?_
                        refine r_topI (show nI 1 = b32 (decide (sk t L a1 = L ∧ W2 = [])) from b32_dt ⟨by omega, List.eq_nil_of_length_eq_zero hb100⟩) ?_
                        refine r_goto (tgt := 108) C (dk oX10_takeCase 52 rfl) (by decide) ?_
                        refine r_iconst C (dk oX10_takeCase 54 rfl) (v := nI 1) (by decide) ?_
                        refine r_aload_n C 0 (dk oX10_takeCase 55 rfl) rfl ?_
                        refine r_getI C (dk oX10_takeCase 56 rfl) fl_X10_142 rfl (km hn rfl) ?_
                        rw [hh89]
                        refine r_ivi C Z (dk oX10_takeCase 57 rfl) cl_X10_173 ci_X10_want rfl (km hn rfl) (c_X10_want hn I89 J (decide (sk t L a1 = L ∧ W2 = [])) (nI 1) (nI (sk t L a1)) (nI 0) ((hhB89 29 (by decide)).trans ((hz2.2 29 (by decide) (by decide) (by decide)).trans h29))) rfl rfl (Nat.le_of_ble_eq_true rfl) ⟨Nat.le_of_ble_eq_true rfl, Nat.le_of_ble_eq_true rfl⟩ ⟨Nat.zero_le _, Nat.zero_le _⟩ (fun r113 I113 J113 h113 => ?_)
                        obtain ⟨e1_, hW113, e2_⟩ := h113
                        have e1_ := e1_.symm
                        have e2_ := e2_.symm
                        subst e1_
                        subst e2_
                        refine r_istore_n (lo' := [(2, _), (0, _)]) C (dk oX10_takeCase 58 rfl) rfl (by decide) rfl ?_
                        refine hret (dk oX10_takeCase 59 rfl) ?_
                        first
                          | (have hbd : mBad t L (0, sk t L a_, [], []) I1 := by
                               rcases hI with ⟨hg, a1, W1, C1, hm, hRS, _⟩ | h | ⟨_, a1, W1, C1, hRS, _⟩
                               · exact absurd hRS.zf hb59
                               · exact h
                               · exact absurd hRS.zf hb59
                             obtain ⟨f, s', W', C', h1, h2, h3, h4, h5⟩ := hbd
                             exact ⟨rfl, hX, f, s', [], h2, fun e => absurd e (by omega), fun e => absurd e (by omega), fun _ => ⟨W', C', h5⟩, h3, by rw [h4, if_neg (by omega)]⟩)
                          | (have hpop : popAO W1 C1 = (W2, C2) := by rw [← hpe]; exact pop_no hb68 hb77
                             have hse := stp_end (t := t) (L := L) (s := sk t L a1) hn41 hnA hnO hpop
                             have hX89 := (hX.tr hz2.X).tr (hereX hhA89 hhB89)
                             by_cases hP : sk t L a1 = L ∧ W2 = []
                             · have hI113 := want_f hW113 hP
                               subst hI113
                               rw [if_pos hP] at hse
                               refine ⟨rfl, hX89, 0, 0, C2, by decide, fun _ => ⟨_, by rw [hP.2] at hse; exact hr.then hse⟩, fun _ => ?_, fun e => absurd rfl e, ?_, ?_⟩
                               · have h := hq2.of (hhB89 32 (by decide)) (hhB89 35 (by decide)) (hhA89 142 (by decide)) (hhA89 143 (by decide))
                                 rw [hP.2] at h
                                 exact h
                               · exact (hhB89 29 (by decide)).trans ((hz2.2 29 (by decide) (by decide) (by decide)).trans h29)
                               · exact (hhB89 30 (by decide)).trans ((hz2.2 30 (by decide) (by decide) (by decide)).trans h30)
                             · have hI113 := want_t hW113 hP
                               subst hI113
                               rw [if_neg hP] at hse
                               exact ⟨rfl, (hX89.up 29 _ (by decide)).up 30 _ (by decide), 1, sk t L a1, [], by decide, fun e => absurd e (by decide), fun e => absurd e (by decide), fun _ => ⟨W2, C2, hr.then hse⟩, by rw [up2_off (by decide), up2_at], by rw [up2_at, if_neg (by decide)]⟩)
                  · rw [b32_n] at hb77
                    obtain ⟨x, W3, hx, hWe⟩ : ∃ x W3, (x = 13 ∨ x = 14) ∧ W2 = x :: W3 := by
                      first
                        | (obtain ⟨W3, h⟩ := topB_c hb68; exact ⟨13, W3, Or.inl rfl, h⟩)
                        | (obtain ⟨W3, h⟩ := topB_c hb77; exact ⟨14, W3, Or.inr rfl, h⟩)
                    have hxr : 12 ≤ x ∧ x < 15 := by omega
                    refine r_aload_n C 0 (dk oX10_takeCase 40 rfl) rfl ?_
                    refine r_ivv C Z (dk oX10_takeCase 41 rfl) cl_X10_191 ci_X10_sayTop rfl (km hn rfl) (c_X10_sayTop hn I2 J x W3 C2 (by rw [hWe] at hq2; exact hq2) (by have h := hw2.1; rw [hWe] at h; exact Nat.lt_of_lt_of_le (Nat.lt_succ_self _) h) (by have h := hb2; rw [hWe, nops_c (by omega)] at h; omega)) rfl rfl (Nat.le_of_ble_eq_true rfl) ⟨Nat.le_of_ble_eq_true rfl, Nat.le_of_ble_eq_true rfl⟩ ⟨Nat.zero_le _, Nat.zero_le _⟩ (fun I81 J81 h81 => ?_)
                    obtain ⟨e1_, e2_⟩ := h81
                    have e1_ := e1_.symm
                    have e2_ := e2_.symm
                    subst e1_
                    subst e2_
                    refine r_goto (tgt := 62) C (dk oX10_takeCase 42 rfl) (by decide) ?_
                    refine V.sub [0] rfl ?_
                    refine ih W3 (C2 ++ [x]) _ (by rw [hWe] at hd62; exact Nat.lt_of_succ_lt_succ hd62) ?_ ((by rw [hWe] at hq2; exact hq2 : mQ I2 (x :: W3) C2).pop (by omega) (by omega)) (by rw [hWe] at hw2; exact hw2.tl) (by rw [hWe, nops_c (by omega)] at hb2; rw [List.length_append]; show C2.length + 1 + nops W3 ≤ 120; omega) (by rw [hWe, opens_b hx] at ho2; exact ho2) (by rw [up2_off (by decide), up2_ne (by decide), up2_off (by decide)]; exact ho3) (((hz2.f (Or.inl rfl)).c (Or.inr rfl)).f (Or.inr (Or.inr rfl)))
                    rw [← hpe, hWe]
                    exact (popB_t (decide_eq_true (by omega))).symm
            refine V.sub [0] rfl ?_
            exact L62 (W1.length + 1) W1 C1 I1 (by omega) rfl hqE hw (by omega) rfl hoE (mzF.rf _)
        · obtain ⟨a1, W1, C1, hm, hRS, hr⟩ : ∃ a1 W1 C1, m_ = L + 2 - sk t L a1 ∧ RS I1 t L a1 W1 C1 ∧ rch t L (0, sk t L a_, [], []) (0, sk t L a1, W1, C1) := by
            rcases hI with ⟨_, h⟩ | h | ⟨h, _⟩
            · exact h
            · exact absurd hb25 h.nz
            · rw [h] at hb18
              exact absurd rfl hb18
          refine r_aload_n C 0 (dk oX10_takeCase 16 rfl) rfl ?_
          refine r_ivv C Z (dk oX10_takeCase 17 rfl) cl_X10_211 ci_X10_takeOperand rfl (km hn rfl) (c_X10_takeOperand hn I1 J t L a1 W1 C1 hL hRS (rch_ok hOK hr)) rfl rfl (Nat.le_of_ble_eq_true rfl) ⟨Nat.le_of_ble_eq_true rfl, Nat.le_of_ble_eq_true rfl⟩ ⟨Nat.zero_le _, Nat.zero_le _⟩ (fun I29 J29 h29 => ?_)
          obtain ⟨e2_, hX29, ho29⟩ := h29
          have e2_ := e2_.symm
          subst e2_
          refine r_aload_n C 0 (dk oX10_takeCase 18 rfl) rfl ?_
          refine r_getI C (dk oX10_takeCase 19 rfl) fl_X10_145 rfl (km hn rfl) ?_
          refine r_if_ne (tgt := 50) C (dk oX10_takeCase 20 rfl) (by decide) (fun hb36 => ?_) (fun hb36 => ?_)
          · have hbd : mBad t L (0, sk t L a_, [], []) I29 := by
              rcases ho29 with h | ⟨a2, W2, C2, h, _⟩
              · exact h.to hr
              · exact absurd h.zf hb36
            refine r_iconst C (dk oX10_takeCase 26 rfl) (v := nI 0) (by decide) ?_
            refine r_istore_n (lo' := [(1, _), (0, _)]) C (dk oX10_takeCase 27 rfl) rfl (by decide) rfl ?_
            refine r_goto (tgt := 17) C (dk oX10_takeCase 28 rfl) (by decide) ?_
            refine V.sub [1, 0] rfl ?_
            have hs1 : sk t L a1 ≤ L := sk_le hRS.2.2.1
            first
              | exact ih false 0 _ (by omega) (hX.tr hX29) (Or.inr (Or.inl hbd))
              | exact ih false 0 _ (by omega) ((hX.tr hX29).tr hX40) (hbj.elim (fun h => Or.inr (Or.inl h)) (fun h => Or.inr (Or.inr ⟨rfl, h⟩)))
              | exact ih true (L + 2 - sk t L a3) _ (by have : sk t L a3 ≤ L := sk_le hRS3.2.2.1; omega) ((hX.tr hX29).tr hX40) (Or.inl ⟨rfl, a3, W3, C3, rfl, hRS3, hr3⟩)
          · obtain ⟨a2, W2, C2, hRS2, hr29, hlt⟩ : ∃ a1' W1' C1', RS I29 t L a1' W1' C1' ∧ rch t L (0, sk t L a1, W1, C1) (1, sk t L a1', W1', C1') ∧ sk t L a1 < sk t L a1' := by
              rcases ho29 with h | h
              · exact absurd hb36 h.nz
              · exact h
            have hr2 := hr.trans hr29
            have hmk2 := rch_ok hOK hr2
            refine r_aload_n C 0 (dk oX10_takeCase 21 rfl) rfl ?_
            refine r_ivi C Z (dk oX10_takeCase 22 rfl) cl_X10_214 ci_X10_takeJoin rfl (km hn rfl) (c_X10_takeJoin hn I29 J t L a2 W2 C2 hL hRS2 hmk2) rfl rfl (Nat.le_of_ble_eq_true rfl) ⟨Nat.le_of_ble_eq_true rfl, Nat.le_of_ble_eq_true rfl⟩ ⟨Nat.zero_le _, Nat.zero_le _⟩ (fun r40 I40 J40 h40 => ?_)
            obtain ⟨e2_, hX40, hj40⟩ := h40
            have e2_ := e2_.symm
            subst e2_
            refine r_if_eq (tgt := 50) C (dk oX10_takeCase 23 rfl) (by decide) (fun hb43 => ?_) (fun hb43 => ?_)
            · have hbj : (mBad t L (0, sk t L a_, [], []) I40) ∨ ∃ a1 W1 C1, RS I40 t L a1 W1 C1 ∧ rch t L (0, sk t L a_, [], []) (1, sk t L a1, W1, C1) ∧ isS t L (sk t L a1) 41 = false ∧ isW t L (sk t L a1) wAnd = false ∧ isW t L (sk t L a1) wOr = false := by
                rcases hj40 with ⟨_, h⟩ | ⟨h, _⟩ | ⟨_, a3, W3, C3, h1, h2, h3⟩
                · exact Or.inl (h.to hr2)
                · rw [h] at hb43; exact absurd hb43 (by decide)
                · exact Or.inr ⟨a3, W3, C3, h1, hr2.trans h2, h3⟩
              refine r_iconst C (dk oX10_takeCase 26 rfl) (v := nI 0) (by decide) ?_
              refine r_istore_n (lo' := [(1, _), (0, _)]) C (dk oX10_takeCase 27 rfl) rfl (by decide) rfl ?_
              refine r_goto (tgt := 17) C (dk oX10_takeCase 28 rfl) (by decide) ?_
              refine V.sub [1, 0] rfl ?_
              have hs1 : sk t L a1 ≤ L := sk_le hRS.2.2.1
              first
                | exact ih false 0 _ (by omega) (hX.tr hX29) (Or.inr (Or.inl hbd))
                | exact ih false 0 _ (by omega) ((hX.tr hX29).tr hX40) (hbj.elim (fun h => Or.inr (Or.inl h)) (fun h => Or.inr (Or.inr ⟨rfl, h⟩)))
                | exact ih true (L + 2 - sk t L a3) _ (by have : sk t L a3 ≤ L := sk_le hRS3.2.2.1; omega) ((hX.tr hX29).tr hX40) (Or.inl ⟨rfl, a3, W3, C3, rfl, hRS3, hr3⟩)
            · obtain ⟨a3, W3, C3, hRS3, hr40, hle3⟩ : ∃ a3 W3 C3, RS I40 t L a3 W3 C3 ∧ rch t L (1, sk t L a2, W2, C2) (0, sk t L a3, W3, C3) ∧ sk t L a2 ≤ sk t L a3 := by
                rcases hj40 with ⟨h, _⟩ | ⟨_, h⟩ | ⟨h, _⟩
                · rw [h] at hb43; exact absurd rfl hb43
                · exact h
                · rw [h] at hb43; exact absurd rfl hb43
              have hr3 := hr2.trans hr40
              refine r_iconst C (dk oX10_takeCase 24 rfl) (v := nI 1) (by decide) ?_
              refine r_goto (tgt := 51) C (dk oX10_takeCase 25 rfl) (by decide) ?_
              refine r_istore_n (lo' := [(1, _), (0, _)]) C (dk oX10_takeCase 27 rfl) rfl (by decide) rfl ?_
              refine r_goto (tgt := 17) C (dk oX10_takeCase 28 rfl) (by decide) ?_
              refine V.sub [1, 0] rfl ?_
              have hs1 : sk t L a1 ≤ L := sk_le hRS.2.2.1
              first
                | exact ih false 0 _ (by omega) (hX.tr hX29) (Or.inr (Or.inl hbd))
                | exact ih false 0 _ (by omega) ((hX.tr hX29).tr hX40) (hbj.elim (fun h => Or.inr (Or.inl h)) (fun h => Or.inr (Or.inr ⟨rfl, h⟩)))
                | exact ih true (L + 2 - sk t L a3) _ (by have : sk t L a3 ≤ L := sk_le hRS3.2.2.1; omega) ((hX.tr hX29).tr hX40) (Or.inl ⟨rfl, a3, W3, C3, rfl, hRS3, hr3⟩)
  refine V.sub [1, 0] rfl ?_
  refine L17 (L + 2 - sk t L a_ + 1) true (L + 2 - sk t L a_) _ (by omega) ((((rdX.rf I).up 32 _ (by decide)).up 33 _ (by decide)).up 35 _ (by decide)) (Or.inl ⟨rfl, a_, [], [], rfl, ⟨hT0.of (by rw [up2_off (by decide), up2_off (by decide), up2_off (by decide)]) (by rw [up2_ne (by decide), up2_ne (by decide), up2_ne (by decide)]), by rw [up2_off (by decide), up2_off (by decide), up2_off (by decide)]; exact ha, haL, by rw [up2_off (by decide), up2_off (by decide), up2_off (by decide)]; exact hf29, by rw [up2_off (by decide), up2_off (by decide), up2_off (by decide)]; exact hf30, ⟨by rw [up2_off (by decide), up2_off (by decide), up2_at] <;> rfl, trivial, by rw [up2_at] <;> rfl, fun j hj => absurd hj (Nat.not_lt_zero _)⟩, by rw [up2_off (by decide), up2_at] <;> rfl⟩, rch.rf⟩)

end MOD12
