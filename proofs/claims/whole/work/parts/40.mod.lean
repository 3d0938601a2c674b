section MOD9
variable {l : Launch} {n : Nat} {ad : Nat → Nat} {cA : Nat → ClassId} {D : va_G} {z : Zw}
def wtR (I : MI) : List Nat → Prop
  | [] => True
  | x :: W => I 142 W.length = nI (x + 88) ∧ wtR I W
theorem wtR.of {I I' : MI} : ∀ {W : List Nat}, wtR I W → (∀ j, j < W.length → I' 142 j = I 142 j) → wtR I' W
  | [], _, _ => trivial
  | x :: W, h, hF => ⟨(hF W.length (Nat.lt_succ_self _)).trans h.1, wtR.of h.2 (fun j hj => hF j (Nat.lt_succ_of_lt hj))⟩
/-- the machine's words and its code -/
def mQ (I : MI) (W C : List Nat) : Prop := I 117 32 = nI W.length ∧ wtR I W ∧ I 117 35 = nI C.length ∧ ∀ j, j < C.length → I 143 j = nI (enc (C.getD j 0))
theorem mQ.of {I I' : MI} {W C : List Nat} (h : mQ I W C) (h1 : I' 117 32 = I 117 32) (h2 : I' 117 35 = I 117 35) (h3 : I' 142 = I 142) (h4 : I' 143 = I 143) : mQ I' W C := ⟨h1.trans h.1, h.2.1.of (fun j _ => by rw [h3]), h2.trans h.2.2.1, fun j hj => by rw [h4]; exact h.2.2.2 j hj⟩
theorem enc_88 {x : Nat} (h : 12 ≤ x) (h2 : x < 15) : enc x = x + 88 := by
  unfold enc
  rcases (by omega : x = 12 ∨ x = 13 ∨ x = 14) with rfl | rfl | rfl <;> rfl
theorem mQ_app {I : MI} {C : List Nat} {x : Nat} {v : Int32} (h : ∀ j, j < C.length → I 143 j = nI (enc (C.getD j 0))) (hv : v = nI (enc x)) : ∀ j, j < (C ++ [x]).length → up2 I 143 C.length v 143 j = nI (enc ((C ++ [x]).getD j 0)) := by
  intro j hj
  rw [List.length_append] at hj
  have hj : j < C.length + 1 := hj
  by_cases e : j = C.length
  · subst e
    rw [up2_at, hv]
    congr 2
    simp [List.getD]
  · rw [up2_off e, h j (by omega)]
    congr 2
    simp [List.getD, List.getElem?_append_left (show j < C.length by omega)]
theorem mQ.pop {I : MI} {W C : List Nat} {x : Nat} (h : mQ I (x :: W) C) (h1 : 12 ≤ x) (h2 : x < 15) : mQ (up2 (up2 (up2 I 117 32 (nI W.length)) 143 C.length (nI (x + 88))) 117 35 (nI (C.length + 1))) W (C ++ [x]) := by
  obtain ⟨a, b, c, d⟩ := h
  refine ⟨?_, b.2.of (fun j _ => by rw [up2_ne (by decide), up2_ne (by decide), up2_ne (by decide)]), ?_, fun j hj => ?_⟩
  · rw [up2_off (by decide), up2_ne (by decide), up2_at]
  · rw [up2_at, List.length_append]; rfl
  · rw [up2_ne (by decide)]
    exact mQ_app (I := up2 I 117 32 (nI W.length)) (fun j hj => by rw [up2_ne (by decide)]; exact d j hj) (by rw [enc_88 h1 h2]) j hj
theorem mQ.say {I : MI} {W C : List Nat} {x : Nat} (h : mQ I W C) (h2 : x < 12) : mQ (up2 (up2 I 143 C.length (nI x)) 117 35 (nI (C.length + 1))) W (C ++ [x]) := by
  obtain ⟨a, b, c, d⟩ := h
  refine ⟨?_, b.of (fun j _ => by rw [up2_ne (by decide), up2_ne (by decide)]), ?_, fun j hj => ?_⟩
  · rw [up2_off (by decide), up2_ne (by decide)]; exact a
  · rw [up2_at, List.length_append]; rfl
  · rw [up2_ne (by decide)]
    exact mQ_app d (by rw [enc_id h2]) j hj
theorem mQ.push {I : MI} {W C : List Nat} {x : Nat} (h : mQ I W C) : mQ (up2 (up2 I 142 W.length (nI (x + 88))) 117 32 (nI (W.length + 1))) (x :: W) C := by
  obtain ⟨a, b, c, d⟩ := h
  refine ⟨?_, ⟨by rw [up2_ne (by decide), up2_at], b.of (fun j hj => by rw [up2_ne (by decide), up2_off (by omega)])⟩, ?_, fun j hj => ?_⟩
  · rw [up2_at]; rfl
  · rw [up2_off (by decide), up2_ne (by decide)]; exact c
  · rw [up2_ne (by decide), up2_ne (by decide)]; exact d j hj
def topB (y : Nat) : List Nat → Bool
  | [] => false
  | x :: _ => decide (x = y)
theorem topB_n {q : Nat → Bool} {W : List Nat} (h : ∀ y, q y = true → topB y W = false) : topN q W := by
  intro x W' e
  subst e
  cases hq : q x
  · rfl
  · have := h x hq
    exact absurd rfl (of_decide_eq_false this)
theorem topB_c {y : Nat} {W : List Nat} (h : topB y W = true) : ∃ W', W = y :: W' := by
  cases W with
  | nil => cases h
  | cons x W => exact ⟨W, by rw [of_decide_eq_true h]⟩
/-- words, code and how many are open change -/
def mzF (I I' : MI) : Prop := (∀ k, k ≠ 117 → k ≠ 142 → k ≠ 143 → I' k = I k) ∧ ∀ i, i ≠ 32 → i ≠ 33 → i ≠ 35 → I' 117 i = I 117 i
theorem mzF.rf (I : MI) : mzF I I := ⟨fun _ _ _ _ => rfl, fun _ _ _ _ => rfl⟩
theorem mzF.trans {I I1 I2 : MI} (h1 : mzF I I1) (h2 : mzF I1 I2) : mzF I I2 := ⟨fun k a b c => (h2.1 k a b c).trans (h1.1 k a b c), fun k a b c => (h2.2 k a b c).trans (h1.2 k a b c)⟩
theorem mzF.f {I I1 : MI} (h : mzF I I1) {i : Nat} {v : Int32} (hi : i = 32 ∨ i = 33 ∨ i = 35) : mzF I (up2 I1 117 i v) := ⟨fun k a b c => by rw [up2_ne a]; exact h.1 k a b c, fun q a b c => by rw [up2_off (by omega)]; exact h.2 q a b c⟩
theorem mzF.c {I I1 : MI} (h : mzF I I1) {k i : Nat} {v : Int32} (hk : k = 142 ∨ k = 143) : mzF I (up2 I1 k i v) := ⟨fun q a b c => by rw [up2_ne (by omega)]; exact h.1 q a b c, fun q a b c => by rw [up2_ne (by omega)]; exact h.2 q a b c⟩
/-- what stands in wait -/
def wOK (W : List Nat) : Prop := W.length ≤ 60 ∧ ∀ x ∈ W, 12 ≤ x ∧ x < 16
theorem wOK.tl {x : Nat} {W : List Nat} (h : wOK (x :: W)) : wOK W := ⟨Nat.le_of_succ_le h.1, fun y hy => h.2 y (List.mem_cons_of_mem _ hy)⟩
theorem WOK_mem : ∀ W, WOK W → ∀ x ∈ W, 12 ≤ x ∧ x < 16
  | [], _, x, hx => absurd hx List.not_mem_nil
  | y :: W, h, x, hx => by
    rcases List.mem_cons.mp hx with e | e
    · subst e
      rcases h.1 with h1 | h1 | h1 | h1 <;> omega
    · exact WOK_mem W h.2 x e
theorem WOK.w {W : List Nat} (h : WOK W) (ho : opens W ≤ 8) : wOK W := ⟨by
  have h1 := WOK_len W h
  have h2 := (WOK_bins W h).1
  omega, WOK_mem W h⟩
theorem nops_c {x : Nat} {W : List Nat} (h : ¬ x = 15) : nops (x :: W) = nops W + 1 := by simp [nops, List.countP_cons, h]
theorem opens_o {x : Nat} {W : List Nat} (h : x = 12 ∨ x = 15) : opens (x :: W) = opens W + 1 := by
  rcases h with rfl | rfl <;> simp [opens, List.countP_cons]
theorem opens_b {x : Nat} {W : List Nat} (h : x = 13 ∨ x = 14) : opens (x :: W) = opens W := by
  rcases h with rfl | rfl <;> simp [opens, List.countP_cons]
set_option maxHeartbeats 1000000 in
set_option maxRecDepth 100000 in
theorem c_X10_say (hn : 148 ≤ n) (I : MI) (J : MJ) (k_ : Nat) (hk : I 117 35 = nI k_) (hk2 : k_ < 120) (x : Int32) : Cv l n ad cA D z 0 yX10_say cX10_say 2 I J [.ref (ad 117), .int x] (fun I' J' => I' = up2 (up2 I 143 k_ x) 117 35 (nI (k_ + 1)) ∧ J' = J) := by
  refine Cv.of (by decide) (Nat.le_of_ble_eq_true rfl) ?_
  intro p e s m args below meth c A C hin Z Q hret
  refine r_aload_n C 0 (dk oX10_say 0 rfl) rfl ?_
  refine r_getR C (dk oX10_say 1 rfl) fl_X10_90 rfl (km hn rfl) ?_
  refine r_aload_n C 0 (dk oX10_say 2 rfl) rfl ?_
  refine r_getI C (dk oX10_say 3 rfl) fl_X10_178 rfl (km hn rfl) ?_
  rw [hk]
  refine r_iload_n C 1 (dk oX10_say 4 rfl) rfl ?_
  refine r_iast C _ (dk oX10_say 5 rfl) rfl (km hn rfl) rfl (by omega) (by decide) ?_
  refine r_aload_n C 0 (dk oX10_say 6 rfl) rfl ?_
  refine r_dup C (dk oX10_say 7 rfl) rfl ?_
  refine r_getI C (dk oX10_say 8 rfl) fl_X10_178 rfl (km hn rfl) ?_
  rw [up2_ne (by decide), hk]
  refine r_iconst C (dk oX10_say 9 rfl) (v := nI 1) (by decide) ?_
  refine r_iadd C (dk oX10_say 10 rfl) ?_
  rw [nI_add]
  refine r_putI C (dk oX10_say 11 rfl) fl_X10_178 ft_10_35 rfl (km hn rfl) ?_
  refine hret (dk oX10_say 12 rfl) ?_
  exact ⟨rfl, rfl⟩

set_option maxHeartbeats 1000000 in
set_option maxRecDepth 100000 in
theorem c_X10_push (hn : 148 ≤ n) (I : MI) (J : MJ) (k_ : Nat) (hk : I 117 32 = nI k_) (hk2 : k_ < 64) (x : Int32) : Cv l n ad cA D z 0 yX10_push cX10_push 2 I J [.ref (ad 117), .int x] (fun I' J' => I' = up2 (up2 I 142 k_ x) 117 32 (nI (k_ + 1)) ∧ J' = J) := by
  refine Cv.of (by decide) (Nat.le_of_ble_eq_true rfl) ?_
  intro p e s m args below meth c A C hin Z Q hret
  refine r_aload_n C 0 (dk oX10_push 0 rfl) rfl ?_
  refine r_getR C (dk oX10_push 1 rfl) fl_X10_87 rfl (km hn rfl) ?_
  refine r_aload_n C 0 (dk oX10_push 2 rfl) rfl ?_
  refine r_getI C (dk oX10_push 3 rfl) fl_X10_181 rfl (km hn rfl) ?_
  rw [hk]
  refine r_iload_n C 1 (dk oX10_push 4 rfl) rfl ?_
  refine r_iast C _ (dk oX10_push 5 rfl) rfl (km hn rfl) rfl (by omega) (by decide) ?_
  refine r_aload_n C 0 (dk oX10_push 6 rfl) rfl ?_
  refine r_dup C (dk oX10_push 7 rfl) rfl ?_
  refine r_getI C (dk oX10_push 8 rfl) fl_X10_181 rfl (km hn rfl) ?_
  rw [up2_ne (by decide), hk]
  refine r_iconst C (dk oX10_push 9 rfl) (v := nI 1) (by decide) ?_
  refine r_iadd C (dk oX10_push 10 rfl) ?_
  rw [nI_add]
  refine r_putI C (dk oX10_push 11 rfl) fl_X10_181 ft_10_32 rfl (km hn rfl) ?_
  refine hret (dk oX10_push 12 rfl) ?_
  exact ⟨rfl, rfl⟩

set_option maxHeartbeats 1000000 in
set_option maxRecDepth 100000 in
theorem c_X10_isTop (hn : 148 ≤ n) (I : MI) (J : MJ) (W C_ : List Nat) (hq : mQ I W C_) (hw : wOK W) (y : Nat) (hy : y < 16) : Ci l n ad cA D z 0 yX10_isTop cX10_isTop 2 .boolean I J [.ref (ad 117), .int (nI (y + 88))] (fun r I' J' => r = b32 (topB y W) ∧ I' = I ∧ J' = J) := by
  refine Ci.of (by decide) (Nat.le_of_ble_eq_true rfl) ?_
  intro p e s m args below meth c A C hin Z Q hret
  have hwl := hw.1
  refine r_aload_n C 0 (dk oX10_isTop 0 rfl) rfl ?_
  refine r_getI C (dk oX10_isTop 1 rfl) fl_X10_181 rfl (km hn rfl) ?_
  rw [hq.1]
  refine r_if_le (tgt := 26) C (dk oX10_isTop 2 rfl) (by decide) (fun hb4 => ?_) (fun hb4 => ?_)
  · rw [show (0 : Int32) = nI 0 from rfl] at hb4
    simp (disch := omega) only [nI_leI, nI_ltI, nI_eq, nI_eq0] at hb4
    refine r_iconst C (dk oX10_isTop 14 rfl) (v := nI 0) (by decide) ?_
    refine hret (dk oX10_isTop 15 rfl) (by first | rfl | decide) ?_
    first
      | exact ⟨b32_dt (show x = y by omega), rfl, rfl⟩
      | exact ⟨b32_df (show ¬ x = y by omega), rfl, rfl⟩
      | (have h0 : W = [] := List.eq_nil_of_length_eq_zero (by omega)
         subst h0
         exact ⟨rfl, rfl, rfl⟩)
  · rw [show (0 : Int32) = nI 0 from rfl] at hb4
    simp (disch := omega) only [nI_leI, nI_ltI, nI_eq, nI_eq0] at hb4
    have hb4 : 0 < W.length := by omega
    refine r_aload_n C 0 (dk oX10_isTop 3 rfl) rfl ?_
    refine r_getR C (dk oX10_isTop 4 rfl) fl_X10_87 rfl (km hn rfl) ?_
    refine r_aload_n C 0 (dk oX10_isTop 5 rfl) rfl ?_
    refine r_getI C (dk oX10_isTop 6 rfl) fl_X10_181 rfl (km hn rfl) ?_
    rw [hq.1]
    refine r_iconst C (dk oX10_isTop 7 rfl) (v := nI 1) (by decide) ?_
    refine r_isub C (dk oX10_isTop 8 rfl) ?_
    rw [pk_sub (by omega)]
    refine r_iald C _ (dk oX10_isTop 9 rfl) rfl (km hn rfl) rfl (by omega) (by decide) ?_
    obtain ⟨x, W', hWe⟩ : ∃ x W', W = x :: W' := by
      cases W with
      | nil => exact absurd rfl (Nat.ne_of_gt hb4)
      | cons x W' => exact ⟨x, W', rfl⟩
    subst hWe
    have hx := (hw.2 x (List.mem_cons_self ..)).2
    rw [show (x :: W').length - 1 = W'.length from rfl, hq.2.1.1]
    refine r_iload_n C 1 (dk oX10_isTop 10 rfl) rfl ?_
    refine r_icmp_ne (tgt := 26) C (dk oX10_isTop 11 rfl) (by decide) (fun hb19 => ?_) (fun hb19 => ?_)
    · simp (disch := omega) only [nI_leI, nI_ltI, nI_eq, nI_eq0] at hb19
      refine r_iconst C (dk oX10_isTop 14 rfl) (v := nI 0) (by decide) ?_
      refine hret (dk oX10_isTop 15 rfl) (by first | rfl | decide) ?_
      first
        | exact ⟨b32_dt (show x = y by omega), rfl, rfl⟩
        | exact ⟨b32_df (show ¬ x = y by omega), rfl, rfl⟩
        | (have h0 : W = [] := List.eq_nil_of_length_eq_zero (by omega)
           subst h0
           exact ⟨rfl, rfl, rfl⟩)
    · simp (disch := omega) only [nI_leI, nI_ltI, nI_eq, nI_eq0] at hb19
      refine r_iconst C (dk oX10_isTop 12 rfl) (v := nI 1) (by decide) ?_
      refine r_goto (tgt := 27) C (dk oX10_isTop 13 rfl) (by decide) ?_
      refine hret (dk oX10_isTop 15 rfl) (by first | rfl | decide) ?_
      first
        | exact ⟨b32_dt (show x = y by omega), rfl, rfl⟩
        | exact ⟨b32_df (show ¬ x = y by omega), rfl, rfl⟩
        | (have h0 : W = [] := List.eq_nil_of_length_eq_zero (by omega)
           subst h0
           exact ⟨rfl, rfl, rfl⟩)

set_option maxHeartbeats 1000000 in
set_option maxRecDepth 100000 in
theorem c_X10_sayTop (hn : 148 ≤ n) (I : MI) (J : MJ) (x : Nat) (W C_ : List Nat) (hq : mQ I (x :: W) C_) (hwl : W.length < 60) (hcl : C_.length < 120) : Cv l n ad cA D z 1 yX10_sayTop cX10_sayTop 1 I J [.ref (ad 117)] (fun I' J' => I' = up2 (up2 (up2 I 117 32 (nI W.length)) 143 C_.length (nI (x + 88))) 117 35 (nI (C_.length + 1)) ∧ J' = J) := by
  refine Cv.of (by decide) (Nat.le_of_ble_eq_true rfl) ?_
  intro p e s m args below meth c A C hin Z Q hret
  refine r_aload_n C 0 (dk oX10_sayTop 0 rfl) rfl ?_
  refine r_dup C (dk oX10_sayTop 1 rfl) rfl ?_
  refine r_getI C (dk oX10_sayTop 2 rfl) fl_X10_181 rfl (km hn rfl) ?_
  rw [hq.1, show (x :: W).length = W.length + 1 from rfl]
  refine r_iconst C (dk oX10_sayTop 3 rfl) (v := nI 1) (by decide) ?_
  refine r_isub C (dk oX10_sayTop 4 rfl) ?_
  rw [pk_sub (by omega), Nat.add_sub_cancel]
  refine r_putI C (dk oX10_sayTop 5 rfl) fl_X10_181 ft_10_32 rfl (km hn rfl) ?_
  refine r_aload_n C 0 (dk oX10_sayTop 6 rfl) rfl ?_
  refine r_aload_n C 0 (dk oX10_sayTop 7 rfl) rfl ?_
  refine r_getR C (dk oX10_sayTop 8 rfl) fl_X10_87 rfl (km hn rfl) ?_
  refine r_aload_n C 0 (dk oX10_sayTop 9 rfl) rfl ?_
  refine r_getI C (dk oX10_sayTop 10 rfl) fl_X10_181 rfl (km hn rfl) ?_
  rw [up2_at]
  refine r_iald C _ (dk oX10_sayTop 11 rfl) rfl (km hn rfl) rfl (by omega) (by decide) ?_
  rw [up2_ne (by decide), hq.2.1.1]
  refine r_ivv C Z (dk oX10_sayTop 12 rfl) cl_X10_184 ci_X10_say rfl (km hn rfl) (c_X10_say hn (up2 I 117 32 (nI W.length)) J C_.length (by rw [up2_off (by decide)]; exact hq.2.2.1) hcl (nI (x + 88))) rfl rfl (Nat.le_of_ble_eq_true rfl) ⟨Nat.le_of_ble_eq_true rfl, Nat.le_of_ble_eq_true rfl⟩ ⟨Nat.zero_le _, Nat.zero_le _⟩ (fun I20 J20 h20 => ?_)
  obtain ⟨e1_, e2_⟩ := h20
  have e1_ := e1_.symm
  have e2_ := e2_.symm
  subst e1_
  subst e2_
  refine hret (dk oX10_sayTop 13 rfl) ?_
  exact ⟨rfl, rfl⟩

set_option maxHeartbeats 1000000 in
set_option maxRecDepth 100000 in
theorem c_X10_closeNots (hn : 148 ≤ n) (I : MI) (J : MJ) (W_ C_ : List Nat) (hq : mQ I W_ C_) (hw : wOK W_) (hb : C_.length + nops W_ ≤ 120) (ho : I 117 33 = nI (opens W_)) : Cv l n ad cA D z 2 yX10_closeNots cX10_closeNots 1 I J [.ref (ad 117)] (fun I' J' => mQ I' (clW W_ C_).1 (clW W_ C_).2 ∧ I' 117 33 = nI (opens (clW W_ C_).1) ∧ mzF I I' ∧ J' = J) := by
  refine Cv.of (by decide) (Nat.le_of_ble_eq_true rfl) ?_
  intro p e s m args below meth c A C hin Z Q hret
  have L0 : ∀ (d_ : Nat) (W1 C1 : List Nat) (I1 : MI), W1.length < d_ → clW W1 C1 = clW W_ C_ → mQ I1 W1 C1 → wOK W1 → C1.length + nops W1 ≤ 120 → I1 117 33 = nI (opens W1) → mzF I I1 → V p l e (rmL 2) s m args below meth c Q D A 1 0 0 n ad (mE cA ad I1 J) 0 [(0, .ref (ad 117))] [] := by
    intro d_
    induction d_ with
    | zero => intros; exact absurd (by assumption) (Nat.not_lt_zero _)
    | succ d_ ih => 
      intro W1 C1 I1 hd_ hcl hq1 hw1 hb1 ho1 hz
      refine r_aload_n C 0 (dk oX10_closeNots 0 rfl) rfl ?_
      refine r_bipush C (dk oX10_closeNots 1 rfl) (v := nI 100) (by decide) ?_
      refine r_ivi C Z (dk oX10_closeNots 2 rfl) cl_X10_187 ci_X10_isTop rfl (km hn rfl) (c_X10_isTop hn I1 J W1 C1 hq1 hw1 12 (by decide)) rfl rfl (Nat.le_of_ble_eq_true rfl) ⟨Nat.le_of_ble_eq_true rfl, Nat.le_of_ble_eq_true rfl⟩ ⟨Nat.zero_le _, Nat.zero_le _⟩ (fun r3 I3 J3 h3 => ?_)
      obtain ⟨h3, e1_, e2_⟩ := h3
      have e1_ := e1_.symm
      have e2_ := e2_.symm
      subst e1_
      subst e2_
      subst h3
      refine r_if_eq (tgt := 26) C (dk oX10_closeNots 3 rfl) (by decide) (fun hb6 => ?_) (fun hb6 => ?_)
      · rw [b32_0] at hb6
        refine hret (dk oX10_closeNots 13 rfl) ?_
        have hid : clW W1 C1 = (W1, C1) := popB_id (topB_n (fun y hy => by rw [of_decide_eq_true hy]; exact hb6))
        rw [← hcl, hid]
        exact ⟨hq1, ho1, hz, rfl⟩
      · rw [b32_n] at hb6
        obtain ⟨W3, hWe⟩ := topB_c hb6
        have hq2 := hq1
        rw [hWe] at hq2
        have hw2 := hw1
        rw [hWe] at hw2
        have hwl2 : W3.length + 1 ≤ 60 := hw2.1
        have hb2 := hb1
        rw [hWe, nops_c (by decide)] at hb2
        refine r_aload_n C 0 (dk oX10_closeNots 4 rfl) rfl ?_
        refine r_ivv C Z (dk oX10_closeNots 5 rfl) cl_X10_191 ci_X10_sayTop rfl (km hn rfl) (c_X10_sayTop hn I1 J 12 W3 C1 hq2 (by omega) (by omega)) rfl rfl (Nat.le_of_ble_eq_true rfl) ⟨Nat.le_of_ble_eq_true rfl, Nat.le_of_ble_eq_true rfl⟩ ⟨Nat.zero_le _, Nat.zero_le _⟩ (fun I10 J10 h10 => ?_)
        obtain ⟨e1_, e2_⟩ := h10
        have e1_ := e1_.symm
        have e2_ := e2_.symm
        subst e1_
        subst e2_
        refine r_aload_n C 0 (dk oX10_closeNots 6 rfl) rfl ?_
        refine r_dup C (dk oX10_closeNots 7 rfl) rfl ?_
        refine r_getI C (dk oX10_closeNots 8 rfl) fl_X10_194 rfl (km hn rfl) ?_
        rw [up2_off (by decide), up2_ne (by decide), up2_off (by decide), ho1, hWe, opens_o (Or.inl rfl)]
        refine r_iconst C (dk oX10_closeNots 9 rfl) (v := nI 1) (by decide) ?_
        refine r_isub C (dk oX10_closeNots 10 rfl) ?_
        rw [pk_sub (by omega), Nat.add_sub_cancel]
        refine r_putI C (dk oX10_closeNots 11 rfl) fl_X10_194 ft_10_33 rfl (km hn rfl) ?_
        refine r_goto (tgt := 0) C (dk oX10_closeNots 12 rfl) (by decide) ?_
        refine V.sub [0] rfl ?_
        have hlen : W1.length = W3.length + 1 := by rw [hWe]; rfl
        refine ih W3 (C1 ++ [12]) _ (by omega) ?_ ((hq2.pop (by decide) (by decide)).of (by rw [up2_off (by decide)]) (by rw [up2_off (by decide)]) (up2_ne (by decide)) (up2_ne (by decide))) hw2.tl (by rw [List.length_append]; show C1.length + 1 + nops W3 ≤ 120; omega) up2_at ((((hz.f (Or.inl rfl)).c (Or.inr rfl)).f (Or.inr (Or.inr rfl))).f (Or.inr (Or.inl rfl)))
        rw [← hcl, hWe]
        exact (popB_t rfl).symm
  refine V.sub [0] rfl ?_
  exact L0 (W_.length + 1) W_ C_ I (by omega) rfl hq hw hb ho (mzF.rf I)

end MOD9
