/-! The reading of a claim, in the component: cell 3 (2 size, 3 coins, 4 factSet), its code: cell 4. -/
def fsN (K : List Nat) : Nat := K.foldl (fun a x => if x < 12 then a ||| 2 ^ x else a) 0
theorem fsN_app (K : List Nat) (x : Nat) : fsN (K ++ [x]) = if x < 12 then fsN K ||| 2 ^ x else fsN K := by unfold fsN; rw [List.foldl_append]; rfl
theorem shl1 {f : Nat} (h : f < 31) : nI 1 <<< (nI f &&& 31) = nI (2 ^ f) := by
  have := pk_shlN (n := 1) (nI f &&& 31) f (s_l f (by omega)) (by rw [Nat.one_mul]; exact Nat.pow_lt_pow_right (by decide) (by omega))
  rw [Nat.one_mul] at this
  exact this
def Cd (I : MI) (K : List Nat) : Prop := K.length ≤ 120 ∧ I 3 2 = nI K.length ∧ (∀ j, j < K.length → I 4 j = nI (K.getD j 0)) ∧ I 3 4 = nI (fsN K)
def rdF (I I' : MI) : Prop := (∀ k, k ≠ 1 → k ≠ 3 → k ≠ 4 → I' k = I k) ∧ I' 1 1 = I 1 1 ∧ I' 3 3 = I 3 3
theorem rdF.rf (I : MI) : rdF I I := ⟨fun _ _ _ _ => rfl, rfl, rfl⟩
theorem rdF.trans {I I1 I2 : MI} (h1 : rdF I I1) (h2 : rdF I1 I2) : rdF I I2 := ⟨fun k a b c => (h2.1 k a b c).trans (h1.1 k a b c), h2.2.1.trans h1.2.1, h2.2.2.trans h1.2.2⟩
theorem txG.R {I I' : MI} (h : txG I I') : rdF I I' := ⟨fun k a _ _ => h.1 k a, h.2, by rw [h.1 3 (by decide)]⟩
theorem Tx.ofR {I I' : MI} {t : Nat → Nat} {L : Nat} (h : Tx I t L) (hf : rdF I I') : Tx I' t L := ⟨h.1, by rw [hf.2.1]; exact h.2.1, fun j hj => by rw [hf.1 2 (by decide) (by decide) (by decide)]; exact h.2.2 j hj⟩
theorem Cd.ofG {I I' : MI} {K : List Nat} (h : Cd I K) (hf : txG I I') : Cd I' K := ⟨h.1, by rw [hf.1 3 (by decide)]; exact h.2.1, fun j hj => by rw [hf.1 4 (by decide)]; exact h.2.2.1 j hj, by rw [hf.1 3 (by decide)]; exact h.2.2.2⟩
def emi (I : MI) (k x : Nat) : MI := if k < 120 then up2 (up2 I 4 k (nI x)) 3 2 (nI (k + 1)) else I
theorem emi_R (I : MI) (k x : Nat) : rdF I (emi I k x) := by
  unfold emi
  split
  · exact ⟨fun j a b c => by rw [up2_ne b, up2_ne c], by rw [up2_ne (by decide), up2_ne (by decide)], by rw [up2_off (by decide), up2_ne (by decide)]⟩
  · exact rdF.rf I
theorem emi_1 (I : MI) (k x : Nat) : emi I k x 1 = I 1 := by
  unfold emi
  split
  · rw [up2_ne (by decide), up2_ne (by decide)]
  · rfl
theorem emi_sz (I : MI) (k x : Nat) (h : I 3 2 = nI k) (hk : k ≤ 120) : ∃ j, j ≤ 120 ∧ emi I k x 3 2 = nI j := by
  unfold emi
  split
  · exact ⟨k + 1, by omega, up2_at⟩
  · exact ⟨k, hk, h⟩
theorem Cd.em {I : MI} {K : List Nat} {x : Nat} (h : Cd I K) (hk : K.length < 120) (hx : 12 ≤ x) : Cd (emi I K.length x) (K ++ [x]) := by
  obtain ⟨h1, h2, h3, h4⟩ := h
  unfold emi
  rw [if_pos hk]
  refine ⟨by rw [List.length_append]; simp only [List.length_cons, List.length_nil]; omega, ?_, fun j hj => ?_, ?_⟩
  · rw [up2_at, List.length_append]; rfl
  · rw [up2_ne (by decide)]
    rw [List.length_append] at hj
    simp only [List.length_cons, List.length_nil] at hj
    rcases Nat.lt_or_ge j K.length with q | q
    · rw [up2_off (by omega), h3 j q]; simp [List.getD, List.getElem?_append_left q]
    · rw [show j = K.length by omega, up2_at]
      simp [List.getD]
  · rw [up2_off (by decide), up2_ne (by decide), h4, fsN_app, if_neg (by omega)]
theorem Tk.of1 {I I' : MI} {t : Nat → Nat} {L s : Nat} (h : Tk I t L s) (e : I' 1 = I 1) : Tk I' t L s := ⟨h.1, by rw [e]; exact h.2.1, by rw [e]; exact h.2.2.1, by rw [e]; exact h.2.2.2⟩
/-- ahead of an operand -/
def rdP (t : Nat → Nat) (L s : Nat) (W K : List Nat) (d : Nat) (I : MI) : Prop := Tx I t L ∧ L ≤ 120 ∧ Tk I t L s ∧ I 1 5 = nI 0 ∧ Cd I K ∧ mOK L (0, s, W, K) ∧ opens W = d ∧ I 1 6 = -1
def rdBad (t : Nat → Nat) (L : Nat) (σ : MS) (I' : MI) : Prop := (∃ f s' W' C', 0 < f ∧ f < 4 ∧ I' 1 5 = nI f ∧ I' 1 6 = nI s' ∧ rch t L σ (10 + f, s', W', C')) ∧ ∃ k, k ≤ 120 ∧ I' 3 2 = nI k
theorem rdBad.to {t : Nat → Nat} {L : Nat} {σ τ : MS} {I' : MI} (h : rdBad t L τ I') (hr : rch t L σ τ) : rdBad t L σ I' := by
  obtain ⟨⟨f, s', W', C', h1, h2, h3, h4, h5⟩, h6⟩ := h
  exact ⟨⟨f, s', W', C', h1, h2, h3, h4, hr.trans h5⟩, h6⟩
theorem rdBad.em {t : Nat → Nat} {L : Nat} {σ : MS} {I' : MI} {k x : Nat} (h : rdBad t L σ I') (hk : I' 3 2 = nI k) (hk2 : k ≤ 120) : rdBad t L σ (emi I' k x) := by
  obtain ⟨⟨f, s', W', C', h1, h2, h3, h4, h5⟩, -⟩ := h
  exact ⟨⟨f, s', W', C', h1, h2, by rw [emi_1]; exact h3, by rw [emi_1]; exact h4, h5⟩, emi_sz I' k x hk hk2⟩
def rdOne (t : Nat → Nat) (L s : Nat) (W K : List Nat) (I' : MI) : Prop := ∃ s' c, I' 1 5 = nI 0 ∧ Tk I' t L s' ∧ Cd I' (K ++ c) ∧ s < s' ∧ rch t L (0, s, W, K) (1, s', clW W (K ++ c)) ∧ I' 1 6 = -1
def rdAll (t : Nat → Nat) (L s : Nat) (W K : List Nat) (I' : MI) : Prop := ∃ s' c W1 C1, I' 1 5 = nI 0 ∧ Tk I' t L s' ∧ Cd I' (K ++ c) ∧ s < s' ∧ rch t L (0, s, W, K) (1, s', W1, C1) ∧ popA W1 C1 = (W, K ++ c) ∧ isW t L s' wAnd = false ∧ I' 1 6 = -1
def rdAny (t : Nat → Nat) (L s : Nat) (W K : List Nat) (I' : MI) : Prop := ∃ s' c W1 C1, I' 1 5 = nI 0 ∧ Tk I' t L s' ∧ Cd I' (K ++ c) ∧ s < s' ∧ rch t L (0, s, W, K) (1, s', W1, C1) ∧ popAO W1 C1 = (W, K ++ c) ∧ isW t L s' wAnd = false ∧ isW t L s' wOr = false ∧ I' 1 6 = -1
def rdAllI (t : Nat → Nat) (L s : Nat) (W K : List Nat) (m : Nat) (I' : MI) : Prop := ∃ fn, fn < 4 ∧ I' 1 5 = nI fn ∧ (fn ≠ 0 → rdBad t L (0, s, W, K) I') ∧ (fn = 0 → ∃ s' c W1 C1, Tk I' t L s' ∧ Cd I' (K ++ c) ∧ s + m < s' ∧ rch t L (0, s, W, K) (1, s', W1, C1) ∧ popA W1 C1 = (W, K ++ c) ∧ I' 1 6 = -1)
def rdAnyI (t : Nat → Nat) (L s : Nat) (W K : List Nat) (m : Nat) (I' : MI) : Prop := ∃ fn, fn < 4 ∧ I' 1 5 = nI fn ∧ (fn ≠ 0 → rdBad t L (0, s, W, K) I') ∧ (fn = 0 → ∃ s' c W1 C1, Tk I' t L s' ∧ Cd I' (K ++ c) ∧ s + m < s' ∧ rch t L (0, s, W, K) (1, s', W1, C1) ∧ popAO W1 C1 = (W, K ++ c) ∧ isW t L s' wAnd = false ∧ I' 1 6 = -1)
theorem popB_len {q : Nat → Bool} : ∀ (W C : List Nat), C.length ≤ (popB q W C).2.length
  | [], C => Nat.le_refl _
  | x :: W, C => by
    by_cases h : q x = true
    · rw [popB_t h]
      exact Nat.le_trans (by rw [List.length_append]; exact Nat.le_add_right _ _) (popB_len W (C ++ [x]))
    · rw [popB_f (by simpa using h)]
      exact Nat.le_refl _
theorem rmR {h h' maxL : Nat} (hh : h < h') (hm : maxL ≤ 80) : h + 1 ≤ (rmL h').frames ∧ 8 + (maxL + 11) + 100 * h ≤ (rmL h').locals := by
  unfold rmL
  dsimp only
  omega
theorem opens_13 {W : List Nat} : opens (13 :: W) = opens W := by simp [opens, List.countP_cons]
theorem opens_14 {W : List Nat} : opens (14 :: W) = opens W := by simp [opens, List.countP_cons]
theorem opens_12 {W : List Nat} : opens (12 :: W) = opens W + 1 := by simp [opens, List.countP_cons]
theorem opens_15 {W : List Nat} : opens (15 :: W) = opens W + 1 := by simp [opens, List.countP_cons]
-- the steps
theorem stp_open {t : Nat → Nat} {L s : Nat} {W K : List Nat} (a : isS t L s 40 = true) (b : opens W < 8) : stp t L (0, s, W, K) = (0, sk t L (s + 1), 15 :: W, K) := by
  unfold stp; dsimp only; rw [if_pos rfl, if_pos a, if_pos b]
theorem stp_openF {t : Nat → Nat} {L s : Nat} {W K : List Nat} (a : isS t L s 40 = true) (b : ¬ opens W < 8) : stp t L (0, s, W, K) = (13, s, W, K) := by
  unfold stp; dsimp only; rw [if_pos rfl, if_pos a, if_neg b]
theorem isS_W {t : Nat → Nat} {L s ch : Nat} {w : List Nat} (hw : 0 < w.length) (h : isW t L s w = true) (hc : isLt ch = false) : isS t L s ch = false := by
  have h1 := (of_decide_eq_true h).1
  have h2 : s < L ∧ isLt (t s) = true := runTo_all (q := fun i => isLt (t i)) 0 s s (by omega) (by omega) (show s < wE t L s by omega)
  refine decide_eq_false (fun q => ?_)
  rw [q.2, hc] at h2
  cases h2.2
theorem stp_not {t : Nat → Nat} {L s : Nat} {W K : List Nat} (a : isW t L s wNot = true) (b : opens W < 8) : stp t L (0, s, W, K) = (0, sk t L (s + 3), 12 :: W, K) := by
  unfold stp; dsimp only; rw [if_pos rfl, if_neg (by rw [isS_W (by decide) a (by decide)]; decide), if_pos a, if_pos b]
theorem stp_notF {t : Nat → Nat} {L s : Nat} {W K : List Nat} (a : isW t L s wNot = true) (b : ¬ opens W < 8) : stp t L (0, s, W, K) = (13, s, W, K) := by
  unfold stp; dsimp only; rw [if_pos rfl, if_neg (by rw [isS_W (by decide) a (by decide)]; decide), if_pos a, if_neg b]
theorem stp_fig {t : Nat → Nat} {L s : Nat} {W K : List Nat} (a : isS t L s 40 = false) (b : isW t L s wNot = false) (f : nmF t L s 0 11 = 0) : stp t L (0, s, W, K) = (1, sk t L (nE t L s), clW W (K ++ [nmV t L s])) := by
  unfold stp; dsimp only; rw [if_pos rfl, if_neg (by rw [a]; decide), if_neg (by rw [b]; decide), if_pos f]
theorem stp_figF {t : Nat → Nat} {L s : Nat} {W K : List Nat} (a : isS t L s 40 = false) (b : isW t L s wNot = false) (f : ¬ nmF t L s 0 11 = 0) : stp t L (0, s, W, K) = (10 + nmF t L s 0 11, s, W, K) := by
  unfold stp; dsimp only; rw [if_pos rfl, if_neg (by rw [a]; decide), if_neg (by rw [b]; decide), if_neg f]
theorem stp_close {t : Nat → Nat} {L s : Nat} {W W1 K C1 : List Nat} (a : isS t L s 41 = true) (p : popAO W1 C1 = (15 :: W, K)) : stp t L (1, s, W1, C1) = (1, sk t L (s + 1), clW W K) := by
  unfold stp; dsimp only; rw [if_neg (by decide), if_pos rfl, if_pos a, p]; rfl
theorem stp_closeF {t : Nat → Nat} {L s : Nat} {W1 C1 K : List Nat} (a : isS t L s 41 = true) (p : popAO W1 C1 = ([], K)) : stp t L (1, s, W1, C1) = (11, s, W1, C1) := by
  unfold stp; dsimp only; rw [if_neg (by decide), if_pos rfl, if_pos a, p]
theorem stp_and {t : Nat → Nat} {L s : Nat} {W W1 K C1 : List Nat} (a : isW t L s wAnd = true) (p : popA W1 C1 = (W, K)) : stp t L (1, s, W1, C1) = (0, sk t L (s + 3), 13 :: W, K) := by
  unfold stp; dsimp only; rw [if_neg (by decide), if_pos rfl, if_neg (by rw [isS_W (by decide) a (by decide)]; decide), if_pos a, p]
theorem isW_ne {t : Nat → Nat} {L s : Nat} (a : isW t L s wOr = true) : isW t L s wAnd = false := by
  refine decide_eq_false (fun q => ?_)
  have h1 := (of_decide_eq_true a).1
  have h2 := q.1
  have e1 : wOr.length = 2 := rfl
  have e2 : wAnd.length = 3 := rfl
  omega
theorem stp_or {t : Nat → Nat} {L s : Nat} {W W1 K C1 : List Nat} (a : isW t L s wOr = true) (p : popAO W1 C1 = (W, K)) : stp t L (1, s, W1, C1) = (0, sk t L (s + 2), 14 :: W, K) := by
  unfold stp; dsimp only; rw [if_neg (by decide), if_pos rfl, if_neg (by rw [isS_W (by decide) a (by decide)]; decide), if_neg (by rw [isW_ne a]; decide), if_pos a, p]
theorem stp_end {t : Nat → Nat} {L s : Nat} {W W1 K C1 : List Nat} (a : isS t L s 41 = false) (b : isW t L s wAnd = false) (c : isW t L s wOr = false) (p : popAO W1 C1 = (W, K)) : stp t L (1, s, W1, C1) = if s = L ∧ W = [] then (2, s, W, K) else (11, s, W, K) := by
  unfold stp; dsimp only; rw [if_neg (by decide), if_pos rfl, if_neg (by rw [a]; decide), if_neg (by rw [b]; decide), if_neg (by rw [c]; decide), p]
theorem ex_nI (x : Int32) : ∃ k, x = nI k := ⟨x.toBitVec.toNat, Int32.toBitVec_inj.1 (by show _ = BitVec.ofNat 32 _; rw [BitVec.ofNat_toNat]; simp)⟩
-- a claim's head, and all of it
def cOwe (t : Nat → Nat) (L : Nat) : Bool := isW t L (sk t L 0) (sWd 0)
def cPay (t : Nat → Nat) (L : Nat) : Bool := isW t L (sk t L 0) (sWd 1)
def cP1 (t : Nat → Nat) (L : Nat) : Nat := sk t L (sk t L 0 + 3)
def cP2 (t : Nat → Nat) (L : Nat) : Nat := sk t L (nE t L (cP1 t L))
def cHd (t : Nat → Nat) (L : Nat) : Nat × Nat := if cOwe t L = true ∨ cPay t L = true then (if nmF t L (cP1 t L) 1 999 = 0 then (if isW t L (cP2 t L) (sWd 2) = true then (0, sk t L (cP2 t L + 2)) else (1, cP2 t L)) else (nmF t L (cP1 t L) 1 999, cP1 t L)) else (1, sk t L 0)
def cCo (t : Nat → Nat) (L : Nat) : Int32 := if cOwe t L = true then -nI (nmV t L (cP1 t L)) else nI (nmV t L (cP1 t L))
/-- what reading a claim comes to: fault f at pl, or (f = 0) the code C -/
def PR (t : Nat → Nat) (L f pl : Nat) (C : List Nat) : Prop := f < 4 ∧ if (cHd t L).1 = 0 then (if f = 0 then ∃ q, rch t L (0, (cHd t L).2, [], []) (2, q, [], C) else ∃ W C', rch t L (0, (cHd t L).2, [], []) (10 + f, pl, W, C')) else f = (cHd t L).1 ∧ pl = (cHd t L).2
theorem PR.uniq {t : Nat → Nat} {L f pl f' pl' : Nat} {C C' : List Nat} (h : PR t L f pl C) (h' : PR t L f' pl' C') : f = f' ∧ (f ≠ 0 → pl = pl') ∧ (f = 0 → C = C') := by
  obtain ⟨a1, a2⟩ := h
  obtain ⟨b1, b2⟩ := h'
  by_cases e : (cHd t L).1 = 0
  · rw [if_pos e] at a2 b2
    by_cases f0 : f = 0
    · rw [if_pos f0] at a2
      obtain ⟨q, a2⟩ := a2
      by_cases g0 : f' = 0
      · rw [if_pos g0] at b2
        obtain ⟨q', b2⟩ := b2
        have u := a2.uniq b2 (Nat.le_refl 2) (Nat.le_refl 2)
        simp only [Prod.mk.injEq] at u
        exact ⟨by omega, fun z => absurd f0 z, fun _ => u.2.2.2⟩
      · rw [if_neg g0] at b2
        obtain ⟨W, C2, b2⟩ := b2
        have u := a2.uniq b2 (Nat.le_refl 2) (by show 2 ≤ 10 + f'; omega)
        simp only [Prod.mk.injEq] at u
        omega
    · rw [if_neg f0] at a2
      obtain ⟨W, C1, a2⟩ := a2
      by_cases g0 : f' = 0
      · rw [if_pos g0] at b2
        obtain ⟨q', b2⟩ := b2
        have u := a2.uniq b2 (by show 2 ≤ 10 + f; omega) (Nat.le_refl 2)
        simp only [Prod.mk.injEq] at u
        omega
      · rw [if_neg g0] at b2
        obtain ⟨W2, C2, b2⟩ := b2
        have u := a2.uniq b2 (by show 2 ≤ 10 + f; omega) (by show 2 ≤ 10 + f'; omega)
        simp only [Prod.mk.injEq] at u
        exact ⟨by omega, fun _ => u.2.1, fun z => absurd z f0⟩
  · rw [if_neg e] at a2 b2
    exact ⟨by omega, fun _ => by omega, fun z => by omega⟩
/-- cells 1, 3, 4 may change, the text's length not -/
def rdG (I I' : MI) : Prop := (∀ k, k ≠ 1 → k ≠ 3 → k ≠ 4 → I' k = I k) ∧ I' 1 1 = I 1 1
theorem rdG.rf (I : MI) : rdG I I := ⟨fun _ _ _ _ => rfl, rfl⟩
theorem rdG.trans {I I1 I2 : MI} (h1 : rdG I I1) (h2 : rdG I1 I2) : rdG I I2 := ⟨fun k a b c => (h2.1 k a b c).trans (h1.1 k a b c), h2.2.trans h1.2⟩
theorem rdF.G {I I' : MI} (h : rdF I I') : rdG I I' := ⟨h.1, h.2.1⟩
theorem rdG.up {I I1 : MI} (h : rdG I I1) (i : Nat) (v : Int32) : rdG I (up2 I1 3 i v) := ⟨fun k a b c => (up2_ne b).trans (h.1 k a b c), by rw [up2_ne (by decide)]; exact h.2⟩
theorem Tx.ofRG {I I' : MI} {t : Nat → Nat} {L : Nat} (h : Tx I t L) (hf : rdG I I') : Tx I' t L := ⟨h.1, by rw [hf.2]; exact h.2.1, fun j hj => by rw [hf.1 2 (by decide) (by decide) (by decide)]; exact h.2.2 j hj⟩
