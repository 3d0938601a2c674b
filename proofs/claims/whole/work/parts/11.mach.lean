/-! THE MACHINE that reads a case: what is told (C), what waits (W: 12 not, 13 and, 14 or, 15 an opened one). A state: mode (0 before an operand, 1 behind one, 2 done, 10 + f fault f), place, W, C. -/
abbrev MS : Type := Nat × Nat × List Nat × List Nat
def wNot : List Nat := [110, 111, 116]
def wAnd : List Nat := [97, 110, 100]
def wOr : List Nat := [111, 114]
def opens (W : List Nat) : Nat := W.countP (fun x => decide (x = 12 ∨ x = 15))
def bins (W : List Nat) : Nat := W.countP (fun x => decide (x = 13 ∨ x = 14))
def nops (W : List Nat) : Nat := W.countP (fun x => decide (x ≠ 15))
def popB (q : Nat → Bool) : List Nat → List Nat → List Nat × List Nat
  | [], C => ([], C)
  | x :: W, C => if q x = true then popB q W (C ++ [x]) else (x :: W, C)
def clW : List Nat → List Nat → List Nat × List Nat := popB (fun x => decide (x = 12))
def popA : List Nat → List Nat → List Nat × List Nat := popB (fun x => decide (x = 13))
def popAO : List Nat → List Nat → List Nat × List Nat := popB (fun x => decide (x = 13 ∨ x = 14))
def stp (t : Nat → Nat) (L : Nat) (σ : MS) : MS :=
  if σ.1 = 0 then
    (if isS t L σ.2.1 40 = true then (if opens σ.2.2.1 < 8 then (0, sk t L (σ.2.1 + 1), 15 :: σ.2.2.1, σ.2.2.2) else (13, σ.2.1, σ.2.2.1, σ.2.2.2))
    else if isW t L σ.2.1 wNot = true then (if opens σ.2.2.1 < 8 then (0, sk t L (σ.2.1 + 3), 12 :: σ.2.2.1, σ.2.2.2) else (13, σ.2.1, σ.2.2.1, σ.2.2.2))
    else if nmF t L σ.2.1 0 11 = 0 then (1, sk t L (nE t L σ.2.1), clW σ.2.2.1 (σ.2.2.2 ++ [nmV t L σ.2.1])) else (10 + nmF t L σ.2.1 0 11, σ.2.1, σ.2.2.1, σ.2.2.2))
  else if σ.1 = 1 then
    (if isS t L σ.2.1 41 = true then
      (match (popAO σ.2.2.1 σ.2.2.2).1 with
        | x :: W => if x = 15 then (1, sk t L (σ.2.1 + 1), clW W (popAO σ.2.2.1 σ.2.2.2).2) else (11, σ.2.1, σ.2.2.1, σ.2.2.2)
        | [] => (11, σ.2.1, σ.2.2.1, σ.2.2.2))
    else if isW t L σ.2.1 wAnd = true then (0, sk t L (σ.2.1 + 3), 13 :: (popA σ.2.2.1 σ.2.2.2).1, (popA σ.2.2.1 σ.2.2.2).2)
    else if isW t L σ.2.1 wOr = true then (0, sk t L (σ.2.1 + 2), 14 :: (popAO σ.2.2.1 σ.2.2.2).1, (popAO σ.2.2.1 σ.2.2.2).2)
    else if σ.2.1 = L ∧ (popAO σ.2.2.1 σ.2.2.2).1 = [] then (2, σ.2.1, (popAO σ.2.2.1 σ.2.2.2).1, (popAO σ.2.2.1 σ.2.2.2).2) else (11, σ.2.1, (popAO σ.2.2.1 σ.2.2.2).1, (popAO σ.2.2.1 σ.2.2.2).2))
  else σ
def itM (t : Nat → Nat) (L : Nat) : Nat → MS → MS
  | 0, σ => σ
  | k + 1, σ => itM t L k (stp t L σ)
def rch (t : Nat → Nat) (L : Nat) (σ τ : MS) : Prop := ∃ k, itM t L k σ = τ
theorem rch.rf {t : Nat → Nat} {L : Nat} {σ : MS} : rch t L σ σ := ⟨0, rfl⟩
theorem itM_add {t : Nat → Nat} {L : Nat} : ∀ (j k : Nat) (σ : MS), itM t L (j + k) σ = itM t L k (itM t L j σ)
  | 0, k, σ => by rw [Nat.zero_add]; rfl
  | j + 1, k, σ => by rw [show j + 1 + k = (j + k) + 1 by omega]; exact itM_add j k _
theorem rch.trans {t : Nat → Nat} {L : Nat} {σ τ υ : MS} (h1 : rch t L σ τ) (h2 : rch t L τ υ) : rch t L σ υ := by
  obtain ⟨j, h1⟩ := h1
  obtain ⟨k, h2⟩ := h2
  exact ⟨j + k, by rw [itM_add, h1]; exact h2⟩
theorem rch.one {t : Nat → Nat} {L : Nat} {σ τ : MS} (h : stp t L σ = τ) : rch t L σ τ := ⟨1, h⟩
theorem rch.then {t : Nat → Nat} {L : Nat} {σ τ υ : MS} (h1 : rch t L σ τ) (h : stp t L τ = υ) : rch t L σ υ := h1.trans (rch.one h)
theorem itM_halt {t : Nat → Nat} {L : Nat} {σ : MS} (h : 2 ≤ σ.1) : ∀ k, itM t L k σ = σ
  | 0 => rfl
  | k + 1 => by
    have e : stp t L σ = σ := by unfold stp; rw [if_neg (by omega), if_neg (by omega)]
    show itM t L k (stp t L σ) = σ
    rw [e]
    exact itM_halt h k
/-- the end is one -/
theorem rch.uniq {t : Nat → Nat} {L : Nat} {σ τ υ : MS} (h1 : rch t L σ τ) (h2 : rch t L σ υ) (ht : 2 ≤ τ.1) (hu : 2 ≤ υ.1) : τ = υ := by
  obtain ⟨j, h1⟩ := h1
  obtain ⟨k, h2⟩ := h2
  rcases Nat.le_total j k with q | q
  · rw [show k = j + (k - j) by omega, itM_add, h1, itM_halt ht] at h2
    exact h2
  · rw [show j = k + (j - k) by omega, itM_add, h2, itM_halt hu] at h1
    exact h1.symm
-- popping
theorem popB_nil {q : Nat → Bool} {C : List Nat} : popB q [] C = ([], C) := rfl
theorem popB_t {q : Nat → Bool} {x : Nat} {W C : List Nat} (h : q x = true) : popB q (x :: W) C = popB q W (C ++ [x]) := if_pos h
theorem popB_f {q : Nat → Bool} {x : Nat} {W C : List Nat} (h : q x = false) : popB q (x :: W) C = (x :: W, C) := if_neg (by rw [h]; decide)
/-- the top of W is not of q -/
def topN (q : Nat → Bool) (W : List Nat) : Prop := ∀ x W', W = x :: W' → q x = false
theorem popB_id {q : Nat → Bool} {W C : List Nat} (h : topN q W) : popB q W C = (W, C) := by
  cases W with
  | nil => rfl
  | cons x W => exact popB_f (h x W rfl)
theorem popB_top {q : Nat → Bool} : ∀ (W C : List Nat), topN q (popB q W C).1
  | [], C => fun x W' h => by cases h
  | x :: W, C => by
    by_cases h : q x = true
    · rw [popB_t h]; exact popB_top W _
    · rw [popB_f (by simpa using h)]
      intro y W' e
      cases e
      simpa using h
theorem topN_nil {q : Nat → Bool} : topN q [] := fun x W' h => by cases h
theorem topN_cons {q : Nat → Bool} {x : Nat} {W : List Nat} (h : q x = false) : topN q (x :: W) := fun y W' e => by cases e; exact h
theorem topN.or {q r u : Nat → Bool} {W : List Nat} (h1 : topN q W) (h2 : topN r W) (hu : ∀ x, u x = true → q x = true ∨ r x = true) : topN u W := by
  intro x W' e
  cases hx : u x with
  | false => rfl
  | true =>
    rcases hu x hx with h | h
    · rw [h1 x W' e] at h; cases h
    · rw [h2 x W' e] at h; cases h
theorem popAO_popA : ∀ (W C : List Nat), popAO (popA W C).1 (popA W C).2 = popAO W C
  | [], C => rfl
  | x :: W, C => by
    by_cases h : x = 13
    · subst h
      show popAO (popB _ (13 :: W) C).1 (popB _ (13 :: W) C).2 = popB _ (13 :: W) C
      rw [popB_t (by decide), popB_t (by decide)]
      exact popAO_popA W _
    · show popAO (popB _ (x :: W) C).1 (popB _ (x :: W) C).2 = _
      rw [popB_f (decide_eq_false h)]
/-- what waits keeps its order -/
def WOK : List Nat → Prop
  | [] => True
  | x :: W => (x = 12 ∨ x = 15 ∨ (x = 13 ∧ topN (fun y => decide (y = 13)) W) ∨ (x = 14 ∧ topN (fun y => decide (y = 13 ∨ y = 14)) W)) ∧ WOK W
theorem WOK_bins : ∀ W, WOK W → (bins W ≤ 2 * opens W + 2) ∧ (topN (fun y => decide (y = 13)) W → bins W ≤ 2 * opens W + 1) ∧ (topN (fun y => decide (y = 13 ∨ y = 14)) W → bins W ≤ 2 * opens W)
  | [], _ => ⟨by decide, fun _ => by decide, fun _ => by decide⟩
  | x :: W, h => by
    obtain ⟨i1, i2, i3⟩ := WOK_bins W h.2
    have hb : bins (x :: W) = bins W + (if x = 13 ∨ x = 14 then 1 else 0) := by simp [bins, List.countP_cons]
    have ho : opens (x :: W) = opens W + (if x = 12 ∨ x = 15 then 1 else 0) := by simp [opens, List.countP_cons]
    rcases h.1 with rfl | rfl | ⟨rfl, h1⟩ | ⟨rfl, h1⟩
    · simp at hb ho
      exact ⟨by omega, fun _ => by omega, fun _ => by omega⟩
    · simp at hb ho
      exact ⟨by omega, fun _ => by omega, fun _ => by omega⟩
    · simp at hb ho
      have := i2 h1
      refine ⟨by omega, fun q => ?_, fun q => ?_⟩
      · exact absurd (q 13 W rfl) (by decide)
      · exact absurd (q 13 W rfl) (by decide)
    · simp at hb ho
      have := i3 h1
      refine ⟨by omega, fun q => by omega, fun q => ?_⟩
      exact absurd (q 14 W rfl) (by decide)
theorem WOK_len : ∀ W, WOK W → W.length = bins W + opens W
  | [], _ => rfl
  | x :: W, h => by
    have i := WOK_len W h.2
    have hb : bins (x :: W) = bins W + (if x = 13 ∨ x = 14 then 1 else 0) := by simp [bins, List.countP_cons]
    have ho : opens (x :: W) = opens W + (if x = 12 ∨ x = 15 then 1 else 0) := by simp [opens, List.countP_cons]
    rw [List.length_cons]
    rcases h.1 with rfl | rfl | ⟨rfl, h1⟩ | ⟨rfl, h1⟩ <;> simp at hb ho <;> omega
/-- running the code C from depth d comes to d', never deeper than M -/
def dOK (M : Nat) : List Nat → Nat → Nat → Prop
  | [], d, d' => d = d'
  | x :: C, d, d' => if x < 12 then d + 1 ≤ M ∧ dOK M C (d + 1) d' else if x = 12 then 1 ≤ d ∧ dOK M C d d' else 2 ≤ d ∧ dOK M C (d - 1) d'
theorem dOK_app {M : Nat} : ∀ (C C2 : List Nat) (d d' d'' : Nat), dOK M C d d' → dOK M C2 d' d'' → dOK M (C ++ C2) d d''
  | [], C2, d, d', d'', h1, h2 => by cases h1; exact h2
  | x :: C, C2, d, d', d'', h1, h2 => by
    show (if x < 12 then _ else if x = 12 then _ else _)
    have h1' : (if x < 12 then d + 1 ≤ M ∧ dOK M C (d + 1) d' else if x = 12 then 1 ≤ d ∧ dOK M C d d' else 2 ≤ d ∧ dOK M C (d - 1) d') := h1
    by_cases a : x < 12
    · rw [if_pos a] at h1' ⊢
      exact ⟨h1'.1, dOK_app C C2 _ _ _ h1'.2 h2⟩
    · rw [if_neg a] at h1' ⊢
      by_cases b : x = 12
      · rw [if_pos b] at h1' ⊢
        exact ⟨h1'.1, dOK_app C C2 _ _ _ h1'.2 h2⟩
      · rw [if_neg b] at h1' ⊢
        exact ⟨h1'.1, dOK_app C C2 _ _ _ h1'.2 h2⟩
/-- what holds of the machine's states -/
def mOK (L : Nat) (σ : MS) : Prop := σ.2.1 ≤ L ∧ σ.2.2.2.length + nops σ.2.2.1 ≤ σ.2.1 ∧ WOK σ.2.2.1 ∧ opens σ.2.2.1 ≤ 8 ∧ (∀ x ∈ σ.2.2.2, x < 15) ∧ (σ.1 = 0 → dOK 20 σ.2.2.2 0 (bins σ.2.2.1)) ∧ (σ.1 = 1 → dOK 20 σ.2.2.2 0 (bins σ.2.2.1 + 1) ∧ topN (fun x => decide (x = 12)) σ.2.2.1) ∧ (σ.1 = 2 → σ.2.2.1 = [] ∧ dOK 20 σ.2.2.2 0 1)
/-- popping in mode 1 (all but 15 may be popped) keeps what holds -/
def mO1 (s : Nat) (W C : List Nat) : Prop := C.length + nops W ≤ s ∧ WOK W ∧ opens W ≤ 8 ∧ (∀ x ∈ C, x < 15) ∧ dOK 20 C 0 (bins W + 1)
theorem mO1_pop {q : Nat → Bool} (hq : ∀ x, q x = true → x = 12 ∨ x = 13 ∨ x = 14) {s : Nat} : ∀ (W C : List Nat), mO1 s W C → mO1 s (popB q W C).1 (popB q W C).2
  | [], C, h => h
  | x :: W, C, h => by
    by_cases e : q x = true
    · rw [popB_t e]
      apply mO1_pop hq W
      obtain ⟨h1, h2, h3, h4, h5⟩ := h
      have hb : bins (x :: W) = bins W + (if x = 13 ∨ x = 14 then 1 else 0) := by simp [bins, List.countP_cons]
      have ho : opens (x :: W) = opens W + (if x = 12 ∨ x = 15 then 1 else 0) := by simp [opens, List.countP_cons]
      have hn : nops (x :: W) = nops W + (if x ≠ 15 then 1 else 0) := by simp [nops, List.countP_cons]
      have hx := hq x e
      refine ⟨?_, h2.2, by omega, fun y hy => ?_, ?_⟩
      · rw [List.length_append]
        simp only [List.length_cons, List.length_nil]
        rw [if_pos (by omega)] at hn
        omega
      · rcases List.mem_append.mp hy with z | z
        · exact h4 y z
        · rw [List.mem_singleton.mp z]; omega
      · refine dOK_app C [x] 0 _ _ h5 ?_
        show (if x < 12 then _ else if x = 12 then _ else _)
        rcases hx with rfl | rfl | rfl
        · simp at hb
          rw [if_neg (by decide), if_pos rfl, hb]
          exact ⟨by omega, rfl⟩
        · simp at hb
          rw [if_neg (by decide), if_neg (by decide), hb]
          exact ⟨by omega, by show _ = _; omega⟩
        · simp at hb
          rw [if_neg (by decide), if_neg (by decide), hb]
          exact ⟨by omega, by show _ = _; omega⟩
    · rw [popB_f (by simpa using e)]
      exact h
theorem mOK_1 {L s : Nat} {W C : List Nat} (hs : s ≤ L) (h : mO1 s W C) (ht : topN (fun x => decide (x = 12)) W) : mOK L (1, s, W, C) := ⟨hs, h.1, h.2.1, h.2.2.1, h.2.2.2.1, fun e => (by cases e), fun _ => ⟨h.2.2.2.2, ht⟩, fun e => (by cases e)⟩
theorem mOK.o1 {L s : Nat} {W C : List Nat} (h : mOK L (1, s, W, C)) : mO1 s W C := ⟨h.2.1, h.2.2.1, h.2.2.2.1, h.2.2.2.2.1, (h.2.2.2.2.2.2.1 rfl).1⟩
theorem mO1.le {s s' : Nat} {W C : List Nat} (h : mO1 s W C) (hs : s ≤ s') : mO1 s' W C := ⟨Nat.le_trans h.1 hs, h.2⟩
theorem nmF_fig {t : Nat → Nat} {L s lo hi : Nat} (h : nmF t L s lo hi = 0) : s < L ∧ isDg (t s) = true ∧ s < nE t L s ∧ nmV t L s ≤ hi ∧ lo ≤ nmV t L s := by
  unfold nmF at h
  by_cases a : s < L ∧ isDg (t s) = true
  · rw [if_pos a] at h
    by_cases b : 3 < nE t L s - s ∨ nmV t L s < lo ∨ hi < nmV t L s
    · rw [if_pos b] at h; cases h
    · refine ⟨a.1, a.2, ?_, by omega, by omega⟩
      have := nE_in a.1 a.2
      have := @nE_ge t L (s + 1)
      omega
  · rw [if_neg a] at h; cases h
theorem nmF_lt {t : Nat → Nat} {L s lo hi : Nat} : nmF t L s lo hi < 3 := by
  unfold nmF
  split
  · split <;> decide
  · decide
theorem isW_lt {t : Nat → Nat} {L s : Nat} {w : List Nat} (hs : s ≤ L) (h : isW t L s w = true) : s + w.length ≤ L := by
  have := (of_decide_eq_true h).1
  have := wE_le (t := t) hs
  omega
/-- a step keeps what holds -/
theorem stp_ok {t : Nat → Nat} {L : Nat} {σ : MS} (h : mOK L σ) : mOK L (stp t L σ) := by
  obtain ⟨md, s, W, C⟩ := σ
  obtain ⟨h1, h2, h3, h4, h5, h6, h7, h8⟩ := id h
  dsimp only at h1 h2 h3 h4 h5 h6 h7 h8
  have F : ∀ (f : Nat) (W' C' : List Nat), 3 ≤ f → C'.length + nops W' ≤ s → WOK W' → opens W' ≤ 8 → (∀ x ∈ C', x < 15) → mOK L (f, s, W', C') := fun f W' C' hf a b c d => ⟨h1, a, b, c, d, fun e => absurd e (by show f ≠ 0; omega), fun e => absurd e (by show f ≠ 1; omega), fun e => absurd e (by show f ≠ 2; omega)⟩
  unfold stp
  dsimp only
  by_cases m0 : md = 0
  · rw [if_pos m0]
    have hd := h6 m0
    have hbw := (WOK_bins W h3).1
    by_cases a : isS t L s 40 = true
    · rw [if_pos a]
      have a1 := (of_decide_eq_true a).1
      by_cases b : opens W < 8
      · rw [if_pos b]
        have hb : bins (15 :: W) = bins W := by simp [bins, List.countP_cons]
        have ho : opens (15 :: W) = opens W + 1 := by simp [opens, List.countP_cons]
        have hn : nops (15 :: W) = nops W := by simp [nops, List.countP_cons]
        have := @sk_ge t L (s + 1)
        exact ⟨sk_le (by omega), by dsimp only; rw [hn]; omega, ⟨Or.inr (Or.inl rfl), h3⟩, by dsimp only; rw [ho]; omega, h5, fun _ => by dsimp only; rw [hb]; exact hd, fun e => (by cases e), fun e => (by cases e)⟩
      · rw [if_neg b]
        exact F 13 W C (by decide) h2 h3 h4 h5
    · rw [if_neg a]
      by_cases c : isW t L s wNot = true
      · rw [if_pos c]
        have c1 := isW_lt h1 c
        by_cases b : opens W < 8
        · rw [if_pos b]
          have hb : bins (12 :: W) = bins W := by simp [bins, List.countP_cons]
          have ho : opens (12 :: W) = opens W + 1 := by simp [opens, List.countP_cons]
          have hn : nops (12 :: W) = nops W + 1 := by simp [nops, List.countP_cons]
          have := @sk_ge t L (s + 3)
          exact ⟨sk_le c1, by dsimp only; rw [hn]; omega, ⟨Or.inl rfl, h3⟩, by dsimp only; rw [ho]; omega, h5, fun _ => by dsimp only; rw [hb]; exact hd, fun e => (by cases e), fun e => (by cases e)⟩
        · rw [if_neg b]
          exact F 13 W C (by decide) h2 h3 h4 h5
      · rw [if_neg c]
        by_cases f : nmF t L s 0 11 = 0
        · rw [if_pos f]
          obtain ⟨f1, f2, f3, f4, -⟩ := nmF_fig f
          have e1 : mO1 (nE t L s) W (C ++ [nmV t L s]) := by
            refine ⟨by rw [List.length_append]; simp only [List.length_cons, List.length_nil]; omega, h3, h4, fun y hy => ?_, ?_⟩
            · rcases List.mem_append.mp hy with z | z
              · exact h5 y z
              · rw [List.mem_singleton.mp z]; omega
            · refine dOK_app C _ 0 _ _ hd ?_
              show (if nmV t L s < 12 then _ else _)
              rw [if_pos (by omega)]
              exact ⟨by omega, rfl⟩
          have e2 := mO1_pop (q := fun x => decide (x = 12)) (fun x hx => Or.inl (of_decide_eq_true hx)) W _ e1
          exact mOK_1 (sk_le (nE_le h1)) (e2.le sk_ge) (popB_top _ _)
        · rw [if_neg f]
          exact F _ W C (by omega) h2 h3 h4 h5
  · rw [if_neg m0]
    by_cases m1 : md = 1
    · rw [if_pos m1]
      have hd := h7 m1
      have o1 : mO1 s W C := ⟨h2, h3, h4, h5, hd.1⟩
      have pO := mO1_pop (q := fun x => decide (x = 13 ∨ x = 14)) (fun x hx => by have := of_decide_eq_true hx; omega) W C o1
      have pA := mO1_pop (q := fun x => decide (x = 13)) (fun x hx => by have := of_decide_eq_true hx; omega) W C o1
      have tO := popB_top (q := fun x => decide (x = 13 ∨ x = 14)) W C
      have tA := popB_top (q := fun x => decide (x = 13)) W C
      by_cases a : isS t L s 41 = true
      · rw [if_pos a]
        have a1 := (of_decide_eq_true a).1
        split
        · rename_i x W' e
          by_cases x15 : x = 15
          · rw [if_pos x15]
            subst x15
            have pO2 : mO1 s (15 :: W') (popAO W C).2 := by rw [← e]; exact pO
            have hb : bins (15 :: W') = bins W' := by simp [bins, List.countP_cons]
            have ho : opens (15 :: W') = opens W' + 1 := by simp [opens, List.countP_cons]
            have hn : nops (15 :: W') = nops W' := by simp [nops, List.countP_cons]
            obtain ⟨p1, p2, p3, p4, p5⟩ := pO2
            rw [hn] at p1
            rw [ho] at p3
            rw [hb] at p5
            have o2 : mO1 s W' (popAO W C).2 := ⟨p1, p2.2, by omega, p4, p5⟩
            have e2 := mO1_pop (q := fun x => decide (x = 12)) (fun x hx => Or.inl (of_decide_eq_true hx)) W' _ o2
            have := @sk_ge t L (s + 1)
            exact mOK_1 (sk_le (by omega)) (e2.le (by omega)) (popB_top _ _)
          · rw [if_neg x15]
            exact F 11 W C (by decide) h2 h3 h4 h5
        · exact F 11 W C (by decide) h2 h3 h4 h5
      · rw [if_neg a]
        by_cases b : isW t L s wAnd = true
        · rw [if_pos b]
          have b1 := isW_lt h1 b
          obtain ⟨p1, p2, p3, p4, p5⟩ := pA
          have hb : ∀ W' : List Nat, bins (13 :: W') = bins W' + 1 := fun W' => by simp [bins, List.countP_cons]
          have ho : ∀ W' : List Nat, opens (13 :: W') = opens W' := fun W' => by simp [opens, List.countP_cons]
          have hn : ∀ W' : List Nat, nops (13 :: W') = nops W' + 1 := fun W' => by simp [nops, List.countP_cons]
          have := @sk_ge t L (s + 3)
          refine ⟨sk_le b1, ?_, ⟨Or.inr (Or.inr (Or.inl ⟨rfl, tA⟩)), p2⟩, ?_, p4, fun _ => ?_, fun e => (by cases e), fun e => (by cases e)⟩
          · show (popA W C).2.length + nops (13 :: (popA W C).1) ≤ sk t L (s + 3)
            rw [hn]
            have : (popA W C).2.length + nops (popA W C).1 ≤ s := p1
            omega
          · show opens (13 :: (popA W C).1) ≤ 8
            rw [ho]; exact p3
          · show dOK 20 (popA W C).2 0 (bins (13 :: (popA W C).1))
            rw [hb]; exact p5
        · rw [if_neg b]
          by_cases c : isW t L s wOr = true
          · rw [if_pos c]
            have c1 := isW_lt h1 c
            obtain ⟨p1, p2, p3, p4, p5⟩ := pO
            have hb : ∀ W' : List Nat, bins (14 :: W') = bins W' + 1 := fun W' => by simp [bins, List.countP_cons]
            have ho : ∀ W' : List Nat, opens (14 :: W') = opens W' := fun W' => by simp [opens, List.countP_cons]
            have hn : ∀ W' : List Nat, nops (14 :: W') = nops W' + 1 := fun W' => by simp [nops, List.countP_cons]
            have := @sk_ge t L (s + 2)
            refine ⟨sk_le c1, ?_, ⟨Or.inr (Or.inr (Or.inr ⟨rfl, tO⟩)), p2⟩, ?_, p4, fun _ => ?_, fun e => (by cases e), fun e => (by cases e)⟩
            · show (popAO W C).2.length + nops (14 :: (popAO W C).1) ≤ sk t L (s + 2)
              rw [hn]
              have : (popAO W C).2.length + nops (popAO W C).1 ≤ s := p1
              omega
            · show opens (14 :: (popAO W C).1) ≤ 8
              rw [ho]; exact p3
            · show dOK 20 (popAO W C).2 0 (bins (14 :: (popAO W C).1))
              rw [hb]; exact p5
          · rw [if_neg c]
            obtain ⟨p1, p2, p3, p4, p5⟩ := pO
            by_cases d : s = L ∧ (popAO W C).1 = []
            · rw [if_pos d]
              refine ⟨h1, p1, p2, p3, p4, fun e => (by cases e), fun e => (by cases e), fun _ => ⟨d.2, ?_⟩⟩
              have p6 : dOK 20 (popAO W C).2 0 (bins (popAO W C).1 + 1) := p5
              rw [d.2] at p6
              exact p6
            · rw [if_neg d]
              exact F 11 _ _ (by decide) p1 p2 p3 p4
    · rw [if_neg m1]
      exact h
theorem rch_ok {t : Nat → Nat} {L : Nat} {σ τ : MS} (h : mOK L σ) (hr : rch t L σ τ) : mOK L τ := by
  obtain ⟨k, hk⟩ := hr
  subst hk
  induction k generalizing σ with
  | zero => exact h
  | succ k ih => exact ih (stp_ok h)
