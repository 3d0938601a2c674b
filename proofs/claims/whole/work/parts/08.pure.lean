/-! Plain facts: numbers, answers, runs of bytes. -/
def b32 (x : Bool) : Int32 := nI x.toNat
theorem b32_t : b32 true = nI 1 := rfl
theorem b32_f : b32 false = nI 0 := rfl
theorem b32_0 {x : Bool} : b32 x = 0 ↔ x = false := by cases x <;> decide
theorem b32_n {x : Bool} : ¬ b32 x = 0 ↔ x = true := by cases x <;> decide
theorem b32_nar {x : Bool} : narrow .boolean (.int (b32 x)) = .int (b32 x) := by cases x <;> rfl
theorem b32_or (x : Bool) : b32 x = 0 ∨ b32 x = 1 := by cases x <;> decide
theorem b32_inj {x y : Bool} : b32 x = b32 y ↔ x = y := by cases x <;> cases y <;> decide
theorem nI_inc (f : Nat) : nI f + Int32.ofInt 1 = nI (f + 1) := by rw [nI_succ]; rfl
theorem nI_eq0 {a : Nat} (h : a < 2 ^ 31) : nI a = 0 ↔ a = 0 := by rw [show (0 : Int32) = nI 0 from rfl, nI_eq h (by decide)]
theorem nI_lt0 {a : Nat} (h : a < 2 ^ 31) : ¬ nI a < 0 := nI_pos h
theorem nI_toI {a : Nat} (h : a < 2 ^ 31) : (nI a).toInt = (a : Int) := nI_toInt h
/-- as far as q holds -/
def runF (q : Nat → Bool) (L : Nat) : Nat → Nat → Nat
  | 0, p => p
  | f + 1, p => if p < L ∧ q p = true then runF q L f (p + 1) else p
def runTo (q : Nat → Bool) (L p : Nat) : Nat := runF q L (L - p) p
theorem runTo_in {q : Nat → Bool} {L p : Nat} (h : p < L) (hq : q p = true) : runTo q L p = runTo q L (p + 1) := by
  unfold runTo
  rw [show L - p = (L - (p + 1)) + 1 by omega]
  show (if p < L ∧ q p = true then _ else _) = _
  rw [if_pos ⟨h, hq⟩]
theorem runTo_out {q : Nat → Bool} {L p : Nat} (h : ¬ (p < L ∧ q p = true)) : runTo q L p = p := by
  unfold runTo
  cases L - p with
  | zero => rfl
  | succ f => exact if_neg h
theorem runF_ge {q : Nat → Bool} {L : Nat} : ∀ f p, p ≤ runF q L f p
  | 0, p => Nat.le_refl _
  | f + 1, p => by
    show p ≤ if p < L ∧ q p = true then _ else _
    split
    · exact Nat.le_trans (Nat.le_succ p) (runF_ge f (p + 1))
    · exact Nat.le_refl _
theorem runF_le {q : Nat → Bool} {L : Nat} : ∀ f p, p ≤ L → runF q L f p ≤ L
  | 0, p, h => h
  | f + 1, p, h => by
    show (if p < L ∧ q p = true then _ else _) ≤ L
    split
    · rename_i h1; exact runF_le f (p + 1) h1.1
    · exact h
theorem runTo_ge {q : Nat → Bool} {L p : Nat} : p ≤ runTo q L p := runF_ge _ _
theorem runTo_le {q : Nat → Bool} {L p : Nat} (h : p ≤ L) : runTo q L p ≤ L := runF_le _ _ h
theorem runF_stop {q : Nat → Bool} {L : Nat} : ∀ f p, L - p ≤ f → ¬ (runF q L f p < L ∧ q (runF q L f p) = true)
  | 0, p, h => by
    show ¬ (p < L ∧ _)
    omega
  | f + 1, p, h => by
    show ¬ ((if p < L ∧ q p = true then _ else _) < L ∧ q (if p < L ∧ q p = true then _ else _) = true)
    split
    · exact runF_stop f (p + 1) (by omega)
    · rename_i h1; exact h1
theorem runTo_stop {q : Nat → Bool} {L p : Nat} : ¬ (runTo q L p < L ∧ q (runTo q L p) = true) := runF_stop _ _ (Nat.le_refl _)
theorem runTo_idem {q : Nat → Bool} {L p : Nat} : runTo q L (runTo q L p) = runTo q L p := runTo_out runTo_stop
theorem runTo_mid {q : Nat → Bool} {L : Nat} : ∀ d p j, j - p = d → p ≤ j → j ≤ runTo q L p → runTo q L j = runTo q L p
  | 0, p, j, hd, h1, _ => by rw [show j = p by omega]
  | d + 1, p, j, hd, h1, h2 => by
    by_cases h : p < L ∧ q p = true
    · rw [runTo_in h.1 h.2] at h2 ⊢
      exact runTo_mid d (p + 1) j (by omega) (by omega) h2
    · rw [runTo_out h] at h2
      omega
/-- between the start and the end q holds -/
theorem runTo_all {q : Nat → Bool} {L : Nat} : ∀ d p j, j - p = d → p ≤ j → j < runTo q L p → j < L ∧ q j = true
  | 0, p, j, hd, h1, h2 => by
    have e : j = p := by omega
    subst e
    by_cases h : j < L ∧ q j = true
    · exact h
    · rw [runTo_out h] at h2; omega
  | d + 1, p, j, hd, h1, h2 => by
    by_cases h : p < L ∧ q p = true
    · rw [runTo_in h.1 h.2] at h2
      exact runTo_all d (p + 1) j (by omega) (by omega) h2
    · rw [runTo_out h] at h2; omega
-- signs
def isLt (b : Nat) : Bool := decide (97 ≤ b ∧ b ≤ 122)
def isDg (b : Nat) : Bool := decide (48 ≤ b ∧ b ≤ 57)
def isBl (b : Nat) : Bool := decide (b = 32)
/-- the place of the next sign that is no blank -/
def sk (t : Nat → Nat) (L p : Nat) : Nat := runTo (fun i => isBl (t i)) L p
/-- the ends of words and of numbers -/
def wE (t : Nat → Nat) (L p : Nat) : Nat := runTo (fun i => isLt (t i)) L p
def nE (t : Nat → Nat) (L p : Nat) : Nat := runTo (fun i => isDg (t i)) L p
/-- the kind of the token at s, and its end -/
def tkK (t : Nat → Nat) (L s : Nat) : Nat := if L ≤ s then 0 else if isLt (t s) then 1 else if isDg (t s) then 2 else 3
def tkE (t : Nat → Nat) (L s : Nat) : Nat := if L ≤ s then s else if isLt (t s) then wE t L s else if isDg (t s) then nE t L s else s + 1
theorem tkE_le {t : Nat → Nat} {L s : Nat} (h : s ≤ L) : tkE t L s ≤ L := by
  unfold tkE
  split
  · omega
  · split
    · exact runTo_le h
    · split
      · exact runTo_le h
      · omega
theorem tkE_ge {t : Nat → Nat} {L s : Nat} : s ≤ tkE t L s := by
  unfold tkE
  split
  · omega
  · split
    · exact runTo_ge
    · split
      · exact runTo_ge
      · omega
theorem sk_le {t : Nat → Nat} {L p : Nat} (h : p ≤ L) : sk t L p ≤ L := runTo_le h
theorem sk_ge {t : Nat → Nat} {L p : Nat} : p ≤ sk t L p := runTo_ge
theorem sk_sk {t : Nat → Nat} {L p : Nat} : sk t L (sk t L p) = sk t L p := runTo_idem
theorem up2_ap {I : MI} {k i k' i' : Nat} {v : Int32} : up2 I k i v k' i' = if k' = k then (if i' = i then v else I k' i') else I k' i' := by
  unfold up2
  by_cases h : k' = k
  · subst h; simp [upd]
  · simp [h]
theorem upL_ap {J : MJ} {k i k' i' : Nat} {v : Int64} : upL J k i v k' i' = if k' = k then (if i' = i then v else J k' i') else J k' i' := by
  unfold upL
  by_cases h : k' = k
  · subst h; simp [vp_updL]
  · simp [h]
/-- bytes of a text in a cell -/
def Tb (I : MI) (k : Nat) (t : Nat → Nat) (L : Nat) : Prop := ∀ j, j < L → t j < 256 ∧ I k j = nI (t j)
-- the component's text: cell 1 (1 length, 2 kind, 3 start, 4 end, 5 the fault's number, 6 its place), its bytes: cell 2
def Tx (I : MI) (t : Nat → Nat) (L : Nat) : Prop := L ≤ 160 ∧ I 1 1 = nI L ∧ Tb I 2 t L
/-- the token that stands is the one at s -/
def Tk (I : MI) (t : Nat → Nat) (L s : Nat) : Prop := s ≤ L ∧ I 1 2 = nI (tkK t L s) ∧ I 1 3 = nI s ∧ I 1 4 = nI (tkE t L s)
/-- nothing but the token changes -/
def txF (I I' : MI) : Prop := (∀ k, k ≠ 1 → I' k = I k) ∧ ∀ i, i ≠ 2 → i ≠ 3 → i ≠ 4 → I' 1 i = I 1 i
theorem txF.rf (I : MI) : txF I I := ⟨fun _ _ => rfl, fun _ _ _ _ => rfl⟩
theorem txF.trans {I I1 I2 : MI} (h1 : txF I I1) (h2 : txF I1 I2) : txF I I2 := ⟨fun k hk => (h2.1 k hk).trans (h1.1 k hk), fun i a b c => (h2.2 i a b c).trans (h1.2 i a b c)⟩
theorem txF.up {I I1 : MI} (h : txF I I1) (i : Nat) (v : Int32) (hi : i = 2 ∨ i = 3 ∨ i = 4) : txF I (up2 I1 1 i v) := by
  refine ⟨fun k hk => (up2_ne hk).trans (h.1 k hk), fun j a b c => ?_⟩
  rw [up2_off (by omega)]
  exact h.2 j a b c
theorem Tx.of {I I' : MI} {t : Nat → Nat} {L : Nat} (h : Tx I t L) (hf : txF I I') : Tx I' t L := ⟨h.1, by rw [hf.2 1 (by decide) (by decide) (by decide)]; exact h.2.1, fun j hj => by rw [hf.1 2 (by decide)]; exact h.2.2 j hj⟩
theorem tkK_lt {t : Nat → Nat} {L s : Nat} : tkK t L s < 4 := by
  unfold tkK
  split
  · decide
  · split
    · decide
    · split <;> decide
theorem isLt_t {b : Nat} (h : 97 ≤ b ∧ b ≤ 122) : isLt b = true := decide_eq_true h
theorem isLt_f {b : Nat} (h : b < 97 ∨ 122 < b) : isLt b = false := decide_eq_false (by omega)
theorem isDg_t {b : Nat} (h : 48 ≤ b ∧ b ≤ 57) : isDg b = true := decide_eq_true h
theorem isDg_f {b : Nat} (h : b < 48 ∨ 57 < b) : isDg b = false := decide_eq_false (by omega)
theorem isBl_t {b : Nat} (h : b = 32) : isBl b = true := decide_eq_true h
theorem isBl_f {b : Nat} (h : ¬ b = 32) : isBl b = false := decide_eq_false h
theorem nb_t {x : Bool} (h : ¬ x = false) : x = true := by cases x <;> simp_all
theorem tkK_0 {t : Nat → Nat} {L s : Nat} (h : L ≤ s) : tkK t L s = 0 ∧ tkE t L s = s := ⟨if_pos h, if_pos h⟩
theorem tkK_1 {t : Nat → Nat} {L s : Nat} (h : s < L) (h1 : isLt (t s) = true) : tkK t L s = 1 ∧ tkE t L s = wE t L s := by
  have h0 : ¬ L ≤ s := by omega
  simp [tkK, tkE, h0, h1]
theorem tkK_2 {t : Nat → Nat} {L s : Nat} (h : s < L) (h1 : isLt (t s) = false) (h2 : isDg (t s) = true) : tkK t L s = 2 ∧ tkE t L s = nE t L s := by
  have h0 : ¬ L ≤ s := by omega
  simp [tkK, tkE, h0, h1, h2]
theorem tkK_3 {t : Nat → Nat} {L s : Nat} (h : s < L) (h1 : isLt (t s) = false) (h2 : isDg (t s) = false) : tkK t L s = 3 ∧ tkE t L s = s + 1 := by
  have h0 : ¬ L ≤ s := by omega
  simp [tkK, tkE, h0, h1, h2]
/-- nothing but cell 1 changes, its length stays -/
def txG (I I' : MI) : Prop := (∀ k, k ≠ 1 → I' k = I k) ∧ I' 1 1 = I 1 1
theorem txG.rf (I : MI) : txG I I := ⟨fun _ _ => rfl, rfl⟩
theorem txG.trans {I I1 I2 : MI} (h1 : txG I I1) (h2 : txG I1 I2) : txG I I2 := ⟨fun k hk => (h2.1 k hk).trans (h1.1 k hk), h2.2.trans h1.2⟩
theorem txF.G {I I' : MI} (h : txF I I') : txG I I' := ⟨h.1, h.2 1 (by decide) (by decide) (by decide)⟩
theorem txG.up {I I1 : MI} (h : txG I I1) (i : Nat) (v : Int32) (hi : i ≠ 1) : txG I (up2 I1 1 i v) := ⟨fun k hk => (up2_ne hk).trans (h.1 k hk), by rw [up2_off (Ne.symm hi)]; exact h.2⟩
theorem Tx.ofG {I I' : MI} {t : Nat → Nat} {L : Nat} (h : Tx I t L) (hf : txG I I') : Tx I' t L := ⟨h.1, by rw [hf.2]; exact h.2.1, fun j hj => by rw [hf.1 2 (by decide)]; exact h.2.2 j hj⟩
theorem sk_in {t : Nat → Nat} {L p : Nat} (h : p < L) (hq : isBl (t p) = true) : sk t L (p + 1) = sk t L p := (runTo_in (q := fun i => isBl (t i)) h hq).symm
theorem sk_out {t : Nat → Nat} {L p : Nat} (h : L ≤ p ∨ isBl (t p) = false) : sk t L p = p := runTo_out (q := fun i => isBl (t i)) (by rintro ⟨a, b⟩; exact h.elim (fun h => by omega) (fun h => by simp [h] at b))
theorem wE_in {t : Nat → Nat} {L p : Nat} (h : p < L) (hq : isLt (t p) = true) : wE t L (p + 1) = wE t L p := (runTo_in (q := fun i => isLt (t i)) h hq).symm
theorem wE_out {t : Nat → Nat} {L p : Nat} (h : L ≤ p ∨ isLt (t p) = false) : wE t L p = p := runTo_out (q := fun i => isLt (t i)) (by rintro ⟨a, b⟩; exact h.elim (fun h => by omega) (fun h => by simp [h] at b))
theorem nE_in {t : Nat → Nat} {L p : Nat} (h : p < L) (hq : isDg (t p) = true) : nE t L (p + 1) = nE t L p := (runTo_in (q := fun i => isDg (t i)) h hq).symm
theorem nE_out {t : Nat → Nat} {L p : Nat} (h : L ≤ p ∨ isDg (t p) = false) : nE t L p = p := runTo_out (q := fun i => isDg (t i)) (by rintro ⟨a, b⟩; exact h.elim (fun h => by omega) (fun h => by simp [h] at b))
/-- the sign ch stands at s -/
def isS (t : Nat → Nat) (L s ch : Nat) : Bool := decide (s < L ∧ t s = ch)
/-- the word w stands at s -/
def isW (t : Nat → Nat) (L s : Nat) (w : List Nat) : Bool := decide (wE t L s = s + w.length ∧ ∀ j, j < w.length → t (s + j) = w.getD j 0)
/-- the value of k figures from s on -/
def dv (t : Nat → Nat) (s : Nat) : Nat → Nat
  | 0 => 0
  | k + 1 => 10 * dv t s k + (t (s + k) - 48)
def nmV (t : Nat → Nat) (L s : Nat) : Nat := dv t s (min 3 (nE t L s - s))
/-- the fault of the number at s; 0: none -/
def nmF (t : Nat → Nat) (L s lo hi : Nat) : Nat := if s < L ∧ isDg (t s) = true then (if 3 < nE t L s - s ∨ nmV t L s < lo ∨ hi < nmV t L s then 2 else 0) else 1
def flt (I : MI) (k s : Nat) : MI := up2 (up2 I 1 5 (nI k)) 1 6 (nI s)
theorem flt_G (I : MI) (k s : Nat) : txG I (flt I k s) := ((txG.rf I).up 5 _ (by decide)).up 6 _ (by decide)
theorem flt_5 (I : MI) (k s : Nat) : flt I k s 1 5 = nI k := by unfold flt; rw [up2_off (by decide), up2_at]
theorem flt_6 (I : MI) (k s : Nat) : flt I k s 1 6 = nI s := by unfold flt; rw [up2_at]
theorem flt_o (I : MI) (k s i : Nat) (h : i ≠ 5) (h2 : i ≠ 6) : flt I k s 1 i = I 1 i := by unfold flt; rw [up2_off h2, up2_off h]
theorem dv_lt {t : Nat → Nat} {s : Nat} : ∀ k, (∀ j, j < k → isDg (t (s + j)) = true) → dv t s k < 10 ^ k
  | 0, _ => by simp [dv]
  | k + 1, h => by
    have h1 := dv_lt k (fun j hj => h j (by omega))
    have h2 := h k (by omega)
    simp only [isDg, decide_eq_true_eq] at h2
    rw [dv, Nat.pow_succ]
    omega
theorem nE_dg {t : Nat → Nat} {L s j : Nat} (h : s + j < nE t L s) : s + j < L ∧ isDg (t (s + j)) = true := runTo_all (q := fun i => isDg (t i)) j s (s + j) (by omega) (by omega) h
theorem nE_le {t : Nat → Nat} {L s : Nat} (h : s ≤ L) : nE t L s ≤ L := runTo_le h
theorem wE_le {t : Nat → Nat} {L s : Nat} (h : s ≤ L) : wE t L s ≤ L := runTo_le h
theorem nE_ge {t : Nat → Nat} {L s : Nat} : s ≤ nE t L s := runTo_ge
theorem wE_ge {t : Nat → Nat} {L s : Nat} : s ≤ wE t L s := runTo_ge
