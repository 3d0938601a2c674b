/-! Reading a paper: a state: mode (0 before a clause, 1 before an item, 2 behind one, 3 done, 10 + f fault f), place, kinds told, the clause's kind, what is done with each fact. -/
abbrev PS : Type := Nat × Nat × Nat × Nat × (Nat → Nat)
def kdOf (t : Nat → Nat) (L s : Nat) : Nat := if isW t L s (sWd 6) = true then 1 else if isW t L s (sWd 7) = true then 3 else if isW t L s (sWd 8) = true then 4 else if isW t L s (sWd 9) = true then 5 else if isW t L s (sWd 10) = true then 6 else 0
/-- the act of an item, and where its number stands -/
def itA (t : Nat → Nat) (L s k : Nat) : Nat := if k = 1 ∧ isW t L s wNot = true then 2 else k
def itP (t : Nat → Nat) (L s k : Nat) : Nat := if k = 1 ∧ isW t L s wNot = true then sk t L (s + 3) else s
def stpP (t : Nat → Nat) (L p : Nat) (Φ : Nat → FS) (σ : PS) : PS :=
  if σ.1 = 0 then
    (if L ≤ σ.2.1 then (3, σ.2.1, σ.2.2.1, σ.2.2.2.1, σ.2.2.2.2)
    else if kdOf t L σ.2.1 = 0 then (11, σ.2.1, σ.2.2.1, σ.2.2.2.1, σ.2.2.2.2)
    else if σ.2.2.1.testBit (kdOf t L σ.2.1) = true then (13, σ.2.1, σ.2.2.1, σ.2.2.2.1, σ.2.2.2.2)
    else (1, sk t L (wE t L σ.2.1), σ.2.2.1 ||| 2 ^ kdOf t L σ.2.1, kdOf t L σ.2.1, σ.2.2.2.2))
  else if σ.1 = 1 then
    (if nmF t L (itP t L σ.2.1 σ.2.2.2.1) 0 11 ≠ 0 then (10 + nmF t L (itP t L σ.2.1 σ.2.2.2.1) 0 11, itP t L σ.2.1 σ.2.2.2.1, σ.2.2.1, σ.2.2.2.1, σ.2.2.2.2)
    else if σ.2.2.2.2 (nmV t L (itP t L σ.2.1 σ.2.2.2.1)) ≠ 0 then (14, itP t L σ.2.1 σ.2.2.2.1, σ.2.2.1, σ.2.2.2.1, σ.2.2.2.2)
    else if alw (itA t L σ.2.1 σ.2.2.2.1) p (Φ (nmV t L (itP t L σ.2.1 σ.2.2.2.1))) = false then (15, itP t L σ.2.1 σ.2.2.2.1, σ.2.2.1, σ.2.2.2.1, σ.2.2.2.2)
    else (2, sk t L (nE t L (itP t L σ.2.1 σ.2.2.2.1)), σ.2.2.1, σ.2.2.2.1, fun f => if f = nmV t L (itP t L σ.2.1 σ.2.2.2.1) then itA t L σ.2.1 σ.2.2.2.1 else σ.2.2.2.2 f))
  else if σ.1 = 2 then
    (if isS t L σ.2.1 44 = true then (1, sk t L (σ.2.1 + 1), σ.2.2.1, σ.2.2.2.1, σ.2.2.2.2)
    else if isS t L σ.2.1 59 = true then (0, sk t L (σ.2.1 + 1), σ.2.2.1, σ.2.2.2.1, σ.2.2.2.2)
    else (11, σ.2.1, σ.2.2.1, σ.2.2.2.1, σ.2.2.2.2))
  else σ
def itG (g : PS → PS) : Nat → PS → PS
  | 0, σ => σ
  | k + 1, σ => itG g k (g σ)
def rchP (g : PS → PS) (σ τ : PS) : Prop := ∃ k, itG g k σ = τ
theorem rchP.rf {g : PS → PS} {σ : PS} : rchP g σ σ := ⟨0, rfl⟩
theorem itG_add {g : PS → PS} : ∀ (j k : Nat) (σ : PS), itG g (j + k) σ = itG g k (itG g j σ)
  | 0, k, σ => by rw [Nat.zero_add]; rfl
  | j + 1, k, σ => by rw [show j + 1 + k = (j + k) + 1 by omega]; exact itG_add j k _
theorem rchP.trans {g : PS → PS} {σ τ υ : PS} (h1 : rchP g σ τ) (h2 : rchP g τ υ) : rchP g σ υ := by
  obtain ⟨j, h1⟩ := h1
  obtain ⟨k, h2⟩ := h2
  exact ⟨j + k, by rw [itG_add, h1]; exact h2⟩
theorem rchP.one {g : PS → PS} {σ τ : PS} (h : g σ = τ) : rchP g σ τ := ⟨1, h⟩
theorem rchP.then {g : PS → PS} {σ τ υ : PS} (h1 : rchP g σ τ) (h : g τ = υ) : rchP g σ υ := h1.trans (rchP.one h)
theorem itG_halt {g : PS → PS} {σ : PS} (h : g σ = σ) : ∀ k, itG g k σ = σ
  | 0 => rfl
  | k + 1 => by
    show itG g k (g σ) = σ
    rw [h]
    exact itG_halt h k
theorem rchP.uniq {g : PS → PS} {σ τ υ : PS} (h1 : rchP g σ τ) (h2 : rchP g σ υ) (ht : g τ = τ) (hu : g υ = υ) : τ = υ := by
  obtain ⟨j, h1⟩ := h1
  obtain ⟨k, h2⟩ := h2
  rcases Nat.le_total j k with q | q
  · rw [show k = j + (k - j) by omega, itG_add, h1, itG_halt ht] at h2
    exact h2
  · rw [show j = k + (j - k) by omega, itG_add, h2, itG_halt hu] at h1
    exact h1.symm
theorem stpP_halt {t : Nat → Nat} {L p : Nat} {Φ : Nat → FS} {σ : PS} (h : 3 ≤ σ.1) : stpP t L p Φ σ = σ := by
  unfold stpP; rw [if_neg (by omega), if_neg (by omega), if_neg (by omega)]
def ac0 : Nat → Nat := fun _ => 0
/-- what reading a paper comes to: fault f at pl, or (f = 0) what it does with the facts -/
def PP (t : Nat → Nat) (L p : Nat) (Φ : Nat → FS) (f pl : Nat) (a : Nat → Nat) : Prop := f < 6 ∧ if f = 0 then ∃ q ks k, rchP (stpP t L p Φ) (0, sk t L 0, 0, 0, ac0) (3, q, ks, k, a) else ∃ ks k a', rchP (stpP t L p Φ) (0, sk t L 0, 0, 0, ac0) (10 + f, pl, ks, k, a')
theorem PP.uniq {t : Nat → Nat} {L p : Nat} {Φ : Nat → FS} {f pl f' pl' : Nat} {a a' : Nat → Nat} (h : PP t L p Φ f pl a) (h' : PP t L p Φ f' pl' a') : f = f' ∧ (f ≠ 0 → pl = pl') ∧ (f = 0 → a = a') := by
  obtain ⟨a1, a2⟩ := h
  obtain ⟨b1, b2⟩ := h'
  by_cases f0 : f = 0
  · rw [if_pos f0] at a2
    obtain ⟨q, ks, k, a2⟩ := a2
    by_cases g0 : f' = 0
    · rw [if_pos g0] at b2
      obtain ⟨q', ks', k', b2⟩ := b2
      have u := a2.uniq b2 (stpP_halt (Nat.le_refl 3)) (stpP_halt (Nat.le_refl 3))
      simp only [Prod.mk.injEq] at u
      exact ⟨by omega, fun z => absurd f0 z, fun _ => u.2.2.2.2⟩
    · rw [if_neg g0] at b2
      obtain ⟨ks', k', c', b2⟩ := b2
      have u := a2.uniq b2 (stpP_halt (Nat.le_refl 3)) (stpP_halt (by show 3 ≤ 10 + f'; omega))
      simp only [Prod.mk.injEq] at u
      omega
  · rw [if_neg f0] at a2
    obtain ⟨ks, k, c, a2⟩ := a2
    by_cases g0 : f' = 0
    · rw [if_pos g0] at b2
      obtain ⟨q', ks', k', b2⟩ := b2
      have u := a2.uniq b2 (stpP_halt (by show 3 ≤ 10 + f; omega)) (stpP_halt (Nat.le_refl 3))
      simp only [Prod.mk.injEq] at u
      omega
    · rw [if_neg g0] at b2
      obtain ⟨ks', k', c', b2⟩ := b2
      have u := a2.uniq b2 (stpP_halt (by show 3 ≤ 10 + f; omega)) (stpP_halt (by show 3 ≤ 10 + f'; omega))
      simp only [Prod.mk.injEq] at u
      exact ⟨by omega, fun _ => u.2.1, fun z => absurd z f0⟩
theorem kdOf_lt {t : Nat → Nat} {L s : Nat} : kdOf t L s ≤ 6 := by
  unfold kdOf
  repeat (first | (split; decide) | decide)
theorem itA_le {t : Nat → Nat} {L s k : Nat} (h : k ≤ 6) : itA t L s k ≤ 6 := by unfold itA; split <;> omega
theorem itA_pos {t : Nat → Nat} {L s k : Nat} (h : 0 < k) : 0 < itA t L s k := by unfold itA; split <;> omega
/-- acts are small -/
def pSm (σ : PS) : Prop := σ.2.2.2.1 ≤ 6 ∧ ∀ f, σ.2.2.2.2 f ≤ 6
theorem stpP_sm {t : Nat → Nat} {L p : Nat} {Φ : Nat → FS} {σ : PS} (h : pSm σ) : pSm (stpP t L p Φ σ) := by
  obtain ⟨md, s, ks, k, a⟩ := σ
  have h' : k ≤ 6 ∧ ∀ f, a f ≤ 6 := h
  unfold stpP
  dsimp only
  repeat' split
  all_goals first
    | exact h'
    | exact ⟨kdOf_lt, h'.2⟩
    | (refine ⟨h'.1, fun f => ?_⟩
       dsimp only
       split
       · exact itA_le h'.1
       · exact h'.2 f)
theorem rchP_sm {t : Nat → Nat} {L p : Nat} {Φ : Nat → FS} {σ τ : PS} (h : pSm σ) (hr : rchP (stpP t L p Φ) σ τ) : pSm τ := by
  obtain ⟨k, hk⟩ := hr
  subst hk
  induction k generalizing σ with
  | zero => exact h
  | succ k ih => exact ih (stpP_sm h)
theorem PP.sm {t : Nat → Nat} {L p : Nat} {Φ : Nat → FS} {pl : Nat} {a : Nat → Nat} (h : PP t L p Φ 0 pl a) (f : Nat) : a f ≤ 6 := by
  obtain ⟨-, h2⟩ := h
  rw [if_pos rfl] at h2
  obtain ⟨q, ks, k, h2⟩ := h2
  exact (rchP_sm (σ := (0, sk t L 0, 0, 0, ac0)) ⟨Nat.zero_le _, fun _ => Nat.zero_le _⟩ h2).2 f
section TOPI
variable {p : Program} {l : Launch} {e : Env} {R : Room} {s : State} {m : MethodId} {args : Array Value} {below : List Frame} {meth : Method} {c : Code} {Q : State → Prop} {D : va_G} {A : Nat → Prop} {nL : Nat} {cells slots : Nat} {n : Nat} {ad : Nat → Nat} {E : Nat → va_E} {pc : Nat} {lo : List (Nat × Value)} {st : List Value}
theorem r_topI {x y : Int32} (h : x = y) (k : V p l e R s m args below meth c Q D A nL cells slots n ad E pc lo (.int y :: st)) : V p l e R s m args below meth c Q D A nL cells slots n ad E pc lo (.int x :: st) := h ▸ k
end TOPI
-- the component's reading of a paper: cell 6 (1 toldKinds), 7 acts
def AcM (I : MI) (a : Nat → Nat) : Prop := ∀ f, f < 12 → I 7 f = nI (a f)
def paF (I I' : MI) : Prop := (∀ k, k ≠ 1 → k ≠ 6 → k ≠ 7 → I' k = I k) ∧ I' 1 1 = I 1 1
theorem paF.rf (I : MI) : paF I I := ⟨fun _ _ _ _ => rfl, rfl⟩
theorem paF.trans {I I1 I2 : MI} (h1 : paF I I1) (h2 : paF I1 I2) : paF I I2 := ⟨fun k a b c => (h2.1 k a b c).trans (h1.1 k a b c), h2.2.trans h1.2⟩
theorem txG.P {I I' : MI} (h : txG I I') : paF I I' := ⟨fun k a _ _ => h.1 k a, h.2⟩
theorem Tx.ofP {I I' : MI} {t : Nat → Nat} {L : Nat} (h : Tx I t L) (hf : paF I I') : Tx I' t L := ⟨h.1, by rw [hf.2]; exact h.2.1, fun j hj => by rw [hf.1 2 (by decide) (by decide) (by decide)]; exact h.2.2 j hj⟩
theorem FcM.ofP {I I' : MI} {Φ : Nat → FS} (h : FcM I 38 Φ) (hf : paF I I') : FcM I' 38 Φ := fun f hf' i hi => by rw [hf.1 (38 + 1 + i) (by omega) (by omega) (by omega)]; exact h f hf' i hi
theorem AcM.ofG {I I' : MI} {a : Nat → Nat} (h : AcM I a) (hf : txG I I') : AcM I' a := fun f hf' => by rw [hf.1 7 (by decide)]; exact h f hf'
def paBad (g : PS → PS) (σ : PS) (I' : MI) : Prop := ∃ f s' ks k a, 0 < f ∧ f < 6 ∧ I' 1 5 = nI f ∧ I' 1 6 = nI s' ∧ rchP g σ (10 + f, s', ks, k, a)
theorem paBad.to {g : PS → PS} {σ τ : PS} {I' : MI} (h : paBad g τ I') (hr : rchP g σ τ) : paBad g σ I' := by
  obtain ⟨f, s', ks, k, a, h1, h2, h3, h4, h5⟩ := h
  exact ⟨f, s', ks, k, a, h1, h2, h3, h4, hr.trans h5⟩
/-- the text is sound, the token at s, the acts a -/
def paS (t : Nat → Nat) (L s : Nat) (a : Nat → Nat) (I : MI) : Prop := I 1 5 = nI 0 ∧ I 1 6 = -1 ∧ Tk I t L s ∧ AcM I a
def paItem (t : Nat → Nat) (L p : Nat) (Φ : Nat → FS) (s ks k : Nat) (a : Nat → Nat) (I' : MI) : Prop := ∃ s' a', paS t L s' a' I' ∧ s < s' ∧ rchP (stpP t L p Φ) (1, s, ks, k, a) (2, s', ks, k, a')
def paClause (t : Nat → Nat) (L p : Nat) (Φ : Nat → FS) (s ks k : Nat) (a : Nat → Nat) (I' : MI) : Prop := ∃ s' ks' k' a', paS t L s' a' I' ∧ ks' < 128 ∧ I' 6 1 = nI ks' ∧ s < s' ∧ rchP (stpP t L p Φ) (0, s, ks, k, a) (0, s', ks', k', a')
def paItemI (t : Nat → Nat) (L p : Nat) (Φ : Nat → FS) (σ : PS) (ks k b : Nat) (I' : MI) : Prop := ∃ fn, fn < 6 ∧ I' 1 5 = nI fn ∧ (fn ≠ 0 → paBad (stpP t L p Φ) σ I') ∧ (fn = 0 → ∃ s' a', paS t L s' a' I' ∧ b < s' ∧ rchP (stpP t L p Φ) σ (2, s', ks, k, a'))
theorem or_lt128 {a k : Nat} (h : a < 128) (hk : k ≤ 6) : a ||| 2 ^ k < 128 := by
  have h2 : 2 ^ k < 2 ^ 7 := Nat.pow_lt_pow_right (by decide) (by omega)
  exact Nat.or_lt_two_pow (n := 7) h h2
theorem kdOf_w {t : Nat → Nat} {L s : Nat} (h : ¬ kdOf t L s = 0) : s < L ∧ isLt (t s) = true := by
  have key : ∀ i, i < 12 → isW t L s (sWd i) = true → s < L ∧ isLt (t s) = true := by
    intro i hi hw
    have h1 := (of_decide_eq_true hw).1
    have h0 : 0 < (sWd i).length := (by decide : ∀ i, i < 12 → 0 < (sWd i).length) i hi
    exact runTo_all (q := fun i => isLt (t i)) 0 s s (by omega) (by omega) (show s < wE t L s by omega)
  unfold kdOf at h
  by_cases a1 : isW t L s (sWd 6) = true
  · exact key 6 (by decide) a1
  rw [if_neg a1] at h
  by_cases a2 : isW t L s (sWd 7) = true
  · exact key 7 (by decide) a2
  rw [if_neg a2] at h
  by_cases a3 : isW t L s (sWd 8) = true
  · exact key 8 (by decide) a3
  rw [if_neg a3] at h
  by_cases a4 : isW t L s (sWd 9) = true
  · exact key 9 (by decide) a4
  rw [if_neg a4] at h
  by_cases a5 : isW t L s (sWd 10) = true
  · exact key 10 (by decide) a5
  rw [if_neg a5] at h
  exact absurd rfl h
theorem tkE_0 {t : Nat → Nat} {L s : Nat} (hs : s ≤ L) : tkK t L s = 0 ↔ s = L := by
  constructor
  · intro h
    rcases Nat.lt_or_ge s L with q | q
    · exfalso
      cases a1 : isLt (t s) with
      | true => rw [(tkK_1 q a1).1] at h; cases h
      | false =>
        cases a2 : isDg (t s) with
        | true => rw [(tkK_2 q a1 a2).1] at h; cases h
        | false => rw [(tkK_3 q a1 a2).1] at h; cases h
    · omega
  · intro h
    exact (tkK_0 (by omega)).1
theorem isS_ne {t : Nat → Nat} {L s a b : Nat} (h : isS t L s a = true) (hab : a ≠ b) : isS t L s b = false := decide_eq_false (fun q => hab ((of_decide_eq_true h).2.symm.trans q.2))
