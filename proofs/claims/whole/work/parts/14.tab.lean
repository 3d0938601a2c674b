/-! What a code says of a set of facts. A stack is its depth and its places from the bottom. -/
def evF (v : Nat → Bool) : List Nat → Nat → (Nat → Bool) → Nat × (Nat → Bool)
  | [], d, f => (d, f)
  | x :: C, d, f => if x < 12 then evF v C (d + 1) (fun j => if j = d then v x else f j) else if x = 12 then evF v C d (fun j => if j = d - 1 then !(f j) else f j) else evF v C (d - 1) (fun j => if j = d - 2 then (if x = 13 then f (d - 2) && f (d - 1) else f (d - 2) || f (d - 1)) else f j)
/-- whether the claim with the code C holds if just the facts of so are so -/
def evC (C : List Nat) (so : Nat) : Bool := (evF (fun f => so.testBit f) C 0 (fun _ => false)).2 0
/-- below the depth alone the places count -/
theorem evF_cong {M : Nat} {v : Nat → Bool} : ∀ (C : List Nat) (d d' : Nat) (f g : Nat → Bool), dOK M C d d' → 0 < d' → (∀ j, j < d → f j = g j) → (evF v C d f).2 0 = (evF v C d g).2 0
  | [], d, d', f, g, h, h0, hfg => by
    cases h
    exact hfg 0 h0
  | x :: C, d, d', f, g, h, h0, hfg => by
    have h' : (if x < 12 then d + 1 ≤ M ∧ dOK M C (d + 1) d' else if x = 12 then 1 ≤ d ∧ dOK M C d d' else 2 ≤ d ∧ dOK M C (d - 1) d') := h
    unfold evF
    by_cases a : x < 12
    · rw [if_pos a] at h'
      rw [if_pos a, if_pos a]
      refine evF_cong C _ _ _ _ h'.2 h0 (fun j hj => ?_)
      by_cases e : j = d
      · rw [if_pos e, if_pos e]
      · rw [if_neg e, if_neg e]; exact hfg j (by omega)
    · rw [if_neg a] at h'
      rw [if_neg a, if_neg a]
      by_cases b : x = 12
      · rw [if_pos b] at h'
        rw [if_pos b, if_pos b]
        refine evF_cong C _ _ _ _ h'.2 h0 (fun j hj => ?_)
        by_cases e : j = d - 1
        · rw [if_pos e, if_pos e, hfg j hj]
        · rw [if_neg e, if_neg e]; exact hfg j hj
      · rw [if_neg b] at h'
        rw [if_neg b, if_neg b]
        refine evF_cong C _ _ _ _ h'.2 h0 (fun j hj => ?_)
        by_cases e : j = d - 2
        · rw [if_pos e, if_pos e, hfg (d - 2) (by omega), hfg (d - 1) (by omega)]
        · rw [if_neg e, if_neg e]; exact hfg j (by omega)
theorem drop_c {C : List Nat} {i : Nat} (h : i < C.length) : C.drop i = C.getD i 0 :: C.drop (i + 1) := by
  rw [List.drop_eq_getElem_cons h]
  simp [List.getD, h]
/-- bit k of a long -/
def lb (x : Int64) (k : Nat) : Bool := x.toBitVec.getLsbD k
theorem lb_and (x y : Int64) (k : Nat) : lb (x &&& y) k = (lb x k && lb y k) := by unfold lb; rw [Int64.toBitVec_and, BitVec.getLsbD_and]
theorem lb_or (x y : Int64) (k : Nat) : lb (x ||| y) k = (lb x k || lb y k) := by unfold lb; rw [Int64.toBitVec_or, BitVec.getLsbD_or]
theorem lb_not (x : Int64) : ∀ k, k < 64 → lb (x ^^^ (-1)) k = !(lb x k) := by
  intro k hk
  unfold lb
  rw [Int64.toBitVec_xor, BitVec.getLsbD_xor]
  have : ∀ k, k < 64 → (-1 : Int64).toBitVec.getLsbD k = true := by decide
  rw [this k hk]
  simp
theorem lb_low : ∀ f, f < 6 → ∀ k, k < 64 → lb (lowF.getD f 0) k = k.testBit f := by unfold lb; decide +kernel
theorem lb_m1 : ∀ k, k < 64 → lb (-1) k = true := by unfold lb; decide
theorem lb_0 : ∀ k, k < 64 → lb 0 k = false := by unfold lb; decide
theorem tb_lo {w k f : Nat} (hk : k < 64) (hf : f < 6) : (64 * w + k).testBit f = k.testBit f := by
  rw [show 64 * w + k = 2 ^ 6 * w + k by omega, Nat.testBit_two_pow_mul_add w hk, if_pos hf]
theorem tb_hi {w k f : Nat} (hk : k < 64) (hf : 6 ≤ f) : (64 * w + k).testBit f = w.testBit (f - 6) := by
  rw [show 64 * w + k = 2 ^ 6 * w + k by omega, Nat.testBit_two_pow_mul_add w hk, if_neg (by omega)]
theorem has_bit {a j : Nat} (ha : a < 2 ^ 31) (hj : j < 32) : (nI a >>> (nI j &&& 31)) &&& nI 1 = nI (a.testBit j).toNat := by
  rw [pk_shrN ha _ j (s_l j hj), fa_and, Nat.and_one_is_mod, Nat.testBit_eq_decide_div_mod_eq]
  rcases Nat.mod_two_eq_zero_or_one (a / 2 ^ j) with h | h <;> rw [h] <;> rfl
theorem nI_dec {a : Nat} (h : 1 ≤ a) : nI a + Int32.ofInt (-1) = nI (a - 1) := by
  rw [show nI a = nI (a - 1 + 1) by rw [Nat.sub_add_cancel h]]
  exact pk_m1 (a - 1)
theorem shA_tab : ∀ c, c < 6 → shA (13 + c) = some (1, 64) ∧ shT (13 + c) = .inr (1, 64, 0, 0) := by decide
/-- the word of a table: bit k of word w is what the code says of 64 w + k -/
def tbW (C : List Nat) (w : Nat) (x : Int64) : Prop := ∀ k, k < 64 → lb x k = evC C (64 * w + k)
theorem getD_mem {C : List Nat} {i : Nat} (h : i < C.length) : C.getD i 0 ∈ C := by
  have := List.getElem_mem h
  simpa [List.getD, h] using this
-- claims: how many, coins, codes
def owS (co : Nat → Int32) (cd : Nat → List Nat) (so : Nat) : Nat → Int32
  | 0 => nI 0
  | c + 1 => if evC (cd c) so = true then owS co cd so c + co c else owS co cd so c
def cdOK (C : List Nat) : Prop := C.length ≤ 120 ∧ dOK 20 C 0 1 ∧ ∀ x ∈ C, x < 15
/-- the component's claims of a suit at b -/
def CClm (I : MI) (J : MJ) (b nc : Nat) (co : Nat → Int32) (cd : Nat → List Nat) : Prop := nc ≤ 6 ∧ I (b + 1) 0 = nI nc ∧ ∀ c, c < nc → I (b + 2) c = co c ∧ I (b + 3) c = nI (fsN (cd c)) ∧ cdOK (cd c) ∧ ∀ w, w < 64 → tbW (cd c) w (J (b + 5 + c) w)
theorem cmp_bit {x : Int64} {k : Nat} (hk : k < 64) : lg_cmp ((x.toUInt64 >>> ((nI k).toInt64.toUInt64 &&& Int64.toUInt64 63)).toInt64 &&& 1) 0 = 0 ↔ lb x k = false := by
  have h := ts_bit (w := x) (s := (nI k).toInt64.toUInt64 &&& Int64.toUInt64 63) hk (by rw [wb_cu k hk, u_tn (by omega)])
  rw [show (lb x k = false) = (x.toBitVec.getLsbD k = false) from rfl, ← h]
  generalize ((x.toUInt64 >>> ((nI k).toInt64.toUInt64 &&& Int64.toUInt64 63)).toInt64 &&& 1) = y
  unfold lg_cmp
  constructor
  · intro q
    by_cases a : y > 0
    · rw [if_pos a] at q; exact absurd q (by decide)
    · rw [if_neg a] at q
      by_cases b : y = 0
      · exact b
      · rw [if_neg b] at q; exact absurd q (by decide)
  · intro q
    subst q
    decide
theorem so_split {so : Nat} (h : so < 4096) : nI so >>> (nI 6 &&& 31) &&& nI 63 = nI (so / 64) ∧ nI so &&& nI 63 = nI (so % 64) := by
  constructor
  · rw [pk_shrN (by omega) _ 6 (by decide), fa_and, show (63 : Nat) = 2 ^ 6 - 1 from rfl, Nat.and_two_pow_sub_one_eq_mod]
    congr 1
    omega
  · rw [fa_and, show (63 : Nat) = 2 ^ 6 - 1 from rfl, Nat.and_two_pow_sub_one_eq_mod]
