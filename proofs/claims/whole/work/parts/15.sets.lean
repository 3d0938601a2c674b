/-! Sets: counts, their parts in order (pd i w: the i-th part of w), the next one. -/
def pcN : Nat → Nat → Nat
  | 0, _ => 0
  | n + 1, a => a % 2 + pcN n (a / 2)
def pc (a : Nat) : Nat := pcN 16 a
def bcN (a : Nat) : Nat :=
  let i := Nat.sub a (Nat.land (Nat.div a 2) 1431655765)
  let i := Nat.add (Nat.land i 858993459) (Nat.land (Nat.div i 4) 858993459)
  let i := Nat.land (Nat.add i (Nat.div i 16)) 252645135
  let i := Nat.add i (Nat.div i 256)
  let i := Nat.add i (Nat.div i 65536)
  Nat.land i 63
def pc8 (a : Nat) : Nat := Nat.add (Nat.mod a 2) (Nat.add (Nat.mod (Nat.div a 2) 2) (Nat.add (Nat.mod (Nat.div a 4) 2) (Nat.add (Nat.mod (Nat.div a 8) 2) (Nat.add (Nat.mod (Nat.div a 16) 2) (Nat.add (Nat.mod (Nat.div a 32) 2) (Nat.add (Nat.mod (Nat.div a 64) 2) (Nat.mod (Nat.div a 128) 2)))))))
def allR (p : Nat → Bool) (n : Nat) : Bool := Nat.rec true (fun k ih => Bool.and (p k) ih) n
theorem allR_spec {p : Nat → Bool} : ∀ n, allR p n = true → ∀ k, k < n → p k = true
  | 0, _, k, hk => absurd hk (Nat.not_lt_zero _)
  | n + 1, h, k, hk => by
    have h' : (p n && allR p n) = true := h
    rw [Bool.and_eq_true] at h'
    rcases Nat.lt_or_ge k n with q | q
    · exact allR_spec n h'.2 k q
    · rw [show k = n by omega]; exact h'.1
theorem bcN_0 : allR (fun h => allR (fun l => Nat.beq (bcN (Nat.add 0 (Nat.add (Nat.mul 256 h) l))) (Nat.add (pc8 (Nat.add 0 h)) (pc8 l))) 256) 16 = true := by decide +kernel
theorem bcN_1 : allR (fun h => allR (fun l => Nat.beq (bcN (Nat.add 4096 (Nat.add (Nat.mul 256 h) l))) (Nat.add (pc8 (Nat.add 16 h)) (pc8 l))) 256) 16 = true := by decide +kernel
theorem bcN_2 : allR (fun h => allR (fun l => Nat.beq (bcN (Nat.add 8192 (Nat.add (Nat.mul 256 h) l))) (Nat.add (pc8 (Nat.add 32 h)) (pc8 l))) 256) 16 = true := by decide +kernel
theorem bcN_3 : allR (fun h => allR (fun l => Nat.beq (bcN (Nat.add 12288 (Nat.add (Nat.mul 256 h) l))) (Nat.add (pc8 (Nat.add 48 h)) (pc8 l))) 256) 16 = true := by decide +kernel
theorem bcN_4 : allR (fun h => allR (fun l => Nat.beq (bcN (Nat.add 16384 (Nat.add (Nat.mul 256 h) l))) (Nat.add (pc8 (Nat.add 64 h)) (pc8 l))) 256) 16 = true := by decide +kernel
theorem bcN_5 : allR (fun h => allR (fun l => Nat.beq (bcN (Nat.add 20480 (Nat.add (Nat.mul 256 h) l))) (Nat.add (pc8 (Nat.add 80 h)) (pc8 l))) 256) 16 = true := by decide +kernel
theorem bcN_6 : allR (fun h => allR (fun l => Nat.beq (bcN (Nat.add 24576 (Nat.add (Nat.mul 256 h) l))) (Nat.add (pc8 (Nat.add 96 h)) (pc8 l))) 256) 16 = true := by decide +kernel
theorem bcN_7 : allR (fun h => allR (fun l => Nat.beq (bcN (Nat.add 28672 (Nat.add (Nat.mul 256 h) l))) (Nat.add (pc8 (Nat.add 112 h)) (pc8 l))) 256) 16 = true := by decide +kernel
theorem bcN_8 : allR (fun h => allR (fun l => Nat.beq (bcN (Nat.add 32768 (Nat.add (Nat.mul 256 h) l))) (Nat.add (pc8 (Nat.add 128 h)) (pc8 l))) 256) 16 = true := by decide +kernel
theorem bcN_9 : allR (fun h => allR (fun l => Nat.beq (bcN (Nat.add 36864 (Nat.add (Nat.mul 256 h) l))) (Nat.add (pc8 (Nat.add 144 h)) (pc8 l))) 256) 16 = true := by decide +kernel
theorem bcN_10 : allR (fun h => allR (fun l => Nat.beq (bcN (Nat.add 40960 (Nat.add (Nat.mul 256 h) l))) (Nat.add (pc8 (Nat.add 160 h)) (pc8 l))) 256) 16 = true := by decide +kernel
theorem bcN_11 : allR (fun h => allR (fun l => Nat.beq (bcN (Nat.add 45056 (Nat.add (Nat.mul 256 h) l))) (Nat.add (pc8 (Nat.add 176 h)) (pc8 l))) 256) 16 = true := by decide +kernel
theorem bcN_12 : allR (fun h => allR (fun l => Nat.beq (bcN (Nat.add 49152 (Nat.add (Nat.mul 256 h) l))) (Nat.add (pc8 (Nat.add 192 h)) (pc8 l))) 256) 16 = true := by decide +kernel
theorem bcN_13 : allR (fun h => allR (fun l => Nat.beq (bcN (Nat.add 53248 (Nat.add (Nat.mul 256 h) l))) (Nat.add (pc8 (Nat.add 208 h)) (pc8 l))) 256) 16 = true := by decide +kernel
theorem bcN_14 : allR (fun h => allR (fun l => Nat.beq (bcN (Nat.add 57344 (Nat.add (Nat.mul 256 h) l))) (Nat.add (pc8 (Nat.add 224 h)) (pc8 l))) 256) 16 = true := by decide +kernel
theorem bcN_15 : allR (fun h => allR (fun l => Nat.beq (bcN (Nat.add 61440 (Nat.add (Nat.mul 256 h) l))) (Nat.add (pc8 (Nat.add 240 h)) (pc8 l))) 256) 16 = true := by decide +kernel
theorem pcN_split : ∀ n k a, pcN (n + k) a = pcN n (a % 2 ^ n) + pcN k (a / 2 ^ n)
  | 0, k, a => by
    rw [Nat.zero_add, Nat.pow_zero, Nat.div_one]
    show pcN k a = 0 + pcN k a
    omega
  | n + 1, k, a => by
    rw [show n + 1 + k = (n + k) + 1 by omega]
    show a % 2 + pcN (n + k) (a / 2) = (a % 2 ^ (n + 1)) % 2 + pcN n (a % 2 ^ (n + 1) / 2) + pcN k (a / 2 ^ (n + 1))
    rw [pcN_split n k (a / 2), Nat.pow_succ]
    have e1 : a % (2 ^ n * 2) % 2 = a % 2 := by rw [Nat.mod_mul_left_mod]
    have e2 : a % (2 ^ n * 2) / 2 = a / 2 % 2 ^ n := by rw [Nat.mul_comm, Nat.mod_mul_right_div_self]
    have e3 : a / (2 ^ n * 2) = a / 2 / 2 ^ n := by rw [Nat.mul_comm, Nat.div_div_eq_div_mul]
    rw [e1, e2, e3]
    omega
theorem pc8_all : allR (fun x => Nat.beq (pc8 x) (pcN 8 x)) 256 = true := by decide +kernel
theorem pc8_eq {x : Nat} (h : x < 256) : pc8 x = pcN 8 x := Nat.eq_of_beq_eq_true (allR_spec 256 pc8_all x h)
theorem bcN_pc {a : Nat} (h : a < 65536) : bcN a = pc a := by
  have e : a = 4096 * (a / 4096) + (256 * (a / 256 % 16) + a % 256) := by omega
  have hp : pc a = pc8 (a / 256) + pc8 (a % 256) := by
    unfold pc
    rw [show (16 : Nat) = 8 + 8 from rfl, pcN_split 8 8 a, pc8_eq (by omega), pc8_eq (by omega)]
    show pcN 8 (a % 256) + pcN 8 (a / 256) = _
    omega
  have hc : a / 4096 < 16 := by omega
  have hh : a / 256 % 16 < 16 := by omega
  have hl : a % 256 < 256 := by omega
  have key : ∀ c, c = a / 4096 → allR (fun h => allR (fun l => Nat.beq (bcN (Nat.add (4096 * c) (Nat.add (Nat.mul 256 h) l))) (Nat.add (pc8 (Nat.add (16 * c) h)) (pc8 l))) 256) 16 = true → bcN a = pc a := by
    intro c hcc hA
    have h1 := Nat.eq_of_beq_eq_true (allR_spec 256 (allR_spec 16 hA _ hh) _ hl)
    rw [hcc] at h1
    have e2 : Nat.add (4096 * (a / 4096)) (Nat.add (Nat.mul 256 (a / 256 % 16)) (a % 256)) = a := e.symm
    have e3 : Nat.add (16 * (a / 4096)) (a / 256 % 16) = a / 256 := by show 16 * (a / 4096) + a / 256 % 16 = a / 256; omega
    rw [e2, e3] at h1
    rw [hp]
    exact h1
  rcases (by omega : a / 4096 = 0 ∨ a / 4096 = 1 ∨ a / 4096 = 2 ∨ a / 4096 = 3 ∨ a / 4096 = 4 ∨ a / 4096 = 5 ∨ a / 4096 = 6 ∨ a / 4096 = 7 ∨ a / 4096 = 8 ∨ a / 4096 = 9 ∨ a / 4096 = 10 ∨ a / 4096 = 11 ∨ a / 4096 = 12 ∨ a / 4096 = 13 ∨ a / 4096 = 14 ∨ a / 4096 = 15) with q | q | q | q | q | q | q | q | q | q | q | q | q | q | q | q
  · exact key 0 q.symm bcN_0
  · exact key 1 q.symm bcN_1
  · exact key 2 q.symm bcN_2
  · exact key 3 q.symm bcN_3
  · exact key 4 q.symm bcN_4
  · exact key 5 q.symm bcN_5
  · exact key 6 q.symm bcN_6
  · exact key 7 q.symm bcN_7
  · exact key 8 q.symm bcN_8
  · exact key 9 q.symm bcN_9
  · exact key 10 q.symm bcN_10
  · exact key 11 q.symm bcN_11
  · exact key 12 q.symm bcN_12
  · exact key 13 q.symm bcN_13
  · exact key 14 q.symm bcN_14
  · exact key 15 q.symm bcN_15
theorem pcN_le : ∀ n a, pcN n a ≤ n
  | 0, _ => Nat.le_refl _
  | n + 1, a => by
    have := pcN_le n (a / 2)
    show a % 2 + pcN n (a / 2) ≤ n + 1
    omega
theorem pc_le (a : Nat) : pc a ≤ 16 := pcN_le 16 a
theorem pcN_up : ∀ n m a, a < 2 ^ n → n ≤ m → pcN m a = pcN n a
  | 0, m, a, h, _ => by
    have : a = 0 := by simpa using h
    subst this
    have z : ∀ m, pcN m 0 = 0 := fun m => by
      induction m with
      | zero => rfl
      | succ m ih => show 0 % 2 + pcN m (0 / 2) = 0; rw [Nat.zero_div, ih]
    rw [z]; rfl
  | n + 1, 0, a, _, h => by omega
  | n + 1, m + 1, a, h, hm => by
    show a % 2 + pcN m (a / 2) = a % 2 + pcN n (a / 2)
    rw [pcN_up n m (a / 2) (by rw [Nat.pow_succ] at h; omega) (by omega)]
theorem pc12 {a : Nat} (h : a < 4096) : pc a ≤ 12 := by
  unfold pc
  rw [pcN_up 12 16 a h (by decide)]
  exact pcN_le 12 a
def pdN : Nat → Nat → Nat → Nat
  | 0, _, _ => 0
  | n + 1, i, w => if w % 2 = 1 then i % 2 + 2 * pdN n (i / 2) (w / 2) else 2 * pdN n i (w / 2)
def pd (i w : Nat) : Nat := pdN 16 i w
theorem and2 (a b c d : Nat) (hb : b < 2) (hd : d < 2) : (2 * a + b) &&& (2 * c + d) = 2 * (a &&& c) + (b &&& d) := by
  apply Nat.eq_of_testBit_eq
  intro i
  have hbd : b &&& d < 2 := Nat.lt_of_le_of_lt Nat.and_le_left hb
  rw [Nat.testBit_and]
  have e : ∀ x y : Nat, y < 2 → (2 * x + y).testBit i = if i < 1 then y.testBit i else x.testBit (i - 1) := fun x y hy => by
    have := Nat.testBit_two_pow_mul_add (i := 1) x (b := y) (by simpa using hy) i
    simpa using this
  rw [e a b hb, e c d hd, e (a &&& c) (b &&& d) hbd]
  by_cases h : i < 1
  · rw [if_pos h, if_pos h, if_pos h, Nat.testBit_and]
  · rw [if_neg h, if_neg h, if_neg h, Nat.testBit_and]
theorem sub_and : ∀ n p w, w < 2 ^ n → p &&& w = p → (p + (2 ^ n - 1 - w)) &&& w = p
  | 0, p, w, h, hp => by
    have : w = 0 := by simpa using h
    subst this
    simpa using hp
  | n + 1, p, w, h, hp => by
    rw [Nat.pow_succ] at h ⊢
    have e1 : p = 2 * (p / 2) + p % 2 := by omega
    have e2 : w = 2 * (w / 2) + w % 2 := by omega
    have hp2 : (2 * (p / 2) + p % 2) &&& (2 * (w / 2) + w % 2) = 2 * (p / 2) + p % 2 := by rw [← e1, ← e2]; exact hp
    have m1 : p % 2 < 2 := Nat.mod_lt _ (by decide)
    have m2 : w % 2 < 2 := Nat.mod_lt _ (by decide)
    rw [and2 _ _ _ _ m1 m2] at hp2
    have hb : (p % 2) &&& (w % 2) < 2 := Nat.lt_of_le_of_lt Nat.and_le_left m1
    have h3 : p / 2 &&& w / 2 = p / 2 := by omega
    have h4 : (p % 2) &&& (w % 2) = p % 2 := by omega
    have ih := sub_and n (p / 2) (w / 2) (by omega) h3
    have key : p + (2 ^ n * 2 - 1 - w) = 2 * (p / 2 + (2 ^ n - 1 - w / 2)) + (p % 2 + (1 - w % 2)) := by omega
    have hle : p % 2 + (1 - w % 2) < 2 ∧ ((p % 2 + (1 - w % 2)) &&& (w % 2)) = p % 2 := by
      rcases Nat.mod_two_eq_zero_or_one p with a | a <;> rcases Nat.mod_two_eq_zero_or_one w with b | b <;> rw [a, b] at h4 ⊢ <;> first | decide | (exfalso; revert h4; decide)
    rw [key]
    conv => lhs; rhs; rw [e2]
    rw [and2 _ _ _ _ hle.1 m2, ih, hle.2]
    omega
theorem pdN_sub : ∀ n i w, pdN n i w &&& w = pdN n i w
  | 0, _, _ => Nat.zero_and _
  | n + 1, i, w => by
    have m2 : w % 2 < 2 := Nat.mod_lt _ (by decide)
    have e2 : w = 2 * (w / 2) + w % 2 := by omega
    unfold pdN
    by_cases h : w % 2 = 1
    · rw [if_pos h]
      have m1 : i % 2 < 2 := Nat.mod_lt _ (by decide)
      rw [Nat.add_comm (i % 2)]
      conv => lhs; rhs; rw [e2]
      rw [and2 _ _ _ _ m1 m2, pdN_sub n (i / 2) (w / 2), h]
      rcases Nat.mod_two_eq_zero_or_one i with a | a <;> rw [a] <;> rfl
    · rw [if_neg h]
      have h0 : w % 2 = 0 := by omega
      conv => lhs; rhs; rw [e2]
      have := and2 (pdN n i (w / 2)) 0 (w / 2) (w % 2) (by decide) m2
      rw [Nat.add_zero] at this
      rw [this, pdN_sub n i (w / 2), Nat.zero_and, Nat.add_zero]
theorem pdN_next : ∀ n i w, w < 2 ^ n → (pdN n i w + (2 ^ n - w)) &&& w = pdN n (i + 1) w
  | 0, i, w, h => by
    have : w = 0 := by simpa using h
    subst this
    rw [Nat.and_zero]
    rfl
  | n + 1, i, w, h => by
    rw [Nat.pow_succ] at h ⊢
    have m2 : w % 2 < 2 := Nat.mod_lt _ (by decide)
    have e2 : w = 2 * (w / 2) + w % 2 := by omega
    have hw : w / 2 < 2 ^ n := by omega
    unfold pdN
    by_cases b : w % 2 = 1
    · rw [if_pos b, if_pos b]
      have hs := pdN_sub n (i / 2) (w / 2)
      rcases Nat.mod_two_eq_zero_or_one i with e | e
      · have e4 : (i + 1) % 2 = 1 := by omega
        have e5 : (i + 1) / 2 = i / 2 := by omega
        rw [e, e4, e5]
        have key : 0 + 2 * pdN n (i / 2) (w / 2) + (2 ^ n * 2 - w) = 2 * (pdN n (i / 2) (w / 2) + (2 ^ n - 1 - w / 2)) + 1 := by omega
        rw [key]
        conv => lhs; rhs; rw [e2]
        rw [and2 _ _ _ _ (by decide) m2, sub_and n _ _ hw hs, b]
        show 2 * pdN n (i / 2) (w / 2) + 1 = _
        omega
      · have e4 : (i + 1) % 2 = 0 := by omega
        have e5 : (i + 1) / 2 = i / 2 + 1 := by omega
        rw [e, e4, e5]
        have key : 1 + 2 * pdN n (i / 2) (w / 2) + (2 ^ n * 2 - w) = 2 * (pdN n (i / 2) (w / 2) + (2 ^ n - w / 2)) + 0 := by omega
        rw [key]
        conv => lhs; rhs; rw [e2]
        rw [and2 _ _ _ _ (by decide) m2, pdN_next n (i / 2) (w / 2) hw, b]
        show 2 * pdN n (i / 2 + 1) (w / 2) + 0 = _
        omega
    · rw [if_neg b, if_neg b]
      have h0 : w % 2 = 0 := by omega
      have key : 2 * pdN n i (w / 2) + (2 ^ n * 2 - w) = 2 * (pdN n i (w / 2) + (2 ^ n - w / 2)) + 0 := by omega
      rw [key]
      conv => lhs; rhs; rw [e2]
      rw [and2 _ _ _ _ (by decide) m2, pdN_next n i (w / 2) hw, Nat.zero_and, Nat.add_zero]
theorem pdN_lt : ∀ n i w, w < 2 ^ n → pdN n i w < 2 ^ n := fun n i w h => by
  have := pdN_sub n i w
  rw [← this]
  exact Nat.lt_of_le_of_lt Nat.and_le_right h
/-- each part is one of them -/
theorem pdN_onto : ∀ n s w, w < 2 ^ n → s &&& w = s → ∃ i, i < 2 ^ pcN n w ∧ pdN n i w = s
  | 0, s, w, h, hs => by
    have : w = 0 := by simpa using h
    subst this
    rw [Nat.and_zero] at hs
    exact ⟨0, by decide, hs⟩
  | n + 1, s, w, h, hs => by
    rw [Nat.pow_succ] at h
    have m1 : s % 2 < 2 := Nat.mod_lt _ (by decide)
    have m2 : w % 2 < 2 := Nat.mod_lt _ (by decide)
    have e1 : s = 2 * (s / 2) + s % 2 := by omega
    have e2 : w = 2 * (w / 2) + w % 2 := by omega
    have hp2 : (2 * (s / 2) + s % 2) &&& (2 * (w / 2) + w % 2) = 2 * (s / 2) + s % 2 := by rw [← e1, ← e2]; exact hs
    rw [and2 _ _ _ _ m1 m2] at hp2
    have hb : (s % 2) &&& (w % 2) < 2 := Nat.lt_of_le_of_lt Nat.and_le_left m1
    have h3 : s / 2 &&& w / 2 = s / 2 := by omega
    have h4 : (s % 2) &&& (w % 2) = s % 2 := by omega
    obtain ⟨i, hi, ei⟩ := pdN_onto n (s / 2) (w / 2) (by omega) h3
    have hpc : pcN (n + 1) w = w % 2 + pcN n (w / 2) := rfl
    by_cases b : w % 2 = 1
    · refine ⟨2 * i + s % 2, ?_, ?_⟩
      · rw [hpc, b, Nat.add_comm 1, Nat.pow_succ]; omega
      · unfold pdN
        rw [if_pos b, show (2 * i + s % 2) / 2 = i by omega, ei]
        omega
    · have h0 : w % 2 = 0 := by omega
      rw [h0, Nat.and_zero] at h4
      refine ⟨i, by rw [hpc, h0, Nat.zero_add]; exact hi, ?_⟩
      unfold pdN
      rw [if_neg b, ei]
      omega
theorem pdN_mono : ∀ n i j w, w < 2 ^ n → i < j → j < 2 ^ pcN n w → pdN n i w < pdN n j w
  | 0, i, j, w, h, hij, hj => by
    have : pcN 0 w = 0 := rfl
    rw [this] at hj
    omega
  | n + 1, i, j, w, h, hij, hj => by
    rw [Nat.pow_succ] at h
    have hpc : pcN (n + 1) w = w % 2 + pcN n (w / 2) := rfl
    rw [hpc] at hj
    unfold pdN
    by_cases b : w % 2 = 1
    · rw [if_pos b, if_pos b]
      rw [b, Nat.add_comm 1, Nat.pow_succ] at hj
      rcases Nat.lt_or_ge (i / 2) (j / 2) with q | q
      · have := pdN_mono n (i / 2) (j / 2) (w / 2) (by omega) q (by omega)
        omega
      · have : i / 2 = j / 2 := by omega
        rw [this]; omega
    · rw [if_neg b, if_neg b]
      have h0 : w % 2 = 0 := by omega
      rw [h0, Nat.zero_add] at hj
      have := pdN_mono n i j (w / 2) (by omega) hij hj
      omega
theorem pdN_0 : ∀ n w, pdN n 0 w = 0
  | 0, _ => rfl
  | n + 1, w => by
    unfold pdN
    split
    · rw [Nat.zero_div, pdN_0 n]
    · rw [pdN_0 n]
theorem pd_0 (w : Nat) : pd 0 w = 0 := pdN_0 16 w
theorem pd_sub (i w : Nat) : pd i w &&& w = pd i w := pdN_sub 16 i w
theorem pd_onto {s w : Nat} (hw : w < 65536) (hs : s &&& w = s) : ∃ i, i < 2 ^ pc w ∧ pd i w = s := pdN_onto 16 s w hw hs
theorem pd_mono {i j w : Nat} (hw : w < 65536) (hij : i < j) (hj : j < 2 ^ pc w) : pd i w < pd j w := pdN_mono 16 i j w hw hij hj
theorem pd_lt {i w : Nat} (hw : w < 65536) : pd i w < 65536 := pdN_lt 16 i w hw
theorem pd_le {i w : Nat} : pd i w ≤ w := by rw [← pd_sub i w]; exact Nat.and_le_right
theorem pd_next {i w : Nat} (hw : w < 65536) : (nI (pd i w) - nI w) &&& nI w = nI (pd (i + 1) w) := by
  have h1 := pdN_next 16 i w hw
  have hl := pd_lt (i := i) hw
  have e1 : nI (pd i w) - nI w = nI (pd i w + (2 ^ 32 - w)) := by
    have : nI (pd i w + (2 ^ 32 - w)) + nI w = nI (pd i w) := by
      rw [nI_add, show pd i w + (2 ^ 32 - w) + w = pd i w + 2 ^ 32 by omega]
      unfold nI
      apply Int32.toBitVec_inj.1
      show BitVec.ofNat 32 _ = BitVec.ofNat 32 _
      apply BitVec.eq_of_toNat_eq
      simp
    rw [← this]
    simp [Int32.sub_eq_add_neg, Int32.add_assoc, Int32.add_right_neg]
  rw [e1, fa_and]
  congr 1
  have e2 : pd i w + (2 ^ 32 - w) = 65536 * 65535 + (pd i w + (2 ^ 16 - w)) := by omega
  apply Nat.eq_of_testBit_eq
  intro b
  rw [Nat.testBit_and]
  by_cases hb : b < 16
  · have h2 : (pd i w + (2 ^ 32 - w)).testBit b = (pd i w + (2 ^ 16 - w)).testBit b := by
      rw [e2]
      have h3 : 65536 * 65535 + (pd i w + (2 ^ 16 - w)) = 2 ^ 16 * (65535 + (pd i w + (2 ^ 16 - w)) / 65536) + (pd i w + (2 ^ 16 - w)) % 65536 := by omega
      have h4 : pd i w + (2 ^ 16 - w) = 2 ^ 16 * ((pd i w + (2 ^ 16 - w)) / 65536) + (pd i w + (2 ^ 16 - w)) % 65536 := by omega
      have hm : (pd i w + (2 ^ 16 - w)) % 65536 < 2 ^ 16 := Nat.mod_lt _ (by decide)
      rw [h3, Nat.testBit_two_pow_mul_add _ hm, if_pos hb]
      conv => rhs; rw [h4]
      rw [Nat.testBit_two_pow_mul_add _ hm, if_pos hb]
    rw [h2, ← Nat.testBit_and]
    exact congrArg (fun x => Nat.testBit x b) h1
  · have h2 : w.testBit b = false := Nat.testBit_lt_two_pow (Nat.lt_of_lt_of_le hw (Nat.pow_le_pow_right (by decide) (by omega) : 2 ^ 16 ≤ 2 ^ b))
    have h3 : (pd (i + 1) w).testBit b = false := Nat.testBit_lt_two_pow (Nat.lt_of_lt_of_le (pd_lt hw) (Nat.pow_le_pow_right (by decide) (by omega) : 2 ^ 16 ≤ 2 ^ b))
    rw [h2, h3, Bool.and_false]
