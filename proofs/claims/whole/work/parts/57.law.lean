section LAW0
variable {s : State} {b : Nat}
/-- what the Statement gives of the start, in one list -/
def gvn : List Jvm.Cond := flatC (Jvm.Cond.and given_1 narrow_1)
theorem lk_keep (hts : ∀ w ∈ lw_tbl, w.before #[Value.ref b] s = true) : Keep s := fun w hw ho => va_tabs (okW_tables ho) rfl (hts w hw)
theorem lk_t (hts : ∀ w ∈ lw_tbl, w.before #[Value.ref b] s = true) (i : Nat) {w : Cond} (h : tables_1[i]? = some w) : w.before #[Value.ref b] s = true := hts w (List.mem_append_right _ (List.mem_of_getElem? h))
theorem lk_g (hs : ∀ c ∈ gvn, c.before #[Value.ref b] s = true) (i : Nat) {w : Cond} (h : gvn[i]? = some w) : w.before #[Value.ref b] s = true := hs w (List.mem_of_getElem? h)
theorem lk_arr {ty : FieldType} (h : (Cond.arrayClass ty).before #[Value.ref b] s = true) (hr : ty = .int ∨ ty = .long ∨ ty = .boolean) : ∃ ca, ArrOfT s ca ty ∧ va_RA s ca ty := by
  obtain ⟨ca, kA, comp, h1, h2, h3⟩ := Cond.arrayClass_spec h
  refine ⟨ca, fun N x => ⟨(fun k h => by cases h), kA, h2, comp, h3⟩, ?_⟩
  rcases hr with rfl | rfl | rfl <;> exact h1
theorem lk_ovo {C : String} (h : (Cond.arrayOver (.object C)).before #[Value.ref b] s = true) : ∃ ca, ArrOfT s ca (.object C) ∧ va_RA s ca (.object C) := by
  obtain ⟨comp, ca, kA, h1, -, h3, h4, h5⟩ := Cond.arrayOver_spec h
  exact ⟨ca, fun N x => ⟨(fun k h => by cases h), kA, h3, comp, h4⟩, kA, comp, h3, h4, h1, h5⟩
theorem lk_ova {ty : FieldType} (h : (Cond.arrayOver (.array ty)).before #[Value.ref b] s = true) : ∃ ca, ArrOfT s ca (.array ty) ∧ va_RA s ca (.array ty) := by
  obtain ⟨comp, ca, kA, h1, h3, h4, h5⟩ := Jvm.Cond.arrayOver_specA h
  exact ⟨ca, fun N x => ⟨(fun k h => by cases h), kA, h3, comp, h4⟩, h5⟩

theorem lk_K (hts : ∀ w ∈ lw_tbl, w.before #[Value.ref b] s = true) : ∃ (D : va_G) (cA : Nat → ClassId), va_K D vwCl (tysW cA) s := by
  have kn : ∀ {C : String} {T : u_T} {N : Nat}, (∀ w ∈ u_ws C T N, tin w) → tin (.instantiable C N) → ∃ (cC : ClassId) (iS : Nat → Nat), u_Kn s C T N cC iS := fun h1 h2 => u_known (ws := lw_tbl) hts (fun w hw => (h1 w hw).1) (hts _ h2.1)
  obtain ⟨c0, i0, k0⟩ := kn cw_0 kp_X0.1
  obtain ⟨c1, i1, k1⟩ := kn cw_1 kp_X1.1
  obtain ⟨c2, i2, k2⟩ := kn cw_2 kp_X2.1
  obtain ⟨c3, i3, k3⟩ := kn cw_3 kp_X3.1
  obtain ⟨c4, i4, k4⟩ := kn cw_4 kp_X4.1
  obtain ⟨c5, i5, k5⟩ := kn cw_5 kp_X5.1
  obtain ⟨c6, i6, k6⟩ := kn cw_6 kp_X6.1
  obtain ⟨c7, i7, k7⟩ := kn cw_7 kp_X7.1
  obtain ⟨c8, i8, k8⟩ := kn cw_8 kp_X8.1
  obtain ⟨c9, i9, k9⟩ := kn cw_9 kp_X9.1
  obtain ⟨c10, i10, k10⟩ := kn cw_10 kp_X10.1
  obtain ⟨a0, r0⟩ := lk_arr (lk_t hts 57 (w := .arrayClass .int) (by decide +kernel)) (Or.inl rfl)
  obtain ⟨a1, r1⟩ := lk_arr (lk_t hts 82 (w := .arrayClass .long) (by decide +kernel)) (Or.inr (Or.inl rfl))
  obtain ⟨a2, r2⟩ := lk_arr (lk_t hts 339 (w := .arrayClass .boolean) (by decide +kernel)) (Or.inr (Or.inr rfl))
  obtain ⟨a3, r3⟩ := lk_ovo (lk_t hts 271 (w := .arrayOver (.object "PleaPapers$Suit")) (by decide +kernel))
  obtain ⟨a4, r4⟩ := lk_ova (lk_t hts 136 (w := .arrayOver (.array .int)) (by decide +kernel))
  obtain ⟨a5, r5⟩ := lk_ova (lk_t hts 110 (w := .arrayOver (.array .long)) (by decide +kernel))
  refine ⟨(fun k => [c0, c1, c2, c3, c4, c5, c6, c7, c8, c9, c10].getD k c0, fun k => [i0, i1, i2, i3, i4, i5, i6, i7, i8, i9, i10].getD k i0), fun k => [a0, a1, a2, a3, a4, a5].getD k a0, ?_, ?_⟩
  · intro k q hq
    match k, hq with
    | 0, hq => cases hq; exact k0
    | 1, hq => cases hq; exact k1
    | 2, hq => cases hq; exact k2
    | 3, hq => cases hq; exact k3
    | 4, hq => cases hq; exact k4
    | 5, hq => cases hq; exact k5
    | 6, hq => cases hq; exact k6
    | 7, hq => cases hq; exact k7
    | 8, hq => cases hq; exact k8
    | 9, hq => cases hq; exact k9
    | 10, hq => cases hq; exact k10
    | _ + 11, hq => simp [vwCl] at hq
  · intro k q hq
    match k, hq with
    | 0, hq => cases hq; exact r0
    | 1, hq => cases hq; exact r1
    | 2, hq => cases hq; exact r2
    | 3, hq => cases hq; exact r3
    | 4, hq => cases hq; exact r4
    | 5, hq => cases hq; exact r5
    | _ + 6, hq => simp [tysW] at hq
theorem lk_Ov (hts : ∀ w ∈ lw_tbl, w.before #[Value.ref b] s = true) : Ov s := by
  have h1 : (Cond.arrayOver (.array .int)).before #[Value.ref b] s = true := lk_t hts 136 (by decide +kernel)
  have h2 : (Cond.arrayOver (.array .long)).before #[Value.ref b] s = true := lk_t hts 110 (by decide +kernel)
  exact ⟨va_AO.of (lk_t hts 271 (by decide +kernel)), h1, h2⟩
theorem lk_one {args : Array Value} {tm : Term} {N : Nat} {byt : List Int32} {A : Nat → Prop} (hN : N < 2 ^ 31) (hex : (Cond.exactly tm "java/lang/String").before args s = true) (hco : (Cond.eq (.field tm "java/lang/String" "coder" "B") (.int 0)).before args s = true) (har : (Cond.arrayOf (.field tm "java/lang/String" "value" "[B") .byte).before args s = true) (hle : (Cond.eq (.length (.field tm "java/lang/String" "value" "[B")) (.int (Int32.ofNat N))).before args s = true) (hel : ∀ j : Nat, j < N → (Cond.eq (.elem (.field tm "java/lang/String" "value" "[B") (.int (Int32.ofNat j))) (.int (byt.getD j 0))).before args s = true) (hA : ∀ a : Nat, a < s.heap.size → ¬ A a) : ∃ q : Nat × Nat, tm.eval args s none [] s = some (.ref q.1) ∧ va_O "java/lang/String" q.1 A s s.heap ∧ va_OF "java/lang/String" "coder" "B" (.int 0) q.1 A s s.heap ∧ va_OF "java/lang/String" "value" "[B" (.ref q.2) q.1 A s s.heap ∧ va_T .byte q.2 N (fun j => .int (byt.getD j 0)) A s s.heap := by
  obtain ⟨adK, adV, hS, hev⟩ := vk_Sof (args := args) (s := s) (N := 1) (tm := fun _ => tm) (len := [N]) (byt := [byt]) (A := A) (fun i hi => by cases (show i = 0 by omega); exact hN) (fun _ _ => hex) (fun _ _ => hco) (fun _ _ => har) (fun i hi => by cases (show i = 0 by omega); exact hle) (fun i hi => by cases (show i = 0 by omega); exact hel) (fun i j hi hj h => absurd (show i = j by omega) h) hA
  exact ⟨(adK 0, adV 0), hev 0 (by decide), hS.1 0 (by decide)⟩
/-- the bytes of the constants and the words that they lie at -/
theorem lk_s0 (hs : ∀ c ∈ gvn, c.before #[Value.ref b] s = true) {A : Nat → Prop} (hA : ∀ a : Nat, a < s.heap.size → ¬ A a) : ∃ q : Nat × Nat, (Term.string RX0 31).eval #[Value.ref b] s none [] s = some (.ref q.1) ∧ va_O "java/lang/String" q.1 A s s.heap ∧ va_OF "java/lang/String" "coder" "B" (.int 0) q.1 A s s.heap ∧ va_OF "java/lang/String" "value" "[B" (.ref q.2) q.1 A s s.heap ∧ va_T .byte q.2 3 (fun j => .int (([111, 119, 101] : List Int32).getD j 0)) A s s.heap := by
  refine lk_one (N := 3) (byt := ([111, 119, 101] : List Int32)) (by decide) (lk_g hs 18 (w := Cond.exactly (Term.string RX0 31) "java/lang/String") (by decide +kernel)) (lk_g hs 19 (w := Cond.eq (.field (Term.string RX0 31) "java/lang/String" "coder" "B") (.int 0)) (by decide +kernel)) (lk_g hs 20 (w := Cond.arrayOf (Term.field (Term.string RX0 31) "java/lang/String" "value" "[B") .byte) (by decide +kernel)) (lk_g hs 21 (w := Cond.eq (.length (Term.field (Term.string RX0 31) "java/lang/String" "value" "[B")) (.int (Int32.ofNat 3))) (by decide +kernel)) (fun j hj => ?_) hA
  match j, hj with
  | 0, _ => exact lk_g hs 22 (w := Cond.eq (.elem (Term.field (Term.string RX0 31) "java/lang/String" "value" "[B") (.int (Int32.ofNat 0))) (.int (([111, 119, 101] : List Int32).getD 0 0))) (by decide +kernel)
  | 1, _ => exact lk_g hs 23 (w := Cond.eq (.elem (Term.field (Term.string RX0 31) "java/lang/String" "value" "[B") (.int (Int32.ofNat 1))) (.int (([111, 119, 101] : List Int32).getD 1 0))) (by decide +kernel)
  | 2, _ => exact lk_g hs 24 (w := Cond.eq (.elem (Term.field (Term.string RX0 31) "java/lang/String" "value" "[B") (.int (Int32.ofNat 2))) (.int (([111, 119, 101] : List Int32).getD 2 0))) (by decide +kernel)
  | _ + 3, h => exact absurd h (by omega)
theorem lk_s1 (hs : ∀ c ∈ gvn, c.before #[Value.ref b] s = true) {A : Nat → Prop} (hA : ∀ a : Nat, a < s.heap.size → ¬ A a) : ∃ q : Nat × Nat, (Term.string RX0 37).eval #[Value.ref b] s none [] s = some (.ref q.1) ∧ va_O "java/lang/String" q.1 A s s.heap ∧ va_OF "java/lang/String" "coder" "B" (.int 0) q.1 A s s.heap ∧ va_OF "java/lang/String" "value" "[B" (.ref q.2) q.1 A s s.heap ∧ va_T .byte q.2 3 (fun j => .int (([112, 97, 121] : List Int32).getD j 0)) A s s.heap := by
  refine lk_one (N := 3) (byt := ([112, 97, 121] : List Int32)) (by decide) (lk_g hs 25 (w := Cond.exactly (Term.string RX0 37) "java/lang/String") (by decide +kernel)) (lk_g hs 26 (w := Cond.eq (.field (Term.string RX0 37) "java/lang/String" "coder" "B") (.int 0)) (by decide +kernel)) (lk_g hs 27 (w := Cond.arrayOf (Term.field (Term.string RX0 37) "java/lang/String" "value" "[B") .byte) (by decide +kernel)) (lk_g hs 28 (w := Cond.eq (.length (Term.field (Term.string RX0 37) "java/lang/String" "value" "[B")) (.int (Int32.ofNat 3))) (by decide +kernel)) (fun j hj => ?_) hA
  match j, hj with
  | 0, _ => exact lk_g hs 29 (w := Cond.eq (.elem (Term.field (Term.string RX0 37) "java/lang/String" "value" "[B") (.int (Int32.ofNat 0))) (.int (([112, 97, 121] : List Int32).getD 0 0))) (by decide +kernel)
  | 1, _ => exact lk_g hs 30 (w := Cond.eq (.elem (Term.field (Term.string RX0 37) "java/lang/String" "value" "[B") (.int (Int32.ofNat 1))) (.int (([112, 97, 121] : List Int32).getD 1 0))) (by decide +kernel)
  | 2, _ => exact lk_g hs 31 (w := Cond.eq (.elem (Term.field (Term.string RX0 37) "java/lang/String" "value" "[B") (.int (Int32.ofNat 2))) (.int (([112, 97, 121] : List Int32).getD 2 0))) (by decide +kernel)
  | _ + 3, h => exact absurd h (by omega)
theorem lk_s2 (hs : ∀ c ∈ gvn, c.before #[Value.ref b] s = true) {A : Nat → Prop} (hA : ∀ a : Nat, a < s.heap.size → ¬ A a) : ∃ q : Nat × Nat, (Term.string RX0 57).eval #[Value.ref b] s none [] s = some (.ref q.1) ∧ va_O "java/lang/String" q.1 A s s.heap ∧ va_OF "java/lang/String" "coder" "B" (.int 0) q.1 A s s.heap ∧ va_OF "java/lang/String" "value" "[B" (.ref q.2) q.1 A s s.heap ∧ va_T .byte q.2 2 (fun j => .int (([105, 102] : List Int32).getD j 0)) A s s.heap := by
  refine lk_one (N := 2) (byt := ([105, 102] : List Int32)) (by decide) (lk_g hs 33 (w := Cond.exactly (Term.string RX0 57) "java/lang/String") (by decide +kernel)) (lk_g hs 34 (w := Cond.eq (.field (Term.string RX0 57) "java/lang/String" "coder" "B") (.int 0)) (by decide +kernel)) (lk_g hs 35 (w := Cond.arrayOf (Term.field (Term.string RX0 57) "java/lang/String" "value" "[B") .byte) (by decide +kernel)) (lk_g hs 36 (w := Cond.eq (.length (Term.field (Term.string RX0 57) "java/lang/String" "value" "[B")) (.int (Int32.ofNat 2))) (by decide +kernel)) (fun j hj => ?_) hA
  match j, hj with
  | 0, _ => exact lk_g hs 37 (w := Cond.eq (.elem (Term.field (Term.string RX0 57) "java/lang/String" "value" "[B") (.int (Int32.ofNat 0))) (.int (([105, 102] : List Int32).getD 0 0))) (by decide +kernel)
  | 1, _ => exact lk_g hs 38 (w := Cond.eq (.elem (Term.field (Term.string RX0 57) "java/lang/String" "value" "[B") (.int (Int32.ofNat 1))) (.int (([105, 102] : List Int32).getD 1 0))) (by decide +kernel)
  | _ + 2, h => exact absurd h (by omega)
theorem lk_s3 (hs : ∀ c ∈ gvn, c.before #[Value.ref b] s = true) {A : Nat → Prop} (hA : ∀ a : Nat, a < s.heap.size → ¬ A a) : ∃ q : Nat × Nat, (Term.string RX0 79).eval #[Value.ref b] s none [] s = some (.ref q.1) ∧ va_O "java/lang/String" q.1 A s s.heap ∧ va_OF "java/lang/String" "coder" "B" (.int 0) q.1 A s s.heap ∧ va_OF "java/lang/String" "value" "[B" (.ref q.2) q.1 A s s.heap ∧ va_T .byte q.2 3 (fun j => .int (([110, 111, 116] : List Int32).getD j 0)) A s s.heap := by
  refine lk_one (N := 3) (byt := ([110, 111, 116] : List Int32)) (by decide) (lk_g hs 41 (w := Cond.exactly (Term.string RX0 79) "java/lang/String") (by decide +kernel)) (lk_g hs 42 (w := Cond.eq (.field (Term.string RX0 79) "java/lang/String" "coder" "B") (.int 0)) (by decide +kernel)) (lk_g hs 43 (w := Cond.arrayOf (Term.field (Term.string RX0 79) "java/lang/String" "value" "[B") .byte) (by decide +kernel)) (lk_g hs 44 (w := Cond.eq (.length (Term.field (Term.string RX0 79) "java/lang/String" "value" "[B")) (.int (Int32.ofNat 3))) (by decide +kernel)) (fun j hj => ?_) hA
  match j, hj with
  | 0, _ => exact lk_g hs 45 (w := Cond.eq (.elem (Term.field (Term.string RX0 79) "java/lang/String" "value" "[B") (.int (Int32.ofNat 0))) (.int (([110, 111, 116] : List Int32).getD 0 0))) (by decide +kernel)
  | 1, _ => exact lk_g hs 46 (w := Cond.eq (.elem (Term.field (Term.string RX0 79) "java/lang/String" "value" "[B") (.int (Int32.ofNat 1))) (.int (([110, 111, 116] : List Int32).getD 1 0))) (by decide +kernel)
  | 2, _ => exact lk_g hs 47 (w := Cond.eq (.elem (Term.field (Term.string RX0 79) "java/lang/String" "value" "[B") (.int (Int32.ofNat 2))) (.int (([110, 111, 116] : List Int32).getD 2 0))) (by decide +kernel)
  | _ + 3, h => exact absurd h (by omega)
theorem lk_s4 (hs : ∀ c ∈ gvn, c.before #[Value.ref b] s = true) {A : Nat → Prop} (hA : ∀ a : Nat, a < s.heap.size → ¬ A a) : ∃ q : Nat × Nat, (Term.string RX0 77).eval #[Value.ref b] s none [] s = some (.ref q.1) ∧ va_O "java/lang/String" q.1 A s s.heap ∧ va_OF "java/lang/String" "coder" "B" (.int 0) q.1 A s s.heap ∧ va_OF "java/lang/String" "value" "[B" (.ref q.2) q.1 A s s.heap ∧ va_T .byte q.2 3 (fun j => .int (([97, 110, 100] : List Int32).getD j 0)) A s s.heap := by
  refine lk_one (N := 3) (byt := ([97, 110, 100] : List Int32)) (by decide) (lk_g hs 51 (w := Cond.exactly (Term.string RX0 77) "java/lang/String") (by decide +kernel)) (lk_g hs 52 (w := Cond.eq (.field (Term.string RX0 77) "java/lang/String" "coder" "B") (.int 0)) (by decide +kernel)) (lk_g hs 53 (w := Cond.arrayOf (Term.field (Term.string RX0 77) "java/lang/String" "value" "[B") .byte) (by decide +kernel)) (lk_g hs 54 (w := Cond.eq (.length (Term.field (Term.string RX0 77) "java/lang/String" "value" "[B")) (.int (Int32.ofNat 3))) (by decide +kernel)) (fun j hj => ?_) hA
  match j, hj with
  | 0, _ => exact lk_g hs 55 (w := Cond.eq (.elem (Term.field (Term.string RX0 77) "java/lang/String" "value" "[B") (.int (Int32.ofNat 0))) (.int (([97, 110, 100] : List Int32).getD 0 0))) (by decide +kernel)
  | 1, _ => exact lk_g hs 56 (w := Cond.eq (.elem (Term.field (Term.string RX0 77) "java/lang/String" "value" "[B") (.int (Int32.ofNat 1))) (.int (([97, 110, 100] : List Int32).getD 1 0))) (by decide +kernel)
  | 2, _ => exact lk_g hs 57 (w := Cond.eq (.elem (Term.field (Term.string RX0 77) "java/lang/String" "value" "[B") (.int (Int32.ofNat 2))) (.int (([97, 110, 100] : List Int32).getD 2 0))) (by decide +kernel)
  | _ + 3, h => exact absurd h (by omega)
theorem lk_s5 (hs : ∀ c ∈ gvn, c.before #[Value.ref b] s = true) {A : Nat → Prop} (hA : ∀ a : Nat, a < s.heap.size → ¬ A a) : ∃ q : Nat × Nat, (Term.string RX0 69).eval #[Value.ref b] s none [] s = some (.ref q.1) ∧ va_O "java/lang/String" q.1 A s s.heap ∧ va_OF "java/lang/String" "coder" "B" (.int 0) q.1 A s s.heap ∧ va_OF "java/lang/String" "value" "[B" (.ref q.2) q.1 A s s.heap ∧ va_T .byte q.2 2 (fun j => .int (([111, 114] : List Int32).getD j 0)) A s s.heap := by
  refine lk_one (N := 2) (byt := ([111, 114] : List Int32)) (by decide) (lk_g hs 62 (w := Cond.exactly (Term.string RX0 69) "java/lang/String") (by decide +kernel)) (lk_g hs 63 (w := Cond.eq (.field (Term.string RX0 69) "java/lang/String" "coder" "B") (.int 0)) (by decide +kernel)) (lk_g hs 64 (w := Cond.arrayOf (Term.field (Term.string RX0 69) "java/lang/String" "value" "[B") .byte) (by decide +kernel)) (lk_g hs 65 (w := Cond.eq (.length (Term.field (Term.string RX0 69) "java/lang/String" "value" "[B")) (.int (Int32.ofNat 2))) (by decide +kernel)) (fun j hj => ?_) hA
  match j, hj with
  | 0, _ => exact lk_g hs 66 (w := Cond.eq (.elem (Term.field (Term.string RX0 69) "java/lang/String" "value" "[B") (.int (Int32.ofNat 0))) (.int (([111, 114] : List Int32).getD 0 0))) (by decide +kernel)
  | 1, _ => exact lk_g hs 67 (w := Cond.eq (.elem (Term.field (Term.string RX0 69) "java/lang/String" "value" "[B") (.int (Int32.ofNat 1))) (.int (([111, 114] : List Int32).getD 1 0))) (by decide +kernel)
  | _ + 2, h => exact absurd h (by omega)
theorem lk_s6 (hs : ∀ c ∈ gvn, c.before #[Value.ref b] s = true) {A : Nat → Prop} (hA : ∀ a : Nat, a < s.heap.size → ¬ A a) : ∃ q : Nat × Nat, (Term.string RX3 58).eval #[Value.ref b] s none [] s = some (.ref q.1) ∧ va_O "java/lang/String" q.1 A s s.heap ∧ va_OF "java/lang/String" "coder" "B" (.int 0) q.1 A s s.heap ∧ va_OF "java/lang/String" "value" "[B" (.ref q.2) q.1 A s s.heap ∧ va_T .byte q.2 3 (fun j => .int (([115, 97, 121] : List Int32).getD j 0)) A s s.heap := by
  refine lk_one (N := 3) (byt := ([115, 97, 121] : List Int32)) (by decide) (lk_g hs 73 (w := Cond.exactly (Term.string RX3 58) "java/lang/String") (by decide +kernel)) (lk_g hs 74 (w := Cond.eq (.field (Term.string RX3 58) "java/lang/String" "coder" "B") (.int 0)) (by decide +kernel)) (lk_g hs 75 (w := Cond.arrayOf (Term.field (Term.string RX3 58) "java/lang/String" "value" "[B") .byte) (by decide +kernel)) (lk_g hs 76 (w := Cond.eq (.length (Term.field (Term.string RX3 58) "java/lang/String" "value" "[B")) (.int (Int32.ofNat 3))) (by decide +kernel)) (fun j hj => ?_) hA
  match j, hj with
  | 0, _ => exact lk_g hs 77 (w := Cond.eq (.elem (Term.field (Term.string RX3 58) "java/lang/String" "value" "[B") (.int (Int32.ofNat 0))) (.int (([115, 97, 121] : List Int32).getD 0 0))) (by decide +kernel)
  | 1, _ => exact lk_g hs 78 (w := Cond.eq (.elem (Term.field (Term.string RX3 58) "java/lang/String" "value" "[B") (.int (Int32.ofNat 1))) (.int (([115, 97, 121] : List Int32).getD 1 0))) (by decide +kernel)
  | 2, _ => exact lk_g hs 79 (w := Cond.eq (.elem (Term.field (Term.string RX3 58) "java/lang/String" "value" "[B") (.int (Int32.ofNat 2))) (.int (([115, 97, 121] : List Int32).getD 2 0))) (by decide +kernel)
  | _ + 3, h => exact absurd h (by omega)
theorem lk_s7 (hs : ∀ c ∈ gvn, c.before #[Value.ref b] s = true) {A : Nat → Prop} (hA : ∀ a : Nat, a < s.heap.size → ¬ A a) : ∃ q : Nat × Nat, (Term.string RX3 64).eval #[Value.ref b] s none [] s = some (.ref q.1) ∧ va_O "java/lang/String" q.1 A s s.heap ∧ va_OF "java/lang/String" "coder" "B" (.int 0) q.1 A s s.heap ∧ va_OF "java/lang/String" "value" "[B" (.ref q.2) q.1 A s s.heap ∧ va_T .byte q.2 5 (fun j => .int (([97, 100, 109, 105, 116] : List Int32).getD j 0)) A s s.heap := by
  refine lk_one (N := 5) (byt := ([97, 100, 109, 105, 116] : List Int32)) (by decide) (lk_g hs 86 (w := Cond.exactly (Term.string RX3 64) "java/lang/String") (by decide +kernel)) (lk_g hs 87 (w := Cond.eq (.field (Term.string RX3 64) "java/lang/String" "coder" "B") (.int 0)) (by decide +kernel)) (lk_g hs 88 (w := Cond.arrayOf (Term.field (Term.string RX3 64) "java/lang/String" "value" "[B") .byte) (by decide +kernel)) (lk_g hs 89 (w := Cond.eq (.length (Term.field (Term.string RX3 64) "java/lang/String" "value" "[B")) (.int (Int32.ofNat 5))) (by decide +kernel)) (fun j hj => ?_) hA
  match j, hj with
  | 0, _ => exact lk_g hs 90 (w := Cond.eq (.elem (Term.field (Term.string RX3 64) "java/lang/String" "value" "[B") (.int (Int32.ofNat 0))) (.int (([97, 100, 109, 105, 116] : List Int32).getD 0 0))) (by decide +kernel)
  | 1, _ => exact lk_g hs 91 (w := Cond.eq (.elem (Term.field (Term.string RX3 64) "java/lang/String" "value" "[B") (.int (Int32.ofNat 1))) (.int (([97, 100, 109, 105, 116] : List Int32).getD 1 0))) (by decide +kernel)
  | 2, _ => exact lk_g hs 92 (w := Cond.eq (.elem (Term.field (Term.string RX3 64) "java/lang/String" "value" "[B") (.int (Int32.ofNat 2))) (.int (([97, 100, 109, 105, 116] : List Int32).getD 2 0))) (by decide +kernel)
  | 3, _ => exact lk_g hs 93 (w := Cond.eq (.elem (Term.field (Term.string RX3 64) "java/lang/String" "value" "[B") (.int (Int32.ofNat 3))) (.int (([97, 100, 109, 105, 116] : List Int32).getD 3 0))) (by decide +kernel)
  | 4, _ => exact lk_g hs 94 (w := Cond.eq (.elem (Term.field (Term.string RX3 64) "java/lang/String" "value" "[B") (.int (Int32.ofNat 4))) (.int (([97, 100, 109, 105, 116] : List Int32).getD 4 0))) (by decide +kernel)
  | _ + 5, h => exact absurd h (by omega)
theorem lk_s8 (hs : ∀ c ∈ gvn, c.before #[Value.ref b] s = true) {A : Nat → Prop} (hA : ∀ a : Nat, a < s.heap.size → ¬ A a) : ∃ q : Nat × Nat, (Term.string RX3 66).eval #[Value.ref b] s none [] s = some (.ref q.1) ∧ va_O "java/lang/String" q.1 A s s.heap ∧ va_OF "java/lang/String" "coder" "B" (.int 0) q.1 A s s.heap ∧ va_OF "java/lang/String" "value" "[B" (.ref q.2) q.1 A s s.heap ∧ va_T .byte q.2 4 (fun j => .int (([100, 101, 110, 121] : List Int32).getD j 0)) A s s.heap := by
  refine lk_one (N := 4) (byt := ([100, 101, 110, 121] : List Int32)) (by decide) (lk_g hs 102 (w := Cond.exactly (Term.string RX3 66) "java/lang/String") (by decide +kernel)) (lk_g hs 103 (w := Cond.eq (.field (Term.string RX3 66) "java/lang/String" "coder" "B") (.int 0)) (by decide +kernel)) (lk_g hs 104 (w := Cond.arrayOf (Term.field (Term.string RX3 66) "java/lang/String" "value" "[B") .byte) (by decide +kernel)) (lk_g hs 105 (w := Cond.eq (.length (Term.field (Term.string RX3 66) "java/lang/String" "value" "[B")) (.int (Int32.ofNat 4))) (by decide +kernel)) (fun j hj => ?_) hA
  match j, hj with
  | 0, _ => exact lk_g hs 106 (w := Cond.eq (.elem (Term.field (Term.string RX3 66) "java/lang/String" "value" "[B") (.int (Int32.ofNat 0))) (.int (([100, 101, 110, 121] : List Int32).getD 0 0))) (by decide +kernel)
  | 1, _ => exact lk_g hs 107 (w := Cond.eq (.elem (Term.field (Term.string RX3 66) "java/lang/String" "value" "[B") (.int (Int32.ofNat 1))) (.int (([100, 101, 110, 121] : List Int32).getD 1 0))) (by decide +kernel)
  | 2, _ => exact lk_g hs 108 (w := Cond.eq (.elem (Term.field (Term.string RX3 66) "java/lang/String" "value" "[B") (.int (Int32.ofNat 2))) (.int (([100, 101, 110, 121] : List Int32).getD 2 0))) (by decide +kernel)
  | 3, _ => exact lk_g hs 109 (w := Cond.eq (.elem (Term.field (Term.string RX3 66) "java/lang/String" "value" "[B") (.int (Int32.ofNat 3))) (.int (([100, 101, 110, 121] : List Int32).getD 3 0))) (by decide +kernel)
  | _ + 4, h => exact absurd h (by omega)
theorem lk_s9 (hs : ∀ c ∈ gvn, c.before #[Value.ref b] s = true) {A : Nat → Prop} (hA : ∀ a : Nat, a < s.heap.size → ¬ A a) : ∃ q : Nat × Nat, (Term.string RX3 68).eval #[Value.ref b] s none [] s = some (.ref q.1) ∧ va_O "java/lang/String" q.1 A s s.heap ∧ va_OF "java/lang/String" "coder" "B" (.int 0) q.1 A s s.heap ∧ va_OF "java/lang/String" "value" "[B" (.ref q.2) q.1 A s s.heap ∧ va_T .byte q.2 5 (fun j => .int (([100, 111, 117, 98, 116] : List Int32).getD j 0)) A s s.heap := by
  refine lk_one (N := 5) (byt := ([100, 111, 117, 98, 116] : List Int32)) (by decide) (lk_g hs 118 (w := Cond.exactly (Term.string RX3 68) "java/lang/String") (by decide +kernel)) (lk_g hs 119 (w := Cond.eq (.field (Term.string RX3 68) "java/lang/String" "coder" "B") (.int 0)) (by decide +kernel)) (lk_g hs 120 (w := Cond.arrayOf (Term.field (Term.string RX3 68) "java/lang/String" "value" "[B") .byte) (by decide +kernel)) (lk_g hs 121 (w := Cond.eq (.length (Term.field (Term.string RX3 68) "java/lang/String" "value" "[B")) (.int (Int32.ofNat 5))) (by decide +kernel)) (fun j hj => ?_) hA
  match j, hj with
  | 0, _ => exact lk_g hs 122 (w := Cond.eq (.elem (Term.field (Term.string RX3 68) "java/lang/String" "value" "[B") (.int (Int32.ofNat 0))) (.int (([100, 111, 117, 98, 116] : List Int32).getD 0 0))) (by decide +kernel)
  | 1, _ => exact lk_g hs 123 (w := Cond.eq (.elem (Term.field (Term.string RX3 68) "java/lang/String" "value" "[B") (.int (Int32.ofNat 1))) (.int (([100, 111, 117, 98, 116] : List Int32).getD 1 0))) (by decide +kernel)
  | 2, _ => exact lk_g hs 124 (w := Cond.eq (.elem (Term.field (Term.string RX3 68) "java/lang/String" "value" "[B") (.int (Int32.ofNat 2))) (.int (([100, 111, 117, 98, 116] : List Int32).getD 2 0))) (by decide +kernel)
  | 3, _ => exact lk_g hs 125 (w := Cond.eq (.elem (Term.field (Term.string RX3 68) "java/lang/String" "value" "[B") (.int (Int32.ofNat 3))) (.int (([100, 111, 117, 98, 116] : List Int32).getD 3 0))) (by decide +kernel)
  | 4, _ => exact lk_g hs 126 (w := Cond.eq (.elem (Term.field (Term.string RX3 68) "java/lang/String" "value" "[B") (.int (Int32.ofNat 4))) (.int (([100, 111, 117, 98, 116] : List Int32).getD 4 0))) (by decide +kernel)
  | _ + 5, h => exact absurd h (by omega)
theorem lk_s10 (hs : ∀ c ∈ gvn, c.before #[Value.ref b] s = true) {A : Nat → Prop} (hA : ∀ a : Nat, a < s.heap.size → ¬ A a) : ∃ q : Nat × Nat, (Term.string RX3 70).eval #[Value.ref b] s none [] s = some (.ref q.1) ∧ va_O "java/lang/String" q.1 A s s.heap ∧ va_OF "java/lang/String" "coder" "B" (.int 0) q.1 A s s.heap ∧ va_OF "java/lang/String" "value" "[B" (.ref q.2) q.1 A s s.heap ∧ va_T .byte q.2 4 (fun j => .int (([116, 97, 107, 101] : List Int32).getD j 0)) A s s.heap := by
  refine lk_one (N := 4) (byt := ([116, 97, 107, 101] : List Int32)) (by decide) (lk_g hs 136 (w := Cond.exactly (Term.string RX3 70) "java/lang/String") (by decide +kernel)) (lk_g hs 137 (w := Cond.eq (.field (Term.string RX3 70) "java/lang/String" "coder" "B") (.int 0)) (by decide +kernel)) (lk_g hs 138 (w := Cond.arrayOf (Term.field (Term.string RX3 70) "java/lang/String" "value" "[B") .byte) (by decide +kernel)) (lk_g hs 139 (w := Cond.eq (.length (Term.field (Term.string RX3 70) "java/lang/String" "value" "[B")) (.int (Int32.ofNat 4))) (by decide +kernel)) (fun j hj => ?_) hA
  match j, hj with
  | 0, _ => exact lk_g hs 140 (w := Cond.eq (.elem (Term.field (Term.string RX3 70) "java/lang/String" "value" "[B") (.int (Int32.ofNat 0))) (.int (([116, 97, 107, 101] : List Int32).getD 0 0))) (by decide +kernel)
  | 1, _ => exact lk_g hs 141 (w := Cond.eq (.elem (Term.field (Term.string RX3 70) "java/lang/String" "value" "[B") (.int (Int32.ofNat 1))) (.int (([116, 97, 107, 101] : List Int32).getD 1 0))) (by decide +kernel)
  | 2, _ => exact lk_g hs 142 (w := Cond.eq (.elem (Term.field (Term.string RX3 70) "java/lang/String" "value" "[B") (.int (Int32.ofNat 2))) (.int (([116, 97, 107, 101] : List Int32).getD 2 0))) (by decide +kernel)
  | 3, _ => exact lk_g hs 143 (w := Cond.eq (.elem (Term.field (Term.string RX3 70) "java/lang/String" "value" "[B") (.int (Int32.ofNat 3))) (.int (([116, 97, 107, 101] : List Int32).getD 3 0))) (by decide +kernel)
  | _ + 4, h => exact absurd h (by omega)
theorem lk_s11 (hs : ∀ c ∈ gvn, c.before #[Value.ref b] s = true) {A : Nat → Prop} (hA : ∀ a : Nat, a < s.heap.size → ¬ A a) : ∃ q : Nat × Nat, (Term.string RX3 72).eval #[Value.ref b] s none [] s = some (.ref q.1) ∧ va_O "java/lang/String" q.1 A s s.heap ∧ va_OF "java/lang/String" "coder" "B" (.int 0) q.1 A s s.heap ∧ va_OF "java/lang/String" "value" "[B" (.ref q.2) q.1 A s s.heap ∧ va_T .byte q.2 3 (fun j => .int (([110, 111, 116] : List Int32).getD j 0)) A s s.heap := by
  refine lk_one (N := 3) (byt := ([110, 111, 116] : List Int32)) (by decide) (lk_g hs 154 (w := Cond.exactly (Term.string RX3 72) "java/lang/String") (by decide +kernel)) (lk_g hs 155 (w := Cond.eq (.field (Term.string RX3 72) "java/lang/String" "coder" "B") (.int 0)) (by decide +kernel)) (lk_g hs 156 (w := Cond.arrayOf (Term.field (Term.string RX3 72) "java/lang/String" "value" "[B") .byte) (by decide +kernel)) (lk_g hs 157 (w := Cond.eq (.length (Term.field (Term.string RX3 72) "java/lang/String" "value" "[B")) (.int (Int32.ofNat 3))) (by decide +kernel)) (fun j hj => ?_) hA
  match j, hj with
  | 0, _ => exact lk_g hs 158 (w := Cond.eq (.elem (Term.field (Term.string RX3 72) "java/lang/String" "value" "[B") (.int (Int32.ofNat 0))) (.int (([110, 111, 116] : List Int32).getD 0 0))) (by decide +kernel)
  | 1, _ => exact lk_g hs 159 (w := Cond.eq (.elem (Term.field (Term.string RX3 72) "java/lang/String" "value" "[B") (.int (Int32.ofNat 1))) (.int (([110, 111, 116] : List Int32).getD 1 0))) (by decide +kernel)
  | 2, _ => exact lk_g hs 160 (w := Cond.eq (.elem (Term.field (Term.string RX3 72) "java/lang/String" "value" "[B") (.int (Int32.ofNat 2))) (.int (([110, 111, 116] : List Int32).getD 2 0))) (by decide +kernel)
  | _ + 3, h => exact absurd h (by omega)
theorem lk_low (hs : ∀ c ∈ gvn, c.before #[Value.ref b] s = true) {A : Nat → Prop} (hA : ∀ a : Nat, a < s.heap.size → ¬ A a) : ∃ t : Nat, (Term.static "PleaPapers$ClaimReader" "LOW_FACTS" "[J").eval #[Value.ref b] s none [] s = some (.ref t) ∧ va_T .long t 6 (fun j => .long (lowF.getD j 0)) A s s.heap := by
  refine va_Tof (N := 6) (f := fun j => .long (lowF.getD j 0)) (by decide) (lk_g hs 10 (w := Cond.arrayOf (Term.static "PleaPapers$ClaimReader" "LOW_FACTS" "[J") .long) (by decide +kernel)) (va_eqt (lk_g hs 11 (w := Cond.eq (.length (Term.static "PleaPapers$ClaimReader" "LOW_FACTS" "[J")) (.int (Int32.ofNat 6))) (by decide +kernel))) (fun j hj => ?_) hA
  match j, hj with
  | 0, _ => exact va_eqtl (lk_g hs 12 (w := Cond.eq (.elem (Term.static "PleaPapers$ClaimReader" "LOW_FACTS" "[J") (.int (Int32.ofNat 0))) (.long (lowF.getD 0 0))) (by decide +kernel))
  | 1, _ => exact va_eqtl (lk_g hs 13 (w := Cond.eq (.elem (Term.static "PleaPapers$ClaimReader" "LOW_FACTS" "[J") (.int (Int32.ofNat 1))) (.long (lowF.getD 1 0))) (by decide +kernel))
  | 2, _ => exact va_eqtl (lk_g hs 14 (w := Cond.eq (.elem (Term.static "PleaPapers$ClaimReader" "LOW_FACTS" "[J") (.int (Int32.ofNat 2))) (.long (lowF.getD 2 0))) (by decide +kernel))
  | 3, _ => exact va_eqtl (lk_g hs 15 (w := Cond.eq (.elem (Term.static "PleaPapers$ClaimReader" "LOW_FACTS" "[J") (.int (Int32.ofNat 3))) (.long (lowF.getD 3 0))) (by decide +kernel))
  | 4, _ => exact va_eqtl (lk_g hs 16 (w := Cond.eq (.elem (Term.static "PleaPapers$ClaimReader" "LOW_FACTS" "[J") (.int (Int32.ofNat 4))) (.long (lowF.getD 4 0))) (by decide +kernel))
  | 5, _ => exact va_eqtl (lk_g hs 17 (w := Cond.eq (.elem (Term.static "PleaPapers$ClaimReader" "LOW_FACTS" "[J") (.int (Int32.ofNat 5))) (.long (lowF.getD 5 0))) (by decide +kernel))
  | _ + 6, h => exact absurd h (by omega)
theorem lk_ref (hts : ∀ w ∈ lw_tbl, w.before #[Value.ref b] s = true) : ∀ i, i < 12 → (Cond.stringRef (sR i).1 (sR i).2.1 (sR i).2.2).before #[Value.ref b] s = true := fun i hi => match i, hi with
  | 0, _ => lk_t hts 375 (by decide +kernel)
  | 1, _ => lk_t hts 436 (by decide +kernel)
  | 2, _ => lk_t hts 448 (by decide +kernel)
  | 3, _ => lk_t hts 458 (by decide +kernel)
  | 4, _ => lk_t hts 477 (by decide +kernel)
  | 5, _ => lk_t hts 478 (by decide +kernel)
  | 6, _ => lk_t hts 527 (by decide +kernel)
  | 7, _ => lk_t hts 529 (by decide +kernel)
  | 8, _ => lk_t hts 530 (by decide +kernel)
  | 9, _ => lk_t hts 531 (by decide +kernel)
  | 10, _ => lk_t hts 532 (by decide +kernel)
  | 11, _ => lk_t hts 540 (by decide +kernel)
  | _ + 12, h => absurd h (by omega)
theorem lk_str (hts : ∀ w ∈ lw_tbl, w.before #[Value.ref b] s = true) (hgv : (Jvm.Cond.and given_1 narrow_1).before #[Value.ref b] s = true) : ∃ z : Zw, Str z (fun q => s.heap.size ≤ q) s s.heap := by
  have hs : ∀ c ∈ gvn, c.before #[Value.ref b] s = true := flat_of_before _ hgv
  have hA : ∀ a : Nat, a < s.heap.size → ¬ (fun q : Nat => s.heap.size ≤ q) a := fun a h => Nat.not_le.mpr h
  have h0 : ∀ i : Nat, ∃ q : Nat × Nat, i < 12 → (Term.string (sR i).1 (sR i).2.1).eval #[Value.ref b] s none [] s = some (.ref q.1) ∧ va_O "java/lang/String" q.1 (fun q => s.heap.size ≤ q) s s.heap ∧ va_OF "java/lang/String" "coder" "B" (.int 0) q.1 (fun q => s.heap.size ≤ q) s s.heap ∧ va_OF "java/lang/String" "value" "[B" (.ref q.2) q.1 (fun q => s.heap.size ≤ q) s s.heap ∧ va_T .byte q.2 (sLen.getD i 0) (fun j => .int ((sByt.getD i []).getD j 0)) (fun q => s.heap.size ≤ q) s s.heap := by
    intro i
    match i with
    | 0 => exact (lk_s0 hs hA).imp (fun _ h _ => h)
    | 1 => exact (lk_s1 hs hA).imp (fun _ h _ => h)
    | 2 => exact (lk_s2 hs hA).imp (fun _ h _ => h)
    | 3 => exact (lk_s3 hs hA).imp (fun _ h _ => h)
    | 4 => exact (lk_s4 hs hA).imp (fun _ h _ => h)
    | 5 => exact (lk_s5 hs hA).imp (fun _ h _ => h)
    | 6 => exact (lk_s6 hs hA).imp (fun _ h _ => h)
    | 7 => exact (lk_s7 hs hA).imp (fun _ h _ => h)
    | 8 => exact (lk_s8 hs hA).imp (fun _ h _ => h)
    | 9 => exact (lk_s9 hs hA).imp (fun _ h _ => h)
    | 10 => exact (lk_s10 hs hA).imp (fun _ h _ => h)
    | 11 => exact (lk_s11 hs hA).imp (fun _ h _ => h)
    | _ + 12 => exact ⟨(0, 0), fun h => absurd h (by omega)⟩
  obtain ⟨w, hw⟩ := Classical.axiomOfChoice h0
  obtain ⟨t, ht, hT⟩ := lk_low hs hA
  have hf := va_Zqof (lk_t hts 413 (w := .laysStatic "jdk/internal/util/Preconditions" "SIOOBE_FORMATTER" "Ljava/util/function/BiFunction;") (by decide +kernel)) (lk_t hts 14 (by decide +kernel)) (lk_g hs 5 (by decide +kernel)) hA
  refine ⟨(fun i => (w i).1, fun i => (w i).2, t), fun i hi => (hw i hi).2, fun i hi => vk_R.of (lk_ref hts i hi) (hw i hi).1, va_Zref (lk_t hts 501 (by decide +kernel)) (lk_t hts 3 (by decide +kernel)) ht hA, hT, va_Zof (lk_t hts 397 (by decide +kernel)) (lk_t hts 12 (by decide +kernel)) (va_eqi (lk_g hs 4 (by decide +kernel))) hA, ?_⟩
  rcases hf with hf | ⟨f, hf⟩
  · exact ⟨none, hf⟩
  · exact ⟨some f, hf⟩
end LAW0
