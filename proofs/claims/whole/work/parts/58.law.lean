section LAW1
theorem CS.lo {I I' : MI} {J : MJ} {τ : St} (h : CS I J τ) (hF : ∀ k, k < 117 → I' k = I k) : CS I' J τ := by
  obtain ⟨h1, h2, h3, h4, h5, h6⟩ := h
  refine ⟨h1.rf (fun k a b => hF k (by omega)) (fun _ _ _ => rfl), fun i hi => ⟨by rw [hF 116 (by decide)]; exact (h2 i hi).1, fun hk => ((h2 i hi).2 hk).rf (fun k a b => hF k (by omega)) (fun _ _ _ => rfl)⟩, ⟨fun f hf i hi => ?_, ?_, ?_, ?_⟩, fun p hp => ?_, ⟨h5.1, ?_, fun j hj => ?_⟩, ?_⟩
  · rw [hF (38 + 1 + i) (by omega)]; exact h3.1 f hf i hi
  · rw [hF 38 (by decide)]; exact h3.2.1
  · rw [hF 38 (by decide)]; exact h3.2.2.1
  · rw [hF 38 (by decide)]; exact h3.2.2.2
  · rw [hF 44 (by decide)]; exact h4 p hp
  · rw [hF 1 (by decide)]; exact h5.2.1
  · rw [hF 2 (by decide)]; exact h5.2.2 j hj
  · rw [hF 1 (by decide)]; exact h6
theorem MM.hi {I I' : MI} {τ : St} (h : MM I τ) (hF : ∀ k, 117 ≤ k → I' k = I k) : MM I' τ := by
  obtain ⟨h1, h2, h3, h4, h5, h6⟩ := h
  have hs : ∀ k, 117 < k → k < 134 → I' k = I k := fun k a _ => hF k (by omega)
  refine ⟨h1.r hs, ?_, fun i hi => ⟨by rw [hF 134 (by decide)]; exact (h3 i hi).1, fun hk => ⟨((h3 i hi).2 hk).1.r hs, by rw [hF 132 (by decide)]; exact ((h3 i hi).2 hk).2⟩⟩, h4.of (by rw [hF 117 (by decide)]) (hF 141 (by decide)), by rw [hF 117 (by decide)]; exact h5, by unfold MZs; rw [hF 124 (by decide), hF 131 (by decide)]; exact h6⟩
  unfold MBg
  rw [hF 117 (by decide), hF 132 (by decide)]
  exact h2
/-- the model's first memory -/
theorem MM_0 {I : MI} (h0 : ∀ k, 117 < k → I k = fun _ => 0) (h1 : I 117 17 = nI 0) (h2 : I 117 25 = nI 0) (h3 : I 117 30 = -1) : MM I s0 := by
  refine ⟨⟨⟨Nat.zero_le _, ?_, fun c hc => absurd hc (Nat.not_lt_zero _)⟩, ⟨Nat.zero_le _, ?_, fun p hp => absurd hp (Nat.not_lt_zero _)⟩, ⟨Nat.zero_le _, ?_, fun k hk => absurd hk (Nat.not_lt_zero _)⟩, ?_, by decide, by decide⟩, Or.inr ⟨h1, rfl, fun _ _ => rfl⟩, fun i hi => ⟨?_, fun h => Bool.noConfusion h⟩, ⟨Nat.zero_le _, h2, fun j hj => absurd hj (Nat.not_lt_zero _)⟩, h3, ⟨fun j hj => Or.inl ?_, fun j hj => Or.inl ?_⟩⟩
  · rw [h0 118 (by decide)]; rfl
  · rw [h0 122 (by decide)]; rfl
  · rw [h0 126 (by decide)]; rfl
  · rw [h0 133 (by decide)]; rfl
  · rw [h0 134 (by decide)]; rfl
  · rw [h0 124 (by decide)]
  · rw [h0 131 (by decide)]
theorem q_claim_u {τ τ1 τ2 : St} {r1 r2 : Int32} (h1 : q_claim τ r1 τ1) (h2 : q_claim τ r2 τ2) : r1 = r2 ∧ τ1 = τ2 := by
  unfold q_claim at h1 h2
  by_cases a : 120 < sL τ
  · rw [if_pos a] at h1 h2
    exact ⟨h1.1.trans h2.1.symm, h1.2.trans h2.2.symm⟩
  · rw [if_neg a] at h1 h2
    clear a
    by_cases a : 6 ≤ (sCl τ).1
    · rw [if_pos a] at h1 h2
      exact ⟨h1.1.trans h2.1.symm, h1.2.trans h2.2.symm⟩
    · rw [if_neg a] at h1 h2
      clear a
      obtain ⟨f, pl, C, p1, g1⟩ := h1
      obtain ⟨f', pl', C', p2, g2⟩ := h2
      obtain ⟨e0, u1, u2⟩ := p1.uniq p2
      subst e0
      by_cases e : f = 0
      · have u3 := u2 e
        subst u3
        rw [if_pos e] at g1 g2
        refine ⟨g1.1.trans g2.1.symm, ?_⟩
        rw [g1.2, g2.2]
        unfold rdS
        rw [if_pos e, if_pos e]
      · have u3 := u1 e
        subst u3
        rw [if_neg e] at g1 g2
        exact ⟨g1.1.trans g2.1.symm, g1.2.trans g2.2.symm⟩
theorem q_paper_u {τ τ1 τ2 : St} {x r1 r2 : Int32} (h1 : q_paper τ x r1 τ1) (h2 : q_paper τ x r2 τ2) : r1 = r2 ∧ τ1 = τ2 := by
  unfold q_paper at h1 h2
  by_cases a : ¬ vdN x 1000
  · rw [if_pos a] at h1 h2
    exact ⟨h1.1.trans h2.1.symm, h1.2.trans h2.2.symm⟩
  · rw [if_neg a] at h1 h2
    clear a
    by_cases a : cN x < ldN (sPp τ)
    · rw [if_pos a] at h1 h2
      exact ⟨h1.1.trans h2.1.symm, h1.2.trans h2.2.symm⟩
    · rw [if_neg a] at h1 h2
      clear a
      by_cases a : 10 ≤ (sPp τ).1
      · rw [if_pos a] at h1 h2
        exact ⟨h1.1.trans h2.1.symm, h1.2.trans h2.2.symm⟩
      · rw [if_neg a] at h1 h2
        clear a
        obtain ⟨f, pl, C, p1, g1⟩ := h1
        obtain ⟨f', pl', C', p2, g2⟩ := h2
        obtain ⟨e0, u1, u2⟩ := p1.uniq p2
        subst e0
        by_cases e : f = 0
        · have u3 := u2 e
          subst u3
          rw [if_pos e] at g1 g2
          refine ⟨g1.1.trans g2.1.symm, ?_⟩
          rw [g1.2, g2.2]
          unfold rdS
          rw [if_pos e, if_pos e]
        · have u3 := u1 e
          subst u3
          rw [if_neg e] at g1 g2
          exact ⟨g1.1.trans g2.1.symm, g1.2.trans g2.2.symm⟩
variable {p : Program} {l : Launch} {e : Env} {R : Room} {s : State} {m : MethodId} {args : Array Value} {below : List Frame} {meth : Method} {c : Code} {Q : State → Prop} {D : va_G} {A : Nat → Prop} {nL : Nat} {cc : ByteArray} {own : String} {ret : Option FieldType} {cA : Nat → ClassId} {cells slots : Nat} {n : Nat} {ad : Nat → Nat} {E : Nat → va_E} {I : MI} {J : MJ} {pc : Nat} {lo : List (Nat × Value)} {st : List Value} {z : Zw} {b L i : Nat} {xs : Nat → Int32}
theorem r_sld (C : fC p s m args meth c cc nL own ret D cA A) (hX : va_X b L xs s s.heap) (hbl : b < s.heap.size) (hbA : ¬ A b) {x : Int32} (f : Nat) (hi : x = nI f) (hf : f < L) (hL : L < 2 ^ 31) (hd : decode cc pc = .ok (.iaload, 1)) (k : V p l e R s m args below meth c Q D A nL cells slots n ad E (pc + 1) lo (.int (xs f) :: st)) : V p l e R s m args below meth c Q D A nL cells slots n ad E pc lo (.int x :: .ref b :: st) := by
  subst hi
  intro H locs ls hP hD hS hl
  refine va_sld C.x C.b hX hbl hbA hS (vp_in_nI hf hL) hd ?_
  rw [nI_clamp (by omega)]
  exact k H locs ls hP hD hS hl
theorem r_slen (C : fC p s m args meth c cc nL own ret D cA A) (hX : va_X b L xs s s.heap) (hbl : b < s.heap.size) (hbA : ¬ A b) (hd : decode cc pc = .ok (.arraylength, 1)) (k : V p l e R s m args below meth c Q D A nL cells slots n ad E (pc + 1) lo (.int (nI L) :: st)) : V p l e R s m args below meth c Q D A nL cells slots n ad E pc lo (.ref b :: st) := fun H locs ls hP hD hS hl => va_slen C.x C.b hX hbl hbA hS hd (k H locs ls hP hD hS hl)
abbrev lwL (b : Nat) (ad : Nat → Nat) (i : Nat) : List (Nat × Value) := [(3, .int (nI i)), (2, .ref (ad 117)), (1, .ref (ad 0)), (0, .ref b)]
theorem r_arg (C : fC p s m args meth c cc nL own ret D cA A) (hX : va_X b L xs s s.heap) (hbl : b < s.heap.size) (hbA : ¬ A b) (j : Nat) (hj : i + j < L) (hL : L < 2 ^ 31) {x : Int} (hz : Int32.ofInt x = nI j) (d0 : decode cc pc = .ok (.aload_n 0, 1)) (d1 : decode cc (pc + 1) = .ok (.iload_n 3, 1)) (d2 : decode cc (pc + 1 + 1) = .ok (.iconst x, 1)) (d3 : decode cc (pc + 1 + 1 + 1) = .ok (.iadd, 1)) (d4 : decode cc (pc + 1 + 1 + 1 + 1) = .ok (.iaload, 1)) (k : V p l e R s m args below meth c Q D A nL cells slots n ad E (pc + 1 + 1 + 1 + 1 + 1) (lwL b ad i) (.int (xs (i + j)) :: st)) : V p l e R s m args below meth c Q D A nL cells slots n ad E pc (lwL b ad i) st := by
  refine r_aload_n C 3 d0 rfl ?_
  refine r_iload_n C 0 d1 rfl ?_
  refine r_iconst C d2 hz ?_
  refine r_iadd C d3 ?_
  exact r_sld C hX hbl hbA (i + j) (nI_add i j) hj hL d4 k
end LAW1
