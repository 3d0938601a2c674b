/-! System.arraycopy between two of the cells, from the first place on -/
/-- the first m places of ks laid into kd -/
def cpA {α : Type} (M : Nat → Nat → α) (ks kd m : Nat) : Nat → Nat → α := fun k => if k = kd then (fun f => if f < m then M ks f else M kd f) else M k
theorem cpA_ne {α : Type} {M : Nat → Nat → α} {ks kd m k : Nat} (h : k ≠ kd) : cpA M ks kd m k = M k := if_neg h
theorem cpA_at {α : Type} {M : Nat → Nat → α} {ks kd m f : Nat} (h : f < m) : cpA M ks kd m kd f = M ks f := by
  show (if kd = kd then (fun f => if f < m then M ks f else M kd f) else M kd) f = _
  rw [if_pos rfl]
  exact if_pos h
theorem cpA_cpy {α : Type} {M : Nat → Nat → α} {ks kd m : Nat} (hm : m < 2 ^ 31) : va_cpy (M ks) (M kd) (nI 0).toNatClampNeg (nI 0).toNatClampNeg (nI m).toNatClampNeg = cpA M ks kd m kd := by
  funext f
  rw [nI_clamp (by decide), nI_clamp hm]
  show (if 0 ≤ f ∧ f < 0 + m then M ks (0 + (f - 0)) else M kd f) = (if kd = kd then (fun f => if f < m then M ks f else M kd f) else M kd) f
  rw [if_pos rfl]
  show _ = if f < m then M ks f else M kd f
  by_cases h : f < m
  · rw [if_pos ⟨Nat.zero_le _, by omega⟩, if_pos h, Nat.zero_add, Nat.sub_zero]
  · rw [if_neg (fun q => h (by omega)), if_neg h]
theorem mE_cpI {cA : Nat → ClassId} {ad : Nat → Nat} {I : MI} {J : MJ} {ks kd len m : Nat} (h : shA kd = some (0, len)) : upE (mE cA ad I J) kd (.inl (cA 0, len, .inl (cpA I ks kd m kd))) = mE cA ad (cpA I ks kd m) J := by
  funext q
  by_cases e : q = kd
  · subst e
    rw [mE_int h]
    simp [upE]
  · rw [mE_offI (cpA_ne e)]
    simp [upE, e]
theorem mE_cpZ {cA : Nat → ClassId} {ad : Nat → Nat} {I : MI} {J : MJ} {ks kd len m : Nat} (h : shA kd = some (2, len)) : upE (mE cA ad I J) kd (.inl (cA 2, len, .inl (cpA I ks kd m kd))) = mE cA ad (cpA I ks kd m) J := by
  funext q
  by_cases e : q = kd
  · subst e
    rw [mE_bool h]
    simp [upE]
  · rw [mE_offI (cpA_ne e)]
    simp [upE, e]
theorem mE_cpL {cA : Nat → ClassId} {ad : Nat → Nat} {I : MI} {J : MJ} {ks kd len m : Nat} (h : shA kd = some (1, len)) : upE (mE cA ad I J) kd (.inl (cA 1, len, .inr (.inl (cpA J ks kd m kd)))) = mE cA ad I (cpA J ks kd m) := by
  funext q
  by_cases e : q = kd
  · subst e
    rw [mE_long h]
    simp [upE]
  · rw [mE_offJ (cpA_ne e)]
    simp [upE, e]
theorem nI_nneg {a : Nat} (h : a < 2 ^ 31) : ¬ nI a < 0 := by
  intro q
  have h1 := nI_clamp h
  have h2 : (nI a).toInt < 0 := by simpa using Int32.lt_iff_toInt_lt.mp q
  have h3 : (nI a).toInt.toNat = a := h1
  have h4 : a = 0 := by omega
  subst h4
  exact absurd q (by decide)
section FCP
variable {p : Program} {l : Launch} {e : Env} {R : Room} {s : State} {m : MethodId} {args : Array Value} {below : List Frame} {meth : Method} {c : Code} {Q : State → Prop} {D : va_G} {A : Nat → Prop} {nL : Nat} {cc : ByteArray} {own : String} {ret : Option FieldType} {cA : Nat → ClassId} {cells slots : Nat} {n : Nat} {ad : Nat → Nat} {I : MI} {J : MJ} {pc : Nat} {lo : List (Nat × Value)} {st : List Value}
theorem cp_st : tin (.static arraycopyName) := tin.of 555 (by decide +kernel) rfl
theorem cp_nt : tin (.native arraycopyName) := tin.of 556 (by decide +kernel) rfl
theorem cp_in : tin (.initialized "java/lang/System") := tin.of 16 (by decide +kernel) rfl
theorem cp_X1 : tin (.methodLink RX1 43 arraycopyName) := tin.of 802 (by decide +kernel) rfl
theorem cp_X4 : tin (.methodLink RX4 32 arraycopyName) := tin.of 554 (by decide +kernel) rfl
theorem cp_X5 : tin (.methodLink RX5 36 arraycopyName) := tin.of 811 (by decide +kernel) rfl
theorem r_cpI (C : fC p s m args meth c cc nL own ret D cA A) (ks kd : Nat) {idx l0 l1 q : Nat} (hd : decode cc pc = .ok (.invokestatic idx, 3)) (hlk : tin (.methodLink own idx arraycopyName)) (hs : shA ks = some (0, l0)) (hd1 : shA kd = some (0, l1)) (hks : ks < n) (hkd : kd < n) (h0 : q ≤ l0) (h1 : q ≤ l1) (hq : q < 2 ^ 31) (hw : (st.map fun v => v.category).sum ≤ 8) (hR : 1 ≤ R.frames ∧ 8 + (nativeFrameWords "java/lang/System" "arraycopy" 5 + 11) ≤ R.locals) (kk : V p l e R s m args below meth c Q D A nL cells slots n ad (mE cA ad (cpA I ks kd q) J) (pc + 3) lo st) : V p l e R s m args below meth c Q D A nL cells slots n ad (mE cA ad I J) pc lo (.int (nI q) :: .int (nI 0) :: .ref (ad kd) :: .int (nI 0) :: .ref (ad ks) :: st) := by
  intro H locs ls hP hD hS hl
  have e0 : (wsN n ad (mE cA ad I J))[wix ks]? = some (ad ks, .inl (cA 0, l0, .inl (I ks))) := by rw [wsN_get hks (liv_A hs), mE_int hs]
  have e1 : (wsN n ad (mE cA ad I J))[wix kd]? = some (ad kd, .inl (cA 0, l1, .inl (I kd))) := by rw [wsN_get hkd (liv_A hd1), mE_int hd1]
  refine va_copyi C.x C.b (C.ml.trans hl.1.symm) C.ow (C.keep.use hlk args) (C.keep.use cp_nt args) (C.keep.use cp_st args) (C.keep.use cp_in args) C.K hP hD hS (wix ks) (wix kd) 0 0 e0 e1 rfl rfl rfl (nI_nneg (by decide)) (nI_nneg (by decide)) (nI_nneg hq) (by rw [nI_clamp (by decide), nI_clamp hq]; omega) (by rw [nI_clamp (by decide), nI_clamp hq]; omega) (fun i hi => rfl) hR.1 (by omega) hd ?_
  intro H1 locs1 hP1 hD1 hS1
  rw [cpA_cpy hq, wsN_set (liv_A hd1), mE_cpI hd1] at hP1 hD1
  exact kk H1 locs1 ls hP1 hD1 hS1 hl
theorem r_cpZ (C : fC p s m args meth c cc nL own ret D cA A) (ks kd : Nat) {idx l0 l1 q : Nat} (hd : decode cc pc = .ok (.invokestatic idx, 3)) (hlk : tin (.methodLink own idx arraycopyName)) (hs : shA ks = some (2, l0)) (hd1 : shA kd = some (2, l1)) (hks : ks < n) (hkd : kd < n) (h0 : q ≤ l0) (h1 : q ≤ l1) (hq : q < 2 ^ 31) (hb : ∀ f, f < q → I ks f = 0 ∨ I ks f = 1) (hw : (st.map fun v => v.category).sum ≤ 8) (hR : 1 ≤ R.frames ∧ 8 + (nativeFrameWords "java/lang/System" "arraycopy" 5 + 11) ≤ R.locals) (kk : V p l e R s m args below meth c Q D A nL cells slots n ad (mE cA ad (cpA I ks kd q) J) (pc + 3) lo st) : V p l e R s m args below meth c Q D A nL cells slots n ad (mE cA ad I J) pc lo (.int (nI q) :: .int (nI 0) :: .ref (ad kd) :: .int (nI 0) :: .ref (ad ks) :: st) := by
  intro H locs ls hP hD hS hl
  have e0 : (wsN n ad (mE cA ad I J))[wix ks]? = some (ad ks, .inl (cA 2, l0, .inl (I ks))) := by rw [wsN_get hks (liv_A hs), mE_bool hs]
  have e1 : (wsN n ad (mE cA ad I J))[wix kd]? = some (ad kd, .inl (cA 2, l1, .inl (I kd))) := by rw [wsN_get hkd (liv_A hd1), mE_bool hd1]
  refine va_copyi C.x C.b (C.ml.trans hl.1.symm) C.ow (C.keep.use hlk args) (C.keep.use cp_nt args) (C.keep.use cp_st args) (C.keep.use cp_in args) C.K hP hD hS (wix ks) (wix kd) 2 2 e0 e1 rfl rfl rfl (nI_nneg (by decide)) (nI_nneg (by decide)) (nI_nneg hq) (by rw [nI_clamp (by decide), nI_clamp hq]; omega) (by rw [nI_clamp (by decide), nI_clamp hq]; omega) (fun i hi => by
    rw [nI_clamp hq] at hi
    rw [nI_clamp (by decide), Nat.zero_add]
    rcases hb i hi with h | h <;> rw [h] <;> rfl) hR.1 (by omega) hd ?_
  intro H1 locs1 hP1 hD1 hS1
  rw [cpA_cpy hq, wsN_set (liv_A hd1), mE_cpZ hd1] at hP1 hD1
  exact kk H1 locs1 ls hP1 hD1 hS1 hl
theorem r_cpL (C : fC p s m args meth c cc nL own ret D cA A) (ks kd : Nat) {idx l0 l1 q : Nat} (hd : decode cc pc = .ok (.invokestatic idx, 3)) (hlk : tin (.methodLink own idx arraycopyName)) (hs : shA ks = some (1, l0)) (hd1 : shA kd = some (1, l1)) (hks : ks < n) (hkd : kd < n) (h0 : q ≤ l0) (h1 : q ≤ l1) (hq : q < 2 ^ 31) (hw : (st.map fun v => v.category).sum ≤ 8) (hR : 1 ≤ R.frames ∧ 8 + (nativeFrameWords "java/lang/System" "arraycopy" 5 + 11) ≤ R.locals) (kk : V p l e R s m args below meth c Q D A nL cells slots n ad (mE cA ad I (cpA J ks kd q)) (pc + 3) lo st) : V p l e R s m args below meth c Q D A nL cells slots n ad (mE cA ad I J) pc lo (.int (nI q) :: .int (nI 0) :: .ref (ad kd) :: .int (nI 0) :: .ref (ad ks) :: st) := by
  intro H locs ls hP hD hS hl
  have e0 : (wsN n ad (mE cA ad I J))[wix ks]? = some (ad ks, .inl (cA 1, l0, .inr (.inl (J ks)))) := by rw [wsN_get hks (liv_A hs), mE_long hs]
  have e1 : (wsN n ad (mE cA ad I J))[wix kd]? = some (ad kd, .inl (cA 1, l1, .inr (.inl (J kd)))) := by rw [wsN_get hkd (liv_A hd1), mE_long hd1]
  refine va_copyl C.x C.b (C.ml.trans hl.1.symm) C.ow (C.keep.use hlk args) (C.keep.use cp_nt args) (C.keep.use cp_st args) (C.keep.use cp_in args) C.K hP hD hS (wix ks) (wix kd) 1 1 e0 e1 rfl rfl rfl (nI_nneg (by decide)) (nI_nneg (by decide)) (nI_nneg hq) (by rw [nI_clamp (by decide), nI_clamp hq]; omega) (by rw [nI_clamp (by decide), nI_clamp hq]; omega) (fun i hi => rfl) hR.1 (by omega) hd ?_
  intro H1 locs1 hP1 hD1 hS1
  rw [cpA_cpy hq, wsN_set (liv_A hd1), mE_cpL hd1] at hP1 hD1
  exact kk H1 locs1 ls hP1 hD1 hS1 hl
end FCP
