def sLen : List Nat := [3, 3, 2, 3, 3, 2, 3, 5, 4, 5, 4, 3]
def sByt : List (List Int32) := [[111, 119, 101], [112, 97, 121], [105, 102], [110, 111, 116], [97, 110, 100], [111, 114], [115, 97, 121], [97, 100, 109, 105, 116], [100, 101, 110, 121], [100, 111, 117, 98, 116], [116, 97, 107, 101], [110, 111, 116]]
def sRef : List (String × Nat × String) := [(RX0, 31, "owe"), (RX0, 37, "pay"), (RX0, 57, "if"), (RX0, 79, "not"), (RX0, 77, "and"), (RX0, 69, "or"), (RX3, 58, "say"), (RX3, 64, "\x61dmit"), (RX3, 66, "deny"), (RX3, 68, "doubt"), (RX3, 70, "take"), (RX3, 72, "not")]
def sR (i : Nat) : String × Nat × String := sRef.getD i ("", 0, "")
def lowF : List Int64 := [-6148914691236517206, -3689348814741910324, -1085102592571150096, -71777214294589696, -281470681808896, -4294967296]
/-- where the String constants, their bytes and LOW_FACTS lie -/
abbrev Zw : Type := (Nat → Nat) × (Nat → Nat) × Nat
def Str1 (z : Zw) (A : Nat → Prop) (U : State) (H : Heap) (i : Nat) : Prop := va_O "java/lang/String" (z.1 i) A U H ∧ va_OF "java/lang/String" "coder" "B" (.int 0) (z.1 i) A U H ∧ va_OF "java/lang/String" "value" "[B" (.ref (z.2.1 i)) (z.1 i) A U H ∧ va_T .byte (z.2.1 i) (sLen.getD i 0) (fun j => .int ((sByt.getD i []).getD j 0)) A U H
def Str (z : Zw) (A : Nat → Prop) (U : State) (H : Heap) : Prop :=
  (∀ i, i < 12 → Str1 z A U H i) ∧ (∀ i, i < 12 → vk_R (sR i).1 (sR i).2.1 (sR i).2.2 (z.1 i) U) ∧ va_Z "PleaPapers$ClaimReader" "LOW_FACTS" "[J" (.ref z.2.2) A U H ∧ va_T .long z.2.2 6 (fun j => .long (lowF.getD j 0)) A U H ∧ va_Z "java/lang/String" "COMPACT_STRINGS" "Z" (.int 1) A U H ∧ ∃ f : Option Nat, va_Z "jdk/internal/util/Preconditions" "SIOOBE_FORMATTER" "Ljava/util/function/BiFunction;" (va_rf f) A U H
theorem Str.to {z : Zw} {A B : Nat → Prop} {s U : State} {H : Heap} {locs : List Loc} (h : Str z A s s.heap) (hS : va_S A s.heap H locs) (hW : s.WarmedH U.vm) (hB : ∀ q, B q → A q) : Str z B U H := by
  obtain ⟨h1, h2, h3, h4, h5, f, h6⟩ := h
  have hk : ∀ a : Nat, a < s.heap.size → ¬ A a → H[a]? = s.heap[a]? := hS.2.1
  have ha := hW.alike
  refine ⟨fun i hi => ?_, fun i hi => (h2 i hi).warm hW, ((h3.kept hk).moved ha).narrow hB, ((h4.kept hk).moved ha).narrow hB, ((h5.kept hk).moved ha).narrow hB, f, ((h6.kept hk).moved ha).narrow hB⟩
  obtain ⟨a1, a2, a3, a4⟩ := h1 i hi
  exact ⟨(va_O.moved ha (a1.kept hk)).narrow hB, (va_OF.moved ha (a2.kept hk)).narrow hB, (va_OF.moved ha (a3.kept hk)).narrow hB, (va_T.moved ha (a4.kept hk)).narrow hB⟩
theorem Str.same {z : Zw} {A : Nat → Prop} {u U : State} {H : Heap} (hv : U.vm = u.vm) (h : Str z A u H) : Str z A U H := by
  obtain ⟨h1, h2, h3, h4, h5, f, h6⟩ := h
  have ha : u.vm.Alike U.vm := by rw [hv]; exact Vm.Alike.refl _
  refine ⟨fun i hi => ?_, fun i hi => (h2 i hi).same hv, h3.moved ha, h4.moved ha, h5.moved ha, f, h6.moved ha⟩
  obtain ⟨a1, a2, a3, a4⟩ := h1 i hi
  exact ⟨va_O.moved ha a1, va_OF.moved ha a2, va_OF.moved ha a3, va_T.moved ha a4⟩
/-- the link of a field: own's pool entry idx is field j of class ci -/
def FL (own : String) (idx ci j : Nat) : Prop := ∃ (Cn : String) (T : u_T) (N : Nat), vwCl[ci]? = some (Cn, T, N) ∧ j < N ∧ (∀ w ∈ u_ws Cn T N, tin w) ∧ (∃ ty0 : Nat → FieldType, (∀ k, k < N → parseFieldDescriptor (T k).2.2.1 = some (ty0 k)) ∧ ∀ a, a < N → ∀ b, b < N → a ≠ b → (T a).2.1 ≠ (T b).2.1) ∧ (tin (.fieldLink own idx (T j).1 (T j).2.1 (T j).2.2.1) ∨ ∃ host, tin (.fieldLinkNest own idx (T j).1 (T j).2.1 (T j).2.2.1 host))
/-- a field that may be written, of a type -/
def FT (ci j : Nat) (ty : FieldType) : Prop := ∃ (Cn : String) (T : u_T) (N : Nat), vwCl[ci]? = some (Cn, T, N) ∧ (T j).2.2.2 = false ∧ parseFieldDescriptor (T j).2.2.1 = some ty
/-- the link of a method -/
def CLc (own : String) (idx : Nat) (y : MethodName) : Prop := tin (.methodLink own idx y) ∨ ∃ host, tin (.methodLinkNest own idx y host)
def CL (own : String) (idx : Nat) (y : MethodName) (bytes : ByteArray) (maxL : Nat) (ret : Option FieldType) (np : Nat) : Prop := CLc own idx y ∧ tin (.initialized y.cls) ∧ tin (.code y bytes maxL ret) ∧ (y.cls ≠ "java/lang/invoke/MethodHandle" ∧ y.cls ≠ "java/lang/invoke/VarHandle" ∧ (parseMethodDescriptor y.desc).map (fun d => d.parameters.length) = some np)
/-- an instance method, by its class and place -/
def CI (y : MethodName) (ci : Nat) : Prop := tin (.instanceMethod y) ∧ tin (.selects y.cls y y) ∧ ∃ (T : u_T) (N : Nat), vwCl[ci]? = some (y.cls, T, N)
def rmL (h : Nat) : Room := { frames := h, cells := 0, slots := 0, locals := 100 * h }
def Ar (n : Nat) (ad : Nat → Nat) (sz : Nat) : Nat → Prop := fun q => (∃ k, k < n ∧ liv k = true ∧ q = ad k) ∨ sz ≤ q
section FR
variable {p : Program} {l : Launch} {e : Env} {R : Room} {s : State} {m : MethodId} {args : Array Value} {below : List Frame} {meth : Method} {c : Code} {Q : State → Prop} {D : va_G} {A : Nat → Prop} {nL : Nat} {cc : ByteArray} {own : String} {ret : Option FieldType} {cA : Nat → ClassId} {cells slots : Nat} {n : Nat} {ad : Nat → Nat} {E : Nat → va_E} {I I' : MI} {J J' : MJ} {pc : Nat} {lo : List (Nat × Value)} {st : List Value} {z : Zw}
theorem r_getI (C : fC p s m args meth c cc nL own ret D cA A) {idx k ci j : Nat} (hd : decode cc pc = .ok (.getfield idx, 3)) (hf : FL own idx ci j) (hs : shF k j = some (ci, none)) (hk : k < n) (kk : V p l e R s m args below meth c Q D A nL cells slots n ad (mE cA ad I J) (pc + 3) lo (.int (I k j) :: st)) : V p l e R s m args below meth c Q D A nL cells slots n ad (mE cA ad I J) pc lo (.ref (ad k) :: st) := by
  intro H locs ls hP hD hS hl
  obtain ⟨Cn, T, N, hc, hj, hin, -, hlk⟩ := hf
  obtain ⟨fl, e1, e2⟩ := shF_spec hs
  have he : (wsN n ad (mE cA ad I J))[wix k]? = some (ad k, .inr (ci, fl.mapIdx (fun i x => fV ad I k i x))) := by rw [wsN_get hk (liv_F hs), mE_obj e1]
  have hv : (fl.mapIdx (fun i x => fV ad I k i x))[j]? = some (.int (I k j)) := by rw [List.getElem?_mapIdx, e2]; rfl
  have hts : ∀ w ∈ u_ws Cn T N, w.before args s = true := fun w h => C.keep.use (hin w h) args
  rcases hlk with hlk | ⟨host, hlk⟩
  · exact va_get (D := D) (ci := ci) (v := .int (I k j)) (C := Cn) (T := T) (N := N) C.x C.b hts (fun w h => h) C.ow C.K hP (wix k) he hc j hj (C.keep.use hlk args) (fun _ h => h) hv hd (kk H locs ls hP hD hS hl)
  · exact va_getN (D := D) (ci := ci) (v := .int (I k j)) (C := Cn) (T := T) (N := N) C.x C.b hts (fun w h => h) C.ow C.K hP (wix k) he hc j hj (C.keep.use hlk args) (fun _ h => h) hv hd (kk H locs ls hP hD hS hl)
theorem r_getR (C : fC p s m args meth c cc nL own ret D cA A) {idx k ci j k2 : Nat} (hd : decode cc pc = .ok (.getfield idx, 3)) (hf : FL own idx ci j) (hs : shF k j = some (ci, some k2)) (hk : k < n) (kk : V p l e R s m args below meth c Q D A nL cells slots n ad (mE cA ad I J) (pc + 3) lo (.ref (ad k2) :: st)) : V p l e R s m args below meth c Q D A nL cells slots n ad (mE cA ad I J) pc lo (.ref (ad k) :: st) := by
  intro H locs ls hP hD hS hl
  obtain ⟨Cn, T, N, hc, hj, hin, -, hlk⟩ := hf
  obtain ⟨fl, e1, e2⟩ := shF_spec hs
  have he : (wsN n ad (mE cA ad I J))[wix k]? = some (ad k, .inr (ci, fl.mapIdx (fun i x => fV ad I k i x))) := by rw [wsN_get hk (liv_F hs), mE_obj e1]
  have hv : (fl.mapIdx (fun i x => fV ad I k i x))[j]? = some (.ref (ad k2)) := by rw [List.getElem?_mapIdx, e2]; rfl
  have hts : ∀ w ∈ u_ws Cn T N, w.before args s = true := fun w h => C.keep.use (hin w h) args
  rcases hlk with hlk | ⟨host, hlk⟩
  · exact va_get (D := D) (ci := ci) (v := .ref (ad k2)) (C := Cn) (T := T) (N := N) C.x C.b hts (fun w h => h) C.ow C.K hP (wix k) he hc j hj (C.keep.use hlk args) (fun _ h => h) hv hd (kk H locs ls hP hD hS hl)
  · exact va_getN (D := D) (ci := ci) (v := .ref (ad k2)) (C := Cn) (T := T) (N := N) C.x C.b hts (fun w h => h) C.ow C.K hP (wix k) he hc j hj (C.keep.use hlk args) (fun _ h => h) hv hd (kk H locs ls hP hD hS hl)
theorem r_putT (C : fC p s m args meth c cc nL own ret D cA A) {idx k ci j : Nat} {ty : FieldType} {v : Int32} (hd : decode cc pc = .ok (.putfield idx, 3)) (hf : FL own idx ci j) (ht : FT ci j ty) (hn : narrow ty (.int v) = .int v) (hfit : fits ty (.int v) = true) (hs : shF k j = some (ci, none)) (hk : k < n) (kk : V p l e R s m args below meth c Q D A nL cells slots n ad (mE cA ad (up2 I k j v) J) (pc + 3) lo st) : V p l e R s m args below meth c Q D A nL cells slots n ad (mE cA ad I J) pc lo (.int v :: .ref (ad k) :: st) := by
  intro H locs ls hP hD hS hl
  obtain ⟨Cn, T, N, hc, hj, hin, ⟨ty0, hty, hnm⟩, hlk⟩ := hf
  obtain ⟨Cn', T', N', hc', hfin, hpd⟩ := ht
  obtain ⟨rfl, rfl, rfl⟩ : Cn = Cn' ∧ T = T' ∧ N = N' := by
    have h := hc.symm.trans hc'
    simp only [Option.some.injEq, Prod.mk.injEq] at h
    exact h
  obtain ⟨fl, e1, e2⟩ := shF_spec hs
  have he : (wsN n ad (mE cA ad I J))[wix k]? = some (ad k, .inr (ci, fl.mapIdx (fun i x => fV ad I k i x))) := by rw [wsN_get hk (liv_F hs), mE_obj e1]
  have hlen : j < (fl.mapIdx (fun i x => fV ad I k i x)).length := by
    rw [List.length_mapIdx]; exact (List.getElem?_eq_some_iff.mp e2).1
  have hts : ∀ w ∈ u_ws Cn T N, w.before args s = true := fun w h => C.keep.use (hin w h) args
  have go : ∀ (H1 : Heap) (locs1 : List Loc), va_P D vwCl ((wsN n ad (mE cA ad I J)).set (wix k) (ad k, .inr (ci, (fl.mapIdx (fun i x => fV ad I k i x)).set j (.int v)))) H1 → va_D A ((wsN n ad (mE cA ad I J)).set (wix k) (ad k, .inr (ci, (fl.mapIdx (fun i x => fV ad I k i x)).set j (.int v)))) → va_S A s.heap H1 locs1 → W p l e R s m args below meth c H1 locs1 cells slots Q (F0 m (pc + 3) ls st) := by
    intro H1 locs1 hP1 hD1 hS1
    rw [wsN_set (liv_F hs), mE_put e1 e2] at hP1 hD1
    exact kk H1 locs1 ls hP1 hD1 hS1 hl
  rcases hlk with hlk | ⟨host, hlk⟩
  · exact va_put (D := D) (ci := ci) (v := .int v) (ty := ty) (C := Cn) (T := T) (N := N) C.x C.b hts (fun w h => h) ty0 hty hnm C.ow C.K hP hD hS (wix k) he hc j hj (C.keep.use hlk args) (fun _ h => h) hfin hpd hn hfit hlen hd go
  · exact va_putN (D := D) (ci := ci) (v := .int v) (ty := ty) (C := Cn) (T := T) (N := N) C.x C.b hts (fun w h => h) ty0 hty hnm C.ow C.K hP hD hS (wix k) he hc j hj (C.keep.use hlk args) (fun _ h => h) hfin hpd hn hfit hlen hd go
theorem r_putI (C : fC p s m args meth c cc nL own ret D cA A) {idx k ci j : Nat} {v : Int32} (hd : decode cc pc = .ok (.putfield idx, 3)) (hf : FL own idx ci j) (ht : FT ci j .int) (hs : shF k j = some (ci, none)) (hk : k < n) (kk : V p l e R s m args below meth c Q D A nL cells slots n ad (mE cA ad (up2 I k j v) J) (pc + 3) lo st) : V p l e R s m args below meth c Q D A nL cells slots n ad (mE cA ad I J) pc lo (.int v :: .ref (ad k) :: st) := r_putT C hd hf ht rfl rfl hs hk kk
theorem r_iald (C : fC p s m args meth c cc nL own ret D cA A) {k len : Nat} {i : Int32} (f : Nat) (hd : decode cc pc = .ok (.iaload, 1)) (hs : shA k = some (0, len)) (hk : k < n) (hi : i = nI f) (hf : f < len) (hl0 : len < 2 ^ 31) (kk : V p l e R s m args below meth c Q D A nL cells slots n ad (mE cA ad I J) (pc + 1) lo (.int (I k f) :: st)) : V p l e R s m args below meth c Q D A nL cells slots n ad (mE cA ad I J) pc lo (.int i :: .ref (ad k) :: st) := by
  intro H locs ls hP hD hS hl
  subst hi
  have he : (wsN n ad (mE cA ad I J))[wix k]? = some (ad k, .inl (cA 0, len, .inl (I k))) := by rw [wsN_get hk (liv_A hs), mE_int hs]
  refine va_iald C.x C.b C.K hP (wix k) 0 he rfl (vp_in_nI hf hl0) hd ?_
  rw [nI_clamp (by omega)]
  exact kk H locs ls hP hD hS hl
theorem r_zald (C : fC p s m args meth c cc nL own ret D cA A) {k len : Nat} {i : Int32} (f : Nat) (hd : decode cc pc = .ok (.baload, 1)) (hs : shA k = some (2, len)) (hk : k < n) (hi : i = nI f) (hf : f < len) (hl0 : len < 2 ^ 31) (kk : V p l e R s m args below meth c Q D A nL cells slots n ad (mE cA ad I J) (pc + 1) lo (.int (I k f) :: st)) : V p l e R s m args below meth c Q D A nL cells slots n ad (mE cA ad I J) pc lo (.int i :: .ref (ad k) :: st) := by
  intro H locs ls hP hD hS hl
  subst hi
  have he : (wsN n ad (mE cA ad I J))[wix k]? = some (ad k, .inl (cA 2, len, .inl (I k))) := by rw [wsN_get hk (liv_A hs), mE_bool hs]
  refine va_zald C.x C.b C.K hP (wix k) 2 he rfl (vp_in_nI hf hl0) hd ?_
  rw [nI_clamp (by omega)]
  exact kk H locs ls hP hD hS hl
theorem r_lald (C : fC p s m args meth c cc nL own ret D cA A) {k len : Nat} {i : Int32} (f : Nat) (hd : decode cc pc = .ok (.laload, 1)) (hs : shA k = some (1, len)) (hk : k < n) (hi : i = nI f) (hf : f < len) (hl0 : len < 2 ^ 31) (kk : V p l e R s m args below meth c Q D A nL cells slots n ad (mE cA ad I J) (pc + 1) lo (.long (J k f) :: st)) : V p l e R s m args below meth c Q D A nL cells slots n ad (mE cA ad I J) pc lo (.int i :: .ref (ad k) :: st) := by
  intro H locs ls hP hD hS hl
  subst hi
  have he : (wsN n ad (mE cA ad I J))[wix k]? = some (ad k, .inl (cA 1, len, .inr (.inl (J k)))) := by rw [wsN_get hk (liv_A hs), mE_long hs]
  refine va_lald C.x C.b C.K hP (wix k) 1 he rfl (vp_in_nI hf hl0) hd ?_
  rw [nI_clamp (by omega)]
  exact kk H locs ls hP hD hS hl
theorem r_aald (C : fC p s m args meth c cc nL own ret D cA A) {k len t b sp : Nat} {i : Int32} (f : Nat) (hd : decode cc pc = .ok (.aaload, 1)) (hs : shT k = .inr (t, len, b, sp)) (ht : t = 3 ∨ t = 4 ∨ t = 5) (hk : k < n) (hi : i = nI f) (hf : f < len) (hl0 : len < 2 ^ 31) (kk : V p l e R s m args below meth c Q D A nL cells slots n ad (mE cA ad I J) (pc + 1) lo (.ref (ad (b + sp * f)) :: st)) : V p l e R s m args below meth c Q D A nL cells slots n ad (mE cA ad I J) pc lo (.int i :: .ref (ad k) :: st) := by
  intro H locs ls hP hD hS hl
  subst hi
  have ht3 : 3 ≤ t := by omega
  have he : (wsN n ad (mE cA ad I J))[wix k]? = some (ad k, .inl (cA t, len, .inr (.inr (.inr (.inr (fun i => some (ad (b + sp * i)))))))) := by rw [wsN_get hk (liv_r hs), mE_refs hs ht3]
  have hin := vp_in_nI hf hl0
  have hT : ∃ ty : FieldType, (tysW cA)[t]? = some (cA t, ty) ∧ ty.isReference = true := by
    rcases ht with rfl | rfl | rfl
    · exact ⟨_, rfl, rfl⟩
    · exact ⟨_, rfl, rfl⟩
    · exact ⟨_, rfl, rfl⟩
  obtain ⟨ty, h1, h2⟩ := hT
  have hcell := hP _ _ he
  refine W.aald (v := .ref (ad (b + sp * f))) (ty := ty) C.x C.b hcell ((C.K.2 t _ h1).1 len (fun j => va_rf (some (ad (b + sp * j))))) h2 (fun q => by cases q) ?_ ?_ rfl rfl hd (kk H locs ls hP hD hS hl)
  · show ¬ (_ ∨ (arrV _ _ _).slots.size ≤ _)
    rw [arrV_size]
    exact hin
  · show (arrV _ _ _).slots[_]? = _
    rw [nI_clamp (by omega), arrV_read _ _ hf]
    rfl
theorem r_iast (C : fC p s m args meth c cc nL own ret D cA A) {k len : Nat} {i x : Int32} (f : Nat) (hd : decode cc pc = .ok (.iastore, 1)) (hs : shA k = some (0, len)) (hk : k < n) (hi : i = nI f) (hf : f < len) (hl0 : len < 2 ^ 31) (kk : V p l e R s m args below meth c Q D A nL cells slots n ad (mE cA ad (up2 I k f x) J) (pc + 1) lo st) : V p l e R s m args below meth c Q D A nL cells slots n ad (mE cA ad I J) pc lo (.int x :: .int i :: .ref (ad k) :: st) := by
  intro H locs ls hP hD hS hl
  subst hi
  have he : (wsN n ad (mE cA ad I J))[wix k]? = some (ad k, .inl (cA 0, len, .inl (I k))) := by rw [wsN_get hk (liv_A hs), mE_int hs]
  refine va_iast C.x C.b C.K hP hD hS (wix k) 0 he rfl (vp_in_nI hf hl0) hd ?_
  intro H1 locs1 hP1 hD1 hS1
  rw [nI_clamp (by omega), wsN_set (liv_A hs), mE_sti hs] at hP1 hD1
  exact kk H1 locs1 ls hP1 hD1 hS1 hl
theorem r_zast (C : fC p s m args meth c cc nL own ret D cA A) {k len : Nat} {i x : Int32} (f : Nat) (hd : decode cc pc = .ok (.bastore, 1)) (hs : shA k = some (2, len)) (hk : k < n) (hi : i = nI f) (hf : f < len) (hl0 : len < 2 ^ 31) (hx : x = 0 ∨ x = 1) (kk : V p l e R s m args below meth c Q D A nL cells slots n ad (mE cA ad (up2 I k f x) J) (pc + 1) lo st) : V p l e R s m args below meth c Q D A nL cells slots n ad (mE cA ad I J) pc lo (.int x :: .int i :: .ref (ad k) :: st) := by
  intro H locs ls hP hD hS hl
  subst hi
  have he : (wsN n ad (mE cA ad I J))[wix k]? = some (ad k, .inl (cA 2, len, .inl (I k))) := by rw [wsN_get hk (liv_A hs), mE_bool hs]
  have hx2 : vp_nar .boolean x = x := by rcases hx with rfl | rfl <;> rfl
  refine va_zast C.x C.b C.K hP hD hS (wix k) 2 he rfl (vp_in_nI hf hl0) hd ?_
  intro H1 locs1 hP1 hD1 hS1
  rw [nI_clamp (by omega), hx2, wsN_set (liv_A hs), mE_stz hs] at hP1 hD1
  exact kk H1 locs1 ls hP1 hD1 hS1 hl
theorem r_last (C : fC p s m args meth c cc nL own ret D cA A) {k len : Nat} {i : Int32} {x : Int64} (f : Nat) (hd : decode cc pc = .ok (.lastore, 1)) (hs : shA k = some (1, len)) (hk : k < n) (hi : i = nI f) (hf : f < len) (hl0 : len < 2 ^ 31) (kk : V p l e R s m args below meth c Q D A nL cells slots n ad (mE cA ad I (upL J k f x)) (pc + 1) lo st) : V p l e R s m args below meth c Q D A nL cells slots n ad (mE cA ad I J) pc lo (.long x :: .int i :: .ref (ad k) :: st) := by
  intro H locs ls hP hD hS hl
  subst hi
  have he : (wsN n ad (mE cA ad I J))[wix k]? = some (ad k, .inl (cA 1, len, .inr (.inl (J k)))) := by rw [wsN_get hk (liv_A hs), mE_long hs]
  refine va_last C.x C.b C.K hP hD hS (wix k) 1 he rfl (vp_in_nI hf hl0) hd ?_
  intro H1 locs1 hP1 hD1 hS1
  rw [nI_clamp (by omega), wsN_set (liv_A hs), mE_stl hs] at hP1 hD1
  exact kk H1 locs1 ls hP1 hD1 hS1 hl
theorem r_alen (C : fC p s m args meth c cc nL own ret D cA A) {k len t b sp : Nat} (hd : decode cc pc = .ok (.arraylength, 1)) (hs : shT k = .inr (t, len, b, sp)) (ht : t < 6) (hk : k < n) (kk : V p l e R s m args below meth c Q D A nL cells slots n ad (mE cA ad I J) (pc + 1) lo (.int (nI len) :: st)) : V p l e R s m args below meth c Q D A nL cells slots n ad (mE cA ad I J) pc lo (.ref (ad k) :: st) := by
  intro H locs ls hP hD hS hl
  have he : ∃ x : vp_A, x.1 = len ∧ (wsN n ad (mE cA ad I J))[wix k]? = some (ad k, .inl (cA t, x)) := by
    rw [wsN_get hk (liv_r hs)]
    unfold mE
    rw [hs]
    rcases (show t = 0 ∨ t = 1 ∨ t = 2 ∨ 3 ≤ t by omega) with rfl | rfl | rfl | h3
    · exact ⟨_, rfl, rfl⟩
    · exact ⟨_, rfl, rfl⟩
    · exact ⟨_, rfl, rfl⟩
    · refine ⟨(len, .inr (.inr (.inr (.inr (fun i => some (ad (b + sp * i))))))), rfl, ?_⟩
      show some (ad k, if t = 0 then _ else _) = _
      rw [if_neg (by omega), if_neg (by omega), if_neg (by omega)]
  obtain ⟨x, hx, he⟩ := he
  have hT : ∃ ty : FieldType, (tysW cA)[t]? = some (cA t, ty) := by
    rcases (show t = 0 ∨ t = 1 ∨ t = 2 ∨ t = 3 ∨ t = 4 ∨ t = 5 by omega) with rfl | rfl | rfl | rfl | rfl | rfl <;> exact ⟨_, rfl⟩
  obtain ⟨ty, h1⟩ := hT
  exact va_alen C.x C.b C.K hP (wix k) t he h1 (by rw [hx]; rfl) hd (kk H locs ls hP hD hS hl)
-- contracts
/-- the cells hold I, J; what the tables say -/
def Wd (n : Nat) (ad : Nat → Nat) (cA : Nat → ClassId) (D : va_G) (I : MI) (J : MJ) (U : State) : Prop := va_P D vwCl (wsN n ad (mE cA ad I J)) U.heap ∧ va_K D vwCl (tysW cA) U ∧ va_D (fun _ => True) (wsN n ad (mE cA ad I J)) ∧ Keep U
def PreW (n : Nat) (ad : Nat → Nat) (cA : Nat → ClassId) (D : va_G) (z : Zw) (I : MI) (J : MJ) (sz : Nat) (av : List Value) : Array Value → State → Prop := va_Pc av (fun U => U.heap.size = sz ∧ Wd n ad cA D I J U ∧ Str z (Ar n ad sz) U U.heap)
/-- method y, from the cells I J with the arguments av: it answers an int, and post holds of it and the cells behind it -/
def Ci (l : Launch) (n : Nat) (ad : Nat → Nat) (cA : Nat → ClassId) (D : va_G) (z : Zw) (h : Nat) (y : MethodName) (cc : ByteArray) (maxL : Nat) (ty : FieldType) (I : MI) (J : MJ) (av : List Value) (post : Int32 → MI → MJ → Prop) : Prop := ∀ sz, Met l y [.code y cc maxL (some ty)] (rmL h) (PreW n ad cA D z I J sz av) (va_Qi (S := MI × MJ) (fun r u => post r u.1 u.2) (fun u t => Wd n ad cA D u.1 u.2 t) (Ar n ad sz)) 0 0 (Ar n ad sz)
def Cv (l : Launch) (n : Nat) (ad : Nat → Nat) (cA : Nat → ClassId) (D : va_G) (z : Zw) (h : Nat) (y : MethodName) (cc : ByteArray) (maxL : Nat) (I : MI) (J : MJ) (av : List Value) (post : MI → MJ → Prop) : Prop := ∀ sz, Met l y [.code y cc maxL none] (rmL h) (PreW n ad cA D z I J sz av) (va_Qv (S := MI × MJ) (fun u => post u.1 u.2) (fun u t => Wd n ad cA D u.1 u.2 t) (Ar n ad sz)) 0 0 (Ar n ad sz)
def Cl (l : Launch) (n : Nat) (ad : Nat → Nat) (cA : Nat → ClassId) (D : va_G) (z : Zw) (h : Nat) (y : MethodName) (cc : ByteArray) (maxL : Nat) (I : MI) (J : MJ) (av : List Value) (post : Int64 → MI → MJ → Prop) : Prop := ∀ sz, Met l y [.code y cc maxL (some .long)] (rmL h) (PreW n ad cA D z I J sz av) (va_Ql (S := MI × MJ) (fun r u => post r u.1 u.2) (fun u t => Wd n ad cA D u.1 u.2 t) (Ar n ad sz)) 0 0 (Ar n ad sz)
theorem Ci.mono {h : Nat} {y : MethodName} {maxL : Nat} {ty : FieldType} {av : List Value} {P P' : Int32 → MI → MJ → Prop} (hc : Ci l n ad cA D z h y cc maxL ty I J av P) (hp : ∀ r I' J', P r I' J' → P' r I' J') : Ci l n ad cA D z h y cc maxL ty I J av P' := by
  intro sz
  have h1 := hc sz
  unfold Met at h1 ⊢
  refine MetFree.mono h1 (fun _ _ h => h) (fun _ _ _ _ _ _ => trivial) ?_
  rintro a st o t - ⟨⟨⟨r, u, e1, e2, e3⟩, e4⟩, e5⟩
  exact ⟨⟨⟨r, u, e1, hp _ _ _ e2, e3⟩, e4⟩, e5⟩
theorem Cv.mono {h : Nat} {y : MethodName} {maxL : Nat} {av : List Value} {P P' : MI → MJ → Prop} (hc : Cv l n ad cA D z h y cc maxL I J av P) (hp : ∀ I' J', P I' J' → P' I' J') : Cv l n ad cA D z h y cc maxL I J av P' := by
  intro sz
  have h1 := hc sz
  unfold Met at h1 ⊢
  refine MetFree.mono h1 (fun _ _ h => h) (fun _ _ _ _ _ _ => trivial) ?_
  rintro a st o t - ⟨⟨⟨u, e1, e2, e3⟩, e4⟩, e5⟩
  exact ⟨⟨⟨u, e1, hp _ _ e2, e3⟩, e4⟩, e5⟩
theorem Ar.dd {E : Nat → va_E} {sz : Nat} {B : Nat → Prop} (h : va_D B (wsN n ad E)) : va_D (Ar n ad sz) (wsN n ad E) := by
  refine ⟨h.1, fun k q hk => ?_⟩
  obtain ⟨k', h1, l1, rfl, rfl⟩ := wsN_at hk
  exact Or.inl ⟨k', h1, l1, rfl⟩
theorem Ar.le {H : Heap} {locs : List Loc} (hD : va_D A (wsN n ad E)) (hS : va_S A s.heap H locs) (hA : ∀ q, s.heap.size ≤ q → A q) : ∀ q, Ar n ad H.size q → A q := by
  rintro q (⟨k, hk, hl, rfl⟩ | h)
  · exact hD.2 _ _ (wsN_get hk hl)
  · exact hA q (Nat.le_trans hS.1 h)
theorem r_iret {post : Int32 → MI → MJ → Prop} {r : Int32} (C : fC p s m args meth c cc nL own (some .int) D cA A) (hd : decode cc pc = .ok (.ireturn, 1)) (hp : post r I J) : V p l e R s m args below meth c (MQ below (va_Qi (S := MI × MJ) (fun r u => post r u.1 u.2) (fun u t => Wd n ad cA D u.1 u.2 t) A) args s 0 0 A) D A nL 0 0 n ad (mE cA ad I J) pc lo [.int r] := by
  intro H locs ls hP hD hS hl
  exact W.iret C.x C.b C.rt (fun t ht hW => ⟨⟨r, (I, J), rfl, hp, ⟨by rw [ht]; exact hP, va_K.moved hW.alike C.K, hD.weaken (fun _ _ _ _ => trivial), C.keep.warm hW⟩⟩, hS.F ht⟩) hS.2.2 hd C.lk
theorem r_zret {post : Int32 → MI → MJ → Prop} {r : Int32} {ty : FieldType} (C : fC p s m args meth c cc nL own (some ty) D cA A) (hd : decode cc pc = .ok (.ireturn, 1)) (hr : narrow ty (.int r) = .int r) (hp : post r I J) : V p l e R s m args below meth c (MQ below (va_Qi (S := MI × MJ) (fun r u => post r u.1 u.2) (fun u t => Wd n ad cA D u.1 u.2 t) A) args s 0 0 A) D A nL 0 0 n ad (mE cA ad I J) pc lo [.int r] := by
  intro H locs ls hP hD hS hl
  exact W.zret C.x C.b C.rt hr (fun t ht hW => ⟨⟨r, (I, J), rfl, hp, ⟨by rw [ht]; exact hP, va_K.moved hW.alike C.K, hD.weaken (fun _ _ _ _ => trivial), C.keep.warm hW⟩⟩, hS.F ht⟩) hS.2.2 hd C.lk
theorem r_lret {post : Int64 → MI → MJ → Prop} {r : Int64} (C : fC p s m args meth c cc nL own (some .long) D cA A) (hd : decode cc pc = .ok (.lreturn, 1)) (hp : post r I J) : V p l e R s m args below meth c (MQ below (va_Ql (S := MI × MJ) (fun r u => post r u.1 u.2) (fun u t => Wd n ad cA D u.1 u.2 t) A) args s 0 0 A) D A nL 0 0 n ad (mE cA ad I J) pc lo [.long r] := by
  intro H locs ls hP hD hS hl
  exact W.lret C.x C.b C.rt (fun t ht hW => ⟨⟨r, (I, J), rfl, hp, ⟨by rw [ht]; exact hP, va_K.moved hW.alike C.K, hD.weaken (fun _ _ _ _ => trivial), C.keep.warm hW⟩⟩, hS.F ht⟩) hS.2.2 hd C.lk
theorem r_vret {post : MI → MJ → Prop} (C : fC p s m args meth c cc nL own none D cA A) (hd : decode cc pc = .ok (.return_, 1)) (hp : post I J) : V p l e R s m args below meth c (MQ below (va_Qv (S := MI × MJ) (fun u => post u.1 u.2) (fun u t => Wd n ad cA D u.1 u.2 t) A) args s 0 0 A) D A nL 0 0 n ad (mE cA ad I J) pc lo [] := by
  intro H locs ls hP hD hS hl
  exact W.vret C.x C.b C.rt (fun t ht hW => ⟨⟨(I, J), rfl, hp, ⟨by rw [ht]; exact hP, va_K.moved hW.alike C.K, hD.weaken (fun _ _ _ _ => trivial), C.keep.warm hW⟩⟩, hS.F ht⟩) hS.2.2 hd C.lk
theorem Ci.of {h : Nat} {y : MethodName} {maxL : Nat} {ty : FieldType} {av : List Value} {post : Int32 → MI → MJ → Prop} (hy : plainName y.cls = true) (hlen : (lg_sl av).length ≤ maxL) (body : ∀ (p : Program) (e : Env) (s : State) (m : MethodId) (args : Array Value) (below : List Frame) (meth : Method) (c : Code) (A : Nat → Prop), fC p s m args meth c cc maxL y.cls (some ty) D cA A → (y.name = "<init>" → meth.name = "<init>") → Str z A s s.heap → ∀ Q : State → Prop, (∀ {r : Int32} {I' : MI} {J' : MJ} {pc : Nat} {lo : List (Nat × Value)}, decode cc pc = .ok (.ireturn, 1) → narrow ty (.int r) = .int r → post r I' J' → V p l e (rmL h) s m args below meth c Q D A maxL 0 0 n ad (mE cA ad I' J') pc lo [.int r]) → V p l e (rmL h) s m args below meth c Q D A maxL 0 0 n ad (mE cA ad I J) 0 (lv_args 0 av) []) : Ci l n ad cA D z h y cc maxL ty I J av post := by
  intro sz
  refine Met.ofW (cc := cc) (maxL := maxL) (ret := some ty) hy rfl ?_
  intro p e s m args below meth c s₁ B hml hv
  obtain ⟨rfl, hsz, ⟨hP, hK, hD0, hkeep⟩, hZ⟩ := hv
  subst hsz
  have hl := lv_entry av (n := maxL) hlen
  rw [lg_entry_eq]
  generalize (lg_sl av ++ List.replicate (maxL - (lg_sl av).length) Slot.unset).toArray = ls at hl ⊢
  exact body p e s m _ below meth c _ ⟨B.exec, B.bytes, hml, findClass_of_methodNamed B.named, B.notSynchronized, B.returns, hkeep, hK, fun q h => Or.inr h⟩ (fun hi => ((name_of_methodNamed B.named B.method).1).trans hi) hZ _ (fun hd hn hp => r_zret ⟨B.exec, B.bytes, hml, findClass_of_methodNamed B.named, B.notSynchronized, B.returns, hkeep, hK, fun q h => Or.inr h⟩ hd hn hp) s.heap [] ls hP (Ar.dd hD0) va_S.rf hl
theorem Cv.of {h : Nat} {y : MethodName} {maxL : Nat}  {av : List Value} {post : MI → MJ → Prop} (hy : plainName y.cls = true) (hlen : (lg_sl av).length ≤ maxL) (body : ∀ (p : Program) (e : Env) (s : State) (m : MethodId) (args : Array Value) (below : List Frame) (meth : Method) (c : Code) (A : Nat → Prop), fC p s m args meth c cc maxL y.cls (none) D cA A → (y.name = "<init>" → meth.name = "<init>") → Str z A s s.heap → ∀ Q : State → Prop, (∀ {I' : MI} {J' : MJ} {pc : Nat} {lo : List (Nat × Value)}, decode cc pc = .ok (.return_, 1) → post I' J' → V p l e (rmL h) s m args below meth c Q D A maxL 0 0 n ad (mE cA ad I' J') pc lo []) → V p l e (rmL h) s m args below meth c Q D A maxL 0 0 n ad (mE cA ad I J) 0 (lv_args 0 av) []) : Cv l n ad cA D z h y cc maxL I J av post := by
  intro sz
  refine Met.ofW (cc := cc) (maxL := maxL) (ret := none) hy rfl ?_
  intro p e s m args below meth c s₁ B hml hv
  obtain ⟨rfl, hsz, ⟨hP, hK, hD0, hkeep⟩, hZ⟩ := hv
  subst hsz
  have hl := lv_entry av (n := maxL) hlen
  rw [lg_entry_eq]
  generalize (lg_sl av ++ List.replicate (maxL - (lg_sl av).length) Slot.unset).toArray = ls at hl ⊢
  exact body p e s m _ below meth c _ ⟨B.exec, B.bytes, hml, findClass_of_methodNamed B.named, B.notSynchronized, B.returns, hkeep, hK, fun q h => Or.inr h⟩ (fun hi => ((name_of_methodNamed B.named B.method).1).trans hi) hZ _ (fun hd hp => r_vret ⟨B.exec, B.bytes, hml, findClass_of_methodNamed B.named, B.notSynchronized, B.returns, hkeep, hK, fun q h => Or.inr h⟩ hd hp) s.heap [] ls hP (Ar.dd hD0) va_S.rf hl
theorem Cl.of {h : Nat} {y : MethodName} {maxL : Nat}  {av : List Value} {post : Int64 → MI → MJ → Prop} (hy : plainName y.cls = true) (hlen : (lg_sl av).length ≤ maxL) (body : ∀ (p : Program) (e : Env) (s : State) (m : MethodId) (args : Array Value) (below : List Frame) (meth : Method) (c : Code) (A : Nat → Prop), fC p s m args meth c cc maxL y.cls (some .long) D cA A → (y.name = "<init>" → meth.name = "<init>") → Str z A s s.heap → ∀ Q : State → Prop, (∀ {r : Int64} {I' : MI} {J' : MJ} {pc : Nat} {lo : List (Nat × Value)}, decode cc pc = .ok (.lreturn, 1) → post r I' J' → V p l e (rmL h) s m args below meth c Q D A maxL 0 0 n ad (mE cA ad I' J') pc lo [.long r]) → V p l e (rmL h) s m args below meth c Q D A maxL 0 0 n ad (mE cA ad I J) 0 (lv_args 0 av) []) : Cl l n ad cA D z h y cc maxL I J av post := by
  intro sz
  refine Met.ofW (cc := cc) (maxL := maxL) (ret := some .long) hy rfl ?_
  intro p e s m args below meth c s₁ B hml hv
  obtain ⟨rfl, hsz, ⟨hP, hK, hD0, hkeep⟩, hZ⟩ := hv
  subst hsz
  have hl := lv_entry av (n := maxL) hlen
  rw [lg_entry_eq]
  generalize (lg_sl av ++ List.replicate (maxL - (lg_sl av).length) Slot.unset).toArray = ls at hl ⊢
  exact body p e s m _ below meth c _ ⟨B.exec, B.bytes, hml, findClass_of_methodNamed B.named, B.notSynchronized, B.returns, hkeep, hK, fun q h => Or.inr h⟩ (fun hi => ((name_of_methodNamed B.named B.method).1).trans hi) hZ _ (fun hd hp => r_lret ⟨B.exec, B.bytes, hml, findClass_of_methodNamed B.named, B.notSynchronized, B.returns, hkeep, hK, fun q h => Or.inr h⟩ hd hp) s.heap [] ls hP (Ar.dd hD0) va_S.rf hl
def shO (k : Nat) : Option Nat := match shT k with
  | .inl (ci, _ :: _) => some ci
  | _ => none
theorem shO_spec {k ci : Nat} (h : shO k = some ci) : ∃ fl, shT k = .inl (ci, fl) := by
  unfold shO at h
  split at h
  · rename_i ci' x fl e
    cases h
    exact ⟨_, e⟩
  · cases h
theorem liv_O {k ci : Nat} (h : shO k = some ci) : liv k = true := by
  unfold shO at h
  split at h
  · rename_i ci' x fl e
    simp [liv, e]
  · cases h
theorem fm_cb (C : fC p s m args meth c cc nL own ret D cA A) {idx h maxL np : Nat} {y : MethodName} {bytes : ByteArray} {rt : Option FieldType} (hcl : tin (.initialized y.cls) ∧ tin (.code y bytes maxL rt) ∧ (y.cls ≠ "java/lang/invoke/MethodHandle" ∧ y.cls ≠ "java/lang/invoke/VarHandle" ∧ (parseMethodDescriptor y.desc).map (fun d => d.parameters.length) = some np)) (hl : tin (.methodLink own idx y)) (hR : h + 1 ≤ R.frames ∧ 8 + (maxL + 11) + 100 * h ≤ R.locals) : CallB R s args own idx y bytes maxL rt [.code y bytes maxL rt] (rmL h) 0 0 np := by
  obtain ⟨hini, hcode, hy1, hy2, hy3⟩ := hcl
  refine ⟨rfl, rfl, hR.1, hR.2, fun w hw a' U hW => ?_, List.mem_cons_self, C.keep.use hcode args, C.keep.use hini args, ⟨hy1, hy2⟩, fun sig h => ?_, C.keep.use hl args⟩
  · rw [List.mem_singleton.mp hw]
    exact (C.keep.warm hW).use hcode a'
  · rw [h] at hy3
    exact (Option.some.inj hy3).symm
theorem fm_cn (C : fC p s m args meth c cc nL own ret D cA A) {idx h maxL np : Nat} {y : MethodName} {bytes : ByteArray} {rt : Option FieldType} {host : String} (hcl : tin (.initialized y.cls) ∧ tin (.code y bytes maxL rt) ∧ (y.cls ≠ "java/lang/invoke/MethodHandle" ∧ y.cls ≠ "java/lang/invoke/VarHandle" ∧ (parseMethodDescriptor y.desc).map (fun d => d.parameters.length) = some np)) (hl : tin (.methodLinkNest own idx y host)) (hR : h + 1 ≤ R.frames ∧ 8 + (maxL + 11) + 100 * h ≤ R.locals) : va_CN R s args own idx y host bytes maxL rt [.code y bytes maxL rt] (rmL h) 0 0 np := by
  obtain ⟨hini, hcode, hy1, hy2, hy3⟩ := hcl
  refine ⟨⟨rfl, rfl, hR.1, hR.2, fun w hw a' U hW => ?_, List.mem_cons_self⟩, C.keep.use hcode args, C.keep.use hini args, ⟨hy1, hy2⟩, fun sig h => ?_, C.keep.use hl args⟩
  · rw [List.mem_singleton.mp hw]
    exact (C.keep.warm hW).use hcode a'
  · rw [h] at hy3
    exact (Option.some.inj hy3).symm
theorem fm_pre (C : fC p s m args meth c cc nL own ret D cA A) (Z : Str z A s s.heap) {H : Heap} {locs : List Loc} (hP : va_P D vwCl (wsN n ad (mE cA ad I J)) H) (hD : va_D A (wsN n ad (mE cA ad I J))) (hS : va_S A s.heap H locs) (av : List Value) : FrameBlind (PreW n ad cA D z I J H.size av) ∧ ∀ U : State, U.heap = H → s.WarmedH U.vm → PreW n ad cA D z I J H.size av av.toArray U := by
  refine ⟨?_, fun U hU hW => ⟨rfl, by rw [hU], ⟨by rw [hU]; exact hP, va_K.moved hW.alike C.K, hD.weaken (fun _ _ _ _ => trivial), C.keep.warm hW⟩, ?_⟩⟩
  · rintro a U g mk ⟨q0, q1, ⟨qP, qK, qD, qk⟩, qZ⟩
    exact ⟨q0, q1, ⟨qP, va_K.moved (u := U) (U := U.calling g mk a) (Vm.Alike.refl U.vm) qK, qD, Keep.same (s := U) rfl qk⟩, Str.same (u := U) rfl qZ⟩
  · rw [hU]
    exact Z.to hS hW (Ar.le hD hS C.hA)
theorem fm_runV (C : fC p s m args meth c cc nL own ret D cA A) (Z : Str z A s s.heap) {H : Heap} {locs : List Loc} {ls : Array Slot} {idx h maxL np k ci : Nat} {y : MethodName} {bytes : ByteArray} {rt : Option FieldType} {As rest : List Value} {Qc : Array Value → State → Outcome → State → Prop} (hP : va_P D vwCl (wsN n ad (mE cA ad I J)) H) (hD : va_D A (wsN n ad (mE cA ad I J))) (hS : va_S A s.heap H locs) (hl : lv_has ls nL lo) (hd : decode cc pc = .ok (.invokevirtual idx, 3))
    (hM : Met l y [.code y bytes maxL rt] (rmL h) (PreW n ad cA D z I J H.size (.ref (ad k) :: As)) Qc 0 0 (Ar n ad H.size)) (hcl : CL own idx y bytes maxL rt np) (hci : CI y ci) (hs : shO k = some ci) (hk : k < n) (hn : As.length = np) (hst : st = As.reverse ++ .ref (ad k) :: rest) (hw : (rest.map fun v => v.category).sum ≤ 8) (hR : h + 1 ≤ R.frames ∧ 8 + (maxL + 11) + 100 * h ≤ R.locals) (hcs : cells ≤ R.cells ∧ slots ≤ R.slots) : va_Run p l e R s m args below meth c H locs cells slots 0 0 (F0 m pc ls st) rest (Qc (Value.ref (ad k) :: As).toArray) (Ar n ad H.size) := by
  obtain ⟨hlk, hcl⟩ := hcl
  obtain ⟨hin, hsel, T, N, hcls⟩ := hci
  obtain ⟨fl, e1⟩ := shO_spec hs
  obtain ⟨hbl, hpre⟩ := fm_pre C Z hP hD hS (.ref (ad k) :: As)
  have he : (wsN n ad (mE cA ad I J))[wix k]? = some (ad k, .inr (ci, fl.mapIdx (fun i x => fV ad I k i x))) := by rw [wsN_get hk (liv_O hs), mE_obj e1]
  have hrec := va_recv C.K hP hcls he
  have CF : CallFix p m c cc nL s args [] own := ⟨C.x, C.b, C.ml, C.ow, fun w h => by cases h⟩
  rcases hlk with hlk | ⟨host, hlk⟩
  · exact va_runV (As := As) (rest := rest) CF hM ⟨fm_cb C hcl hlk hR, C.keep.use hin args, C.keep.use hsel args⟩ ⟨hbl, hrec, hpre⟩ rfl hn hl.1 hst (lv_room hw) hd ⟨hcs.1, hcs.2⟩
  · exact va_runVN (As := As) (rest := rest) CF hM ⟨fm_cn C hcl hlk hR, C.keep.use hin args, C.keep.use hsel args⟩ ⟨hbl, hrec, hpre⟩ rfl hn hl.1 hst (lv_room hw) hd ⟨hcs.1, hcs.2⟩
theorem fm_runS (C : fC p s m args meth c cc nL own ret D cA A) (Z : Str z A s s.heap) {H : Heap} {locs : List Loc} {ls : Array Slot} {idx h maxL np : Nat} {y : MethodName} {bytes : ByteArray} {rt : Option FieldType} {As rest : List Value} {Qc : Array Value → State → Outcome → State → Prop} (hP : va_P D vwCl (wsN n ad (mE cA ad I J)) H) (hD : va_D A (wsN n ad (mE cA ad I J))) (hS : va_S A s.heap H locs) (hl : lv_has ls nL lo) (hd : decode cc pc = .ok (.invokestatic idx, 3))
    (hM : Met l y [.code y bytes maxL rt] (rmL h) (PreW n ad cA D z I J H.size As) Qc 0 0 (Ar n ad H.size)) (hcl : CL own idx y bytes maxL rt np) (hsta : tin (.static y)) (hn : As.length = np) (hst : st = As.reverse ++ rest) (hw : (rest.map fun v => v.category).sum ≤ 8) (hR : h + 1 ≤ R.frames ∧ 8 + (maxL + 11) + 100 * h ≤ R.locals) (hcs : cells ≤ R.cells ∧ slots ≤ R.slots) : va_Run p l e R s m args below meth c H locs cells slots 0 0 (F0 m pc ls st) rest (Qc As.toArray) (Ar n ad H.size) := by
  obtain ⟨hlk, hcl⟩ := hcl
  obtain ⟨hbl, hpre⟩ := fm_pre C Z hP hD hS As
  have CF : CallFix p m c cc nL s args [] own := ⟨C.x, C.b, C.ml, C.ow, fun w h => by cases h⟩
  rcases hlk with hlk | ⟨host, hlk⟩
  · exact va_runS (As := As) (rest := rest) CF hM ⟨fm_cb C hcl hlk hR, C.keep.use hsta args⟩ ⟨hbl, hpre⟩ rfl hn hl.1 hst (lv_room hw) hd ⟨hcs.1, hcs.2⟩
  · exact va_runSN (As := As) (rest := rest) CF hM ⟨fm_cn C hcl hlk hR, C.keep.use hsta args, trivial⟩ ⟨hbl, hpre⟩ rfl hn hl.1 hst (lv_room hw) hd ⟨hcs.1, hcs.2⟩
theorem r_ivi (C : fC p s m args meth c cc nL own ret D cA A) (Z : Str z A s s.heap) {idx h maxL np k ci : Nat} {y : MethodName} {bytes : ByteArray} {ty : FieldType} {As rest : List Value} {post : Int32 → MI → MJ → Prop} (hd : decode cc pc = .ok (.invokevirtual idx, 3)) (hcl : CL own idx y bytes maxL (some ty) np) (hci : CI y ci) (hs : shO k = some ci) (hk : k < n) (hc : Ci l n ad cA D z h y bytes maxL ty I J (.ref (ad k) :: As) post) (hn : As.length = np) (hst : st = As.reverse ++ .ref (ad k) :: rest) (hw : (rest.map fun v => v.category).sum ≤ 8) (hR : h + 1 ≤ R.frames ∧ 8 + (maxL + 11) + 100 * h ≤ R.locals) (hcs : cells ≤ R.cells ∧ slots ≤ R.slots) (kk : ∀ (r : Int32) (I' : MI) (J' : MJ), post r I' J' → V p l e R s m args below meth c Q D A nL cells slots n ad (mE cA ad I' J') (pc + 3) lo (.int r :: rest)) : V p l e R s m args below meth c Q D A nL cells slots n ad (mE cA ad I J) pc lo st := by
  intro H locs ls hP hD hS hl
  have hF := Ar.le hD hS C.hA
  refine va_calli (fm_runV C Z hP hD hS hl hd (hc H.size) hcl hci hs hk hn hst hw hR hcs) hS (fun q _ h => hF q h) hF (fun r u t H1 locs1 ht hvm hw hB hz1 hk1 hS1 => ?_)
  obtain ⟨hP1, -, -, -⟩ := hB
  rw [ht] at hP1
  exact kk r u.1 u.2 hw H1 locs1 ls hP1 (wsN_D hD) hS1 hl
theorem r_ivv (C : fC p s m args meth c cc nL own ret D cA A) (Z : Str z A s s.heap) {idx h maxL np k ci : Nat} {y : MethodName} {bytes : ByteArray}  {As rest : List Value} {post : MI → MJ → Prop} (hd : decode cc pc = .ok (.invokevirtual idx, 3)) (hcl : CL own idx y bytes maxL (none) np) (hci : CI y ci) (hs : shO k = some ci) (hk : k < n) (hc : Cv l n ad cA D z h y bytes maxL I J (.ref (ad k) :: As) post) (hn : As.length = np) (hst : st = As.reverse ++ .ref (ad k) :: rest) (hw : (rest.map fun v => v.category).sum ≤ 8) (hR : h + 1 ≤ R.frames ∧ 8 + (maxL + 11) + 100 * h ≤ R.locals) (hcs : cells ≤ R.cells ∧ slots ≤ R.slots) (kk : ∀ (I' : MI) (J' : MJ), post I' J' → V p l e R s m args below meth c Q D A nL cells slots n ad (mE cA ad I' J') (pc + 3) lo (rest)) : V p l e R s m args below meth c Q D A nL cells slots n ad (mE cA ad I J) pc lo st := by
  intro H locs ls hP hD hS hl
  have hF := Ar.le hD hS C.hA
  refine va_callv (fm_runV C Z hP hD hS hl hd (hc H.size) hcl hci hs hk hn hst hw hR hcs) hS (fun q _ h => hF q h) hF (fun u t H1 locs1 ht hvm hw hB hz1 hk1 hS1 => ?_)
  obtain ⟨hP1, -, -, -⟩ := hB
  rw [ht] at hP1
  exact kk u.1 u.2 hw H1 locs1 ls hP1 (wsN_D hD) hS1 hl
theorem r_ivl (C : fC p s m args meth c cc nL own ret D cA A) (Z : Str z A s s.heap) {idx h maxL np k ci : Nat} {y : MethodName} {bytes : ByteArray}  {As rest : List Value} {post : Int64 → MI → MJ → Prop} (hd : decode cc pc = .ok (.invokevirtual idx, 3)) (hcl : CL own idx y bytes maxL (some .long) np) (hci : CI y ci) (hs : shO k = some ci) (hk : k < n) (hc : Cl l n ad cA D z h y bytes maxL I J (.ref (ad k) :: As) post) (hn : As.length = np) (hst : st = As.reverse ++ .ref (ad k) :: rest) (hw : (rest.map fun v => v.category).sum ≤ 8) (hR : h + 1 ≤ R.frames ∧ 8 + (maxL + 11) + 100 * h ≤ R.locals) (hcs : cells ≤ R.cells ∧ slots ≤ R.slots) (kk : ∀ (r : Int64) (I' : MI) (J' : MJ), post r I' J' → V p l e R s m args below meth c Q D A nL cells slots n ad (mE cA ad I' J') (pc + 3) lo (.long r :: rest)) : V p l e R s m args below meth c Q D A nL cells slots n ad (mE cA ad I J) pc lo st := by
  intro H locs ls hP hD hS hl
  have hF := Ar.le hD hS C.hA
  refine va_calll (fm_runV C Z hP hD hS hl hd (hc H.size) hcl hci hs hk hn hst hw hR hcs) hS (fun q _ h => hF q h) hF (fun r u t H1 locs1 ht hvm hw hB hz1 hk1 hS1 => ?_)
  obtain ⟨hP1, -, -, -⟩ := hB
  rw [ht] at hP1
  exact kk r u.1 u.2 hw H1 locs1 ls hP1 (wsN_D hD) hS1 hl
theorem r_isi (C : fC p s m args meth c cc nL own ret D cA A) (Z : Str z A s s.heap) {idx h maxL np : Nat} {y : MethodName} {bytes : ByteArray} {ty : FieldType} {As rest : List Value} {post : Int32 → MI → MJ → Prop} (hd : decode cc pc = .ok (.invokestatic idx, 3)) (hcl : CL own idx y bytes maxL (some ty) np) (hsta : tin (.static y)) (hc : Ci l n ad cA D z h y bytes maxL ty I J As post) (hn : As.length = np) (hst : st = As.reverse ++ rest) (hw : (rest.map fun v => v.category).sum ≤ 8) (hR : h + 1 ≤ R.frames ∧ 8 + (maxL + 11) + 100 * h ≤ R.locals) (hcs : cells ≤ R.cells ∧ slots ≤ R.slots) (kk : ∀ (r : Int32) (I' : MI) (J' : MJ), post r I' J' → V p l e R s m args below meth c Q D A nL cells slots n ad (mE cA ad I' J') (pc + 3) lo (.int r :: rest)) : V p l e R s m args below meth c Q D A nL cells slots n ad (mE cA ad I J) pc lo st := by
  intro H locs ls hP hD hS hl
  have hF := Ar.le hD hS C.hA
  refine va_calli (fm_runS C Z hP hD hS hl hd (hc H.size) hcl hsta hn hst hw hR hcs) hS (fun q _ h => hF q h) hF (fun r u t H1 locs1 ht hvm hw hB hz1 hk1 hS1 => ?_)
  obtain ⟨hP1, -, -, -⟩ := hB
  rw [ht] at hP1
  exact kk r u.1 u.2 hw H1 locs1 ls hP1 (wsN_D hD) hS1 hl
theorem r_isv (C : fC p s m args meth c cc nL own ret D cA A) (Z : Str z A s s.heap) {idx h maxL np : Nat} {y : MethodName} {bytes : ByteArray}  {As rest : List Value} {post : MI → MJ → Prop} (hd : decode cc pc = .ok (.invokestatic idx, 3)) (hcl : CL own idx y bytes maxL (none) np) (hsta : tin (.static y)) (hc : Cv l n ad cA D z h y bytes maxL I J As post) (hn : As.length = np) (hst : st = As.reverse ++ rest) (hw : (rest.map fun v => v.category).sum ≤ 8) (hR : h + 1 ≤ R.frames ∧ 8 + (maxL + 11) + 100 * h ≤ R.locals) (hcs : cells ≤ R.cells ∧ slots ≤ R.slots) (kk : ∀ (I' : MI) (J' : MJ), post I' J' → V p l e R s m args below meth c Q D A nL cells slots n ad (mE cA ad I' J') (pc + 3) lo (rest)) : V p l e R s m args below meth c Q D A nL cells slots n ad (mE cA ad I J) pc lo st := by
  intro H locs ls hP hD hS hl
  have hF := Ar.le hD hS C.hA
  refine va_callv (fm_runS C Z hP hD hS hl hd (hc H.size) hcl hsta hn hst hw hR hcs) hS (fun q _ h => hF q h) hF (fun u t H1 locs1 ht hvm hw hB hz1 hk1 hS1 => ?_)
  obtain ⟨hP1, -, -, -⟩ := hB
  rw [ht] at hP1
  exact kk u.1 u.2 hw H1 locs1 ls hP1 (wsN_D hD) hS1 hl
theorem r_isl (C : fC p s m args meth c cc nL own ret D cA A) (Z : Str z A s s.heap) {idx h maxL np : Nat} {y : MethodName} {bytes : ByteArray}  {As rest : List Value} {post : Int64 → MI → MJ → Prop} (hd : decode cc pc = .ok (.invokestatic idx, 3)) (hcl : CL own idx y bytes maxL (some .long) np) (hsta : tin (.static y)) (hc : Cl l n ad cA D z h y bytes maxL I J As post) (hn : As.length = np) (hst : st = As.reverse ++ rest) (hw : (rest.map fun v => v.category).sum ≤ 8) (hR : h + 1 ≤ R.frames ∧ 8 + (maxL + 11) + 100 * h ≤ R.locals) (hcs : cells ≤ R.cells ∧ slots ≤ R.slots) (kk : ∀ (r : Int64) (I' : MI) (J' : MJ), post r I' J' → V p l e R s m args below meth c Q D A nL cells slots n ad (mE cA ad I' J') (pc + 3) lo (.long r :: rest)) : V p l e R s m args below meth c Q D A nL cells slots n ad (mE cA ad I J) pc lo st := by
  intro H locs ls hP hD hS hl
  have hF := Ar.le hD hS C.hA
  refine va_calll (fm_runS C Z hP hD hS hl hd (hc H.size) hcl hsta hn hst hw hR hcs) hS (fun q _ h => hF q h) hF (fun r u t H1 locs1 ht hvm hw hB hz1 hk1 hS1 => ?_)
  obtain ⟨hP1, -, -, -⟩ := hB
  rw [ht] at hP1
  exact kk r u.1 u.2 hw H1 locs1 ls hP1 (wsN_D hD) hS1 hl
theorem kn {n k : Nat} (hn : 117 ≤ n) (h : Nat.blt k 117 = true) : k < n := Nat.lt_of_lt_of_le (Nat.lt_of_succ_le (Nat.le_of_ble_eq_true h)) hn
theorem km {n k : Nat} (hn : 148 ≤ n) (h : Nat.blt k 148 = true) : k < n := Nat.lt_of_lt_of_le (Nat.lt_of_succ_le (Nat.le_of_ble_eq_true h)) hn
end FR
