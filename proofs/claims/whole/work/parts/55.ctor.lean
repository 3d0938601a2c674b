/-! CONSTRUCTION: every new cell lies right behind the last one, so that the addresses are known. -/
theorem vr_outer (c : ClassId) (N h0 : Nat) : ∀ i : Nat, Jvm.Free.Multi.outerC c N h0 i = arrV c N (fun j => va_rf (if j < i then some (h0 + 1 + j) else none))
  | 0 => by
    show ({ cls := c, slots := Array.replicate N .null, vm := .none } : Cell) = _
    rw [arrV_new]
    refine congrArg (arrV c N) (funext fun j => ?_)
    simp [va_rf]
  | i + 1 => by
    show (Jvm.Free.Multi.outerC c N h0 i).setSlot i (.ref (h0 + 1 + i)) = _
    rw [vr_outer c N h0 i, arrV_store]
    refine congrArg (arrV c N) (funext fun j => ?_)
    by_cases e : j = i
    · subst e
      simp [updV, va_rf]
    · by_cases h : j < i
      · simp [updV, e, h, Nat.lt_succ_of_lt h]
      · simp [updV, e, h, show ¬ j < i + 1 by omega]
theorem arrV_cong {c : ClassId} {N : Nat} {f g : Nat → Value} (h : ∀ j, j < N → f j = g j) : arrV c N f = arrV c N g := by
  have e : (Array.ofFn (n := N) fun j => f j.val) = Array.ofFn (n := N) fun j => g j.val := congrArg Array.ofFn (funext fun j => h j.1 j.2)
  show ({ cls := c, slots := Array.ofFn (n := N) fun j => f j.val, vm := .none } : Cell) = { cls := c, slots := Array.ofFn (n := N) fun j => g j.val, vm := .none }
  rw [e]
theorem wsN_P {n : Nat} {ad : Nat → Nat} {E : Nat → va_E} {D : va_G} {cl : List vw_C} {H : Heap} : va_P D cl (wsN n ad E) H ↔ ∀ k, k < n → liv k = true → va_at D cl (ad k, E k) H :=
  ⟨fun h k hk hl => h _ _ (wsN_get hk hl), fun h k q hq => by
    obtain ⟨k', h1, l1, rfl, rfl⟩ := wsN_at hq
    exact h k' h1 l1⟩
/-- the addresses are apart, from h0 on -/
def AD (h0 : Nat) (ad : Nat → Nat) : Prop := (∀ i j, liv i = true → liv j = true → ad i = ad j → i = j) ∧ ∀ k, h0 ≤ ad k
theorem AD.D {h0 n : Nat} {ad : Nat → Nat} {E : Nat → va_E} (h : AD h0 ad) : va_D (fun q => h0 ≤ q) (wsN n ad E) := by
  refine ⟨fun i j p q hp hq e => ?_, fun k q hk => ?_⟩
  · obtain ⟨i', _, l1, rfl, rfl⟩ := wsN_at hp
    obtain ⟨j', _, l2, rfl, rfl⟩ := wsN_at hq
    exact congrArg wix (h.1 i' j' l1 l2 e)
  · obtain ⟨k', _, _, rfl, rfl⟩ := wsN_at hk
    exact h.2 k'
theorem wix_le {i j : Nat} (h : i ≤ j) : wix i ≤ wix j := by
  induction j with
  | zero => rw [show i = 0 by omega]; exact Nat.le_refl _
  | succ j ih =>
    by_cases e : i = j + 1
    · rw [e]; exact Nat.le_refl _
    · have h1 := ih (by omega)
      have h2 := wix_s j
      omega
/-- the addresses of the living lie one behind another -/
theorem hsl {ad : Nat → Nat} (hst : ∀ k, k < 148 → ad (k + 1) = ad k + (liv k).toNat) (k : Nat) (h : k < 148) (hl : liv k = true) : ad (k + 1) = ad k + 1 := by rw [hst k h, hl]; rfl
theorem hs0 {ad : Nat → Nat} (hst : ∀ k, k < 148 → ad (k + 1) = ad k + (liv k).toNat) (k : Nat) (h : k < 148) (hl : liv k = false) : ad (k + 1) = ad k := by rw [hst k h, hl]; rfl
/-- the classes of the arrays of references -/
def Ov (U : State) : Prop := va_AO RX7 U ∧ va_AOA .int U ∧ va_AOA .long U
theorem Ov.moved {u U : State} (hvm : u.vm.Alike U.vm) (h : Ov u) : Ov U := ⟨h.1.moved hvm, h.2.1.moved hvm, h.2.2.moved hvm⟩
/-- the places of references, in the order in which they are set -/
def ctAll : List (Nat × Nat) := [(1, 0), (0, 0), (3, 0), (3, 1), (0, 1), (6, 0), (0, 2), (9, 1), (9, 2), (9, 3), (8, 0), (19, 2), (19, 3), (8, 1), (33, 2), (33, 3), (33, 4), (33, 5), (8, 2), (0, 3), (38, 0), (38, 1), (38, 2), (38, 3), (38, 4), (38, 5), (0, 4), (45, 0), (45, 1), (45, 2), (45, 3), (45, 4), (45, 5), (0, 5), (52, 0), (52, 1), (0, 6), (57, 1), (57, 2), (57, 3), (56, 0), (67, 2), (67, 3), (56, 1), (81, 2), (81, 3), (81, 4), (81, 5), (56, 2), (55, 0), (87, 1), (87, 2), (87, 3), (86, 0), (97, 2), (97, 3), (86, 1), (111, 2), (111, 3), (111, 4), (111, 5), (86, 2), (55, 1), (0, 7), (0, 8), (117, 0), (117, 1), (117, 2), (117, 3), (117, 4), (117, 5), (117, 6), (117, 7), (117, 8), (117, 9), (117, 10), (117, 11), (117, 12), (117, 13), (117, 14), (117, 15), (117, 16), (117, 18), (117, 19), (117, 20), (117, 21), (117, 22), (117, 23), (117, 24), (117, 31), (117, 34), (117, 38), (117, 40), (117, 41), (117, 42)]
def ctM (t k i : Nat) : Bool := (ctAll.take t).any (fun q => q.1 == k && q.2 == i)
theorem ctM_s {t k i : Nat} (h : ctAll[t]? = some (k, i)) (a b : Nat) : ctM (t + 1) a b = (ctM t a b || (k == a && i == b)) := by
  unfold ctM
  rw [List.take_add_one, h, List.any_append]
  simp
theorem ctM_o {t k i : Nat} (h : ctAll[t]? = some (k, i)) {a b : Nat} (hab : a ≠ k ∨ b ≠ i) : ctM (t + 1) a b = ctM t a b := by
  rw [ctM_s h]
  have : (k == a && i == b) = false := by
    rcases hab with q | q
    · simp [Ne.symm q]
    · simp [Ne.symm q]
  rw [this, Bool.or_false]
theorem ctM_i {t k i : Nat} (h : ctAll[t]? = some (k, i)) : ctM (t + 1) k i = true := by
  rw [ctM_s h]
  simp
theorem ctM_no {t k : Nat} (h : (ctAll.take t).all (fun q => !(q.1 == k)) = true) (i : Nat) : ctM t k i = false := by
  unfold ctM
  rw [List.any_eq_false]
  intro q hq
  have := List.all_eq_true.mp h q hq
  simp at this
  simp [this]
/-- a cell, with the references that are set by time t -/
def pE (cA : Nat → ClassId) (ad : Nat → Nat) (t : Nat) (I : MI) (J : MJ) (k : Nat) : va_E := match shT k with
  | .inl (ci, fl) => .inr (ci, fl.mapIdx (fun i x => match x with
    | none => .int (I k i)
    | some j => if ctM t k i = true then .ref (ad j) else .null))
  | .inr (t', len, b, st) => if t' = 0 then .inl (cA 0, len, .inl (I k)) else if t' = 1 then .inl (cA 1, len, .inr (.inl (J k))) else if t' = 2 then .inl (cA 2, len, .inl (I k)) else .inl (cA t', len, .inr (.inr (.inr (.inr (fun i => if t' = 3 ∧ ctM t k i = false then none else some (ad (b + st * i)))))))
theorem pE_obj {cA : Nat → ClassId} {ad : Nat → Nat} {t : Nat} {I : MI} {J : MJ} {k ci : Nat} {fl : List (Option Nat)} (h : shT k = .inl (ci, fl)) : pE cA ad t I J k = .inr (ci, fl.mapIdx (fun i x => match x with
    | none => .int (I k i)
    | some j => if ctM t k i = true then .ref (ad j) else .null)) := by unfold pE; rw [h]
theorem pE_offI {cA : Nat → ClassId} {ad : Nat → Nat} {t : Nat} {I I' : MI} {J : MJ} {k : Nat} (h : I' k = I k) : pE cA ad t I' J k = pE cA ad t I J k := by
  unfold pE
  rw [h]
theorem pE_offt {cA : Nat → ClassId} {ad : Nat → Nat} {t k0 i0 : Nat} {I : MI} {J : MJ} {k : Nat} (hc : ctAll[t]? = some (k0, i0)) (h : k ≠ k0) : pE cA ad (t + 1) I J k = pE cA ad t I J k := by
  have e : ∀ i, ctM (t + 1) k i = ctM t k i := fun i => ctM_o hc (Or.inl h)
  unfold pE
  simp only [e]
theorem pE_new {cA : Nat → ClassId} {ad : Nat → Nat} {t : Nat} {I : MI} {J : MJ} {k ci : Nat} {fl : List (Option Nat)} (hs : shT k = .inl (ci, fl)) (hm : (ctAll.take t).all (fun q => !(q.1 == k)) = true) (hz : I k = fun _ => 0) : pE cA ad t I J k = .inr (ci, fl.map (fun x => match x with
    | none => Value.int 0
    | some _ => .null)) := by
  rw [pE_obj hs]
  congr 2
  apply List.ext_getElem?
  intro i
  rw [List.getElem?_mapIdx, List.getElem?_map]
  cases fl[i]? with
  | none => rfl
  | some x => cases x with
    | none => simp [hz]
    | some j => simp [ctM_no hm i]
theorem pE_put {cA : Nat → ClassId} {ad : Nat → Nat} {t : Nat} {I : MI} {J : MJ} {k ci i : Nat} {fl : List (Option Nat)} {v : Int32} (h : shT k = .inl (ci, fl)) (hi : fl[i]? = some none) : upE (pE cA ad t I J) k (.inr (ci, (fl.mapIdx (fun i x => match x with
    | none => .int (I k i)
    | some j => if ctM t k i = true then .ref (ad j) else .null)).set i (.int v))) = pE cA ad t (up2 I k i v) J := by
  funext q
  by_cases e : q = k
  · subst e
    rw [pE_obj h]
    simp only [upE, if_true]
    congr 2
    apply List.ext_getElem?
    intro i'
    rw [List.getElem?_set, List.getElem?_mapIdx, List.getElem?_mapIdx]
    by_cases e2 : i = i'
    · subst e2
      have hl : i < fl.length := (List.getElem?_eq_some_iff.mp hi).1
      rw [if_pos rfl, if_pos (by simpa using hl), hi]
      simp [up2_at]
    · rw [if_neg e2]
      congr 1
      funext x
      cases x with
      | none => simp only []; rw [up2_off (fun q => e2 q.symm)]
      | some j => rfl
  · rw [pE_offI (up2_ne e)]
    simp [upE, e]
theorem pE_ref {cA : Nat → ClassId} {ad : Nat → Nat} {t : Nat} {I : MI} {J : MJ} {k ci i j : Nat} {fl : List (Option Nat)} (h : shT k = .inl (ci, fl)) (hi : fl[i]? = some (some j)) (hc : ctAll[t]? = some (k, i)) : upE (pE cA ad t I J) k (.inr (ci, (fl.mapIdx (fun i x => match x with
    | none => .int (I k i)
    | some j => if ctM t k i = true then .ref (ad j) else .null)).set i (.ref (ad j)))) = pE cA ad (t + 1) I J := by
  funext q
  by_cases e : q = k
  · subst e
    rw [pE_obj h]
    simp only [upE, if_true]
    congr 2
    apply List.ext_getElem?
    intro i'
    rw [List.getElem?_set, List.getElem?_mapIdx, List.getElem?_mapIdx]
    by_cases e2 : i = i'
    · subst e2
      have hl : i < fl.length := (List.getElem?_eq_some_iff.mp hi).1
      rw [if_pos rfl, if_pos (by simpa using hl), hi]
      simp [ctM_i hc]
    · rw [if_neg e2]
      congr 1
      funext x
      cases x with
      | none => rfl
      | some j => simp only []; rw [ctM_o hc (Or.inr (Ne.symm e2))]
  · rw [pE_offt hc e]
    simp [upE, e]
theorem pE_arr {cA : Nat → ClassId} {ad : Nat → Nat} {t : Nat} {I : MI} {J : MJ} {k i len b sp : Nat} (h : shT k = .inr (3, len, b, sp)) (hc : ctAll[t]? = some (k, i)) : upE (pE cA ad t I J) k (.inl (cA 3, len, .inr (.inr (.inr (.inr (va_up (fun i => if (3 : Nat) = 3 ∧ ctM t k i = false then none else some (ad (b + sp * i))) i (some (ad (b + sp * i))))))))) = pE cA ad (t + 1) I J := by
  funext q
  by_cases e : q = k
  · subst e
    unfold pE
    rw [h]
    simp only [upE, if_true]
    show (Sum.inl _ : va_E) = Sum.inl _
    refine congrArg (fun f : Nat → Option Nat => (Sum.inl (cA 3, len, .inr (.inr (.inr (.inr f)))) : va_E)) (funext fun i' => ?_)
    by_cases e2 : i' = i
    · subst e2
      simp [va_up, ctM_i hc]
    · simp [va_up, e2, ctM_o hc (Or.inr e2)]
  · rw [pE_offt hc e]
    simp [upE, e]

section CT
variable {p : Program} {l : Launch} {e : Env} {R : Room} {s : State} {m : MethodId} {args : Array Value} {below : List Frame} {meth : Method} {c : Code} {Q : State → Prop} {D : va_G} {nL : Nat} {cc : ByteArray} {own : String} {ret : Option FieldType} {cA : Nat → ClassId} {cells slots cells' slots' : Nat} {n h0 : Nat} {ad : Nat → Nat} {E E1 : Nat → va_E} {I : MI} {J : MJ} {pc : Nat} {lo : List (Nat × Value)} {st : List Value} {z : Zw} {t : Nat}
/-- from any heap whose cells are E, the next free place being the n-th address -/
def VC (p : Program) (l : Launch) (e : Env) (R : Room) (s : State) (m : MethodId) (args : Array Value) (below : List Frame) (meth : Method) (c : Code) (Q : State → Prop) (D : va_G) (nL cells slots h0 : Nat) (ad : Nat → Nat) (n : Nat) (E : Nat → va_E) (pc : Nat) (lo : List (Nat × Value)) (st : List Value) : Prop :=
  ∀ (H : Heap) (locs : List Loc) (ls : Array Slot), H.size = ad n → va_P D vwCl (wsN n ad E) H → va_S (fun q => h0 ≤ q) s.heap H locs → lv_has ls nL lo → W p l e R s m args below meth c H locs cells slots Q (F0 m pc ls st)
theorem k_aload_n (C : fC p s m args meth c cc nL own ret D cA (fun q => h0 ≤ q)) {i : Fin 4} (k0 : Nat) {x : Nat} (hd : decode cc pc = .ok (.aload_n i, 1)) (hl0 : lo[k0]? = some ((i : Nat), .ref x)) (k : VC p l e R s m args below meth c Q D nL cells slots h0 ad n E (pc + 1) lo (.ref x :: st)) : VC p l e R s m args below meth c Q D nL cells slots h0 ad n E pc lo st := fun H locs ls hz hP hS hl => lv_aload_n C.x C.b hd rfl (lv_at hl k0 hl0) (k H locs ls hz hP hS hl)
theorem k_astore_n (C : fC p s m args meth c cc nL own ret D cA (fun q => h0 ≤ q)) {k4 : Fin 4} {i : Nat} {x : Nat} {lo' : List (Nat × Value)} (hd : decode cc pc = .ok (.astore_n k4, 1)) (hi : (k4 : Nat) = i) (hn : i < nL) (h : (i, Value.ref x) :: lo.filter (fun q => !(q.1 == i) && !(q.1 + 1 == i && q.2.category == 2)) = lo') (k : VC p l e R s m args below meth c Q D nL cells slots h0 ad n E (pc + 1) lo' st) : VC p l e R s m args below meth c Q D nL cells slots h0 ad n E pc lo (.ref x :: st) := fun H locs ls hz hP hS hl => lv_astore_n C.x C.b hd hi hl hn h (fun ls hl => k H locs ls hz hP hS hl)
theorem k_iconst (C : fC p s m args meth c cc nL own ret D cA (fun q => h0 ≤ q)) {z : Int} {v : Int32} (hd : decode cc pc = .ok (.iconst z, 1)) (hv : Int32.ofInt z = v) (k : VC p l e R s m args below meth c Q D nL cells slots h0 ad n E (pc + 1) lo (.int v :: st)) : VC p l e R s m args below meth c Q D nL cells slots h0 ad n E pc lo st := fun H locs ls hz hP hS hl => lv_iconst C.x C.b hd hv (k H locs ls hz hP hS hl)
theorem k_bipush (C : fC p s m args meth c cc nL own ret D cA (fun q => h0 ≤ q)) {z : Int} {v : Int32} (hd : decode cc pc = .ok (.bipush z, 2)) (hv : (Int8.ofInt z).toInt32 = v) (k : VC p l e R s m args below meth c Q D nL cells slots h0 ad n E (pc + 2) lo (.int v :: st)) : VC p l e R s m args below meth c Q D nL cells slots h0 ad n E pc lo st := fun H locs ls hz hP hS hl => lv_bipush C.x C.b hd hv (k H locs ls hz hP hS hl)
theorem k_sipush (C : fC p s m args meth c cc nL own ret D cA (fun q => h0 ≤ q)) {z : Int} {v : Int32} (hd : decode cc pc = .ok (.sipush z, 3)) (hv : (Int16.ofInt z).toInt32 = v) (k : VC p l e R s m args below meth c Q D nL cells slots h0 ad n E (pc + 3) lo (.int v :: st)) : VC p l e R s m args below meth c Q D nL cells slots h0 ad n E pc lo st := fun H locs ls hz hP hS hl => lv_sipush C.x C.b hd hv (k H locs ls hz hP hS hl)
theorem k_dup (C : fC p s m args meth c cc nL own ret D cA (fun q => h0 ≤ q)) {va : Value} (hd : decode cc pc = .ok (.dup, 1)) (hva : va.category = 1) (k : VC p l e R s m args below meth c Q D nL cells slots h0 ad n E (pc + 1) lo (va :: va :: st)) : VC p l e R s m args below meth c Q D nL cells slots h0 ad n E pc lo (va :: st) := fun H locs ls hz hP hS hl => lv_dup C.x C.b hd hva (k H locs ls hz hP hS hl)
def ObjW : Prop := tin (.instanceMethod objectInit) ∧ tin (.code objectInit ⟨#[0xb1]⟩ 1 none)
theorem k_obj (C : fC p s m args meth c cc nL own ret D cA (fun q => h0 ≤ q)) (O : ObjW) {idx a : Nat} (hd : decode cc pc = .ok (.invokespecial idx, 3)) (hlink : tin (.methodLink own idx objectInit)) (hw : (st.map fun v => v.category).sum ≤ 8) (hR : 1 ≤ R.frames ∧ 20 ≤ R.locals) (k : VC p l e R s m args below meth c Q D nL cells slots h0 ad n E (pc + 3) lo st) : VC p l e R s m args below meth c Q D nL cells slots h0 ad n E pc lo (.ref a :: st) := by
  intro H locs ls hz hP hS hl
  have hm : 2 * (F0 m pc ls (.ref a :: st)).monitorRoom + (st.map fun v => v.category).sum ≤ 8 := lv_room hw
  exact W.objInit C.x C.b C.ow (C.keep.use hlink args) (C.keep.use O.1 args) (C.keep.use O.2 args) (g := F0 m pc ls (.ref a :: st)) rfl (hl.1.trans C.ml.symm) rfl hd hR.1 (by omega) (k H locs ls hz hP hS hl)
theorem ac_of {U : State} {ca : ClassId} {ty : FieldType} {A : Array Value} (h1 : ArrOfT U ca ty) (h2 : U.vm.findClass ("[" ++ ty.toString) = some ca) : (Cond.arrayClass ty).before A U = true := by
  obtain ⟨-, kA, hk, comp, hkind⟩ := h1 0 (fun _ => .null)
  have hk : U.vm.classes[ca]? = some kA := hk
  simp [Cond.before, Cond.holds, Cond.value, h2, hk, hkind]
theorem wsN_new {H H1 : Heap} {D : va_G} (hP : va_P D vwCl (wsN n ad E) H) (o1 : ∀ q : Nat, q < H.size → H1[q]? = H[q]?) (hn : va_at D vwCl (ad n, E n) H1) : va_P D vwCl (wsN (n + 1) ad E) H1 := by
  rw [wsN_P] at hP ⊢
  intro k hk hl
  by_cases h : k < n
  · exact (hP k h hl).kept (o1 _ (hP k h hl).lt)
  · rw [show k = n by omega]; exact hn
theorem S_new {H H1 : Heap} {locs : List Loc} {H0 : Heap} (hS : va_S (fun q => h0 ≤ q) H0 H locs) (z1 : H.size ≤ H1.size) (o1 : ∀ q : Nat, q < H.size → H1[q]? = H[q]?) : va_S (fun q => h0 ≤ q) H0 H1 locs := ⟨Nat.le_trans hS.1 z1, fun x h1 h2 => (o1 x (Nat.lt_of_lt_of_le h1 hS.1)).trans (hS.2.1 x h1 h2), hS.2.2⟩
theorem k_newa (C : fC p s m args meth c cc nL own ret D cA (fun q => h0 ≤ q)) {atype : ArrayType} {ty : FieldType} {a0 : vp_A} {ca : ClassId} {len : Nat} (hd : decode cc pc = .ok (.newarray atype, 2)) (hty : newarray.typeOf atype = ty) (hK1 : ArrOfT s ca ty) (hK2 : s.vm.findClass ("[" ++ ty.toString) = some ca) (hE : E n = .inl (ca, a0)) (ha : vp_cell ca a0 = arrV ca len (fun _ => defaultValue ty)) (hl0 : len < 2 ^ 31) (hb : len * componentBytes ty ≤ 536870912) (hst : ad (n + 1) = ad n + 1) (hc : cells + 1 = cells') (hs : slots + len = slots') (hr : cells' ≤ R.cells ∧ slots' ≤ R.slots) (k : VC p l e R s m args below meth c Q D nL cells' slots' h0 ad (n + 1) E (pc + 2) lo (.ref (ad n) :: st)) : VC p l e R s m args below meth c Q D nL cells slots h0 ad n E pc lo (.int (nI len) :: st) := by
  intro H locs ls hz hP hS hl
  subst hty
  subst hc
  subst hs
  refine va_newaK C.x C.b (ac_of hK1 hK2) (g := F0 m pc ls (.int (nI len) :: st)) rfl hd rfl (nI_lt0 hl0) (nI_clamp (by omega)) hb hr.1 hr.2 hz fun H1 cA' e1 z1 o1 _ hNm => ?_
  have hca : cA' = ca := Option.some.inj (hNm.symm.trans hK2)
  subst hca
  have o2 : ∀ q : Nat, q < H.size → H1[q]? = H[q]? := fun q hq => o1 q (by omega)
  refine k H1 locs ls (by rw [z1, hst]) (wsN_new hP o2 ?_) (S_new hS (by omega) o2) hl
  show match E n with
    | .inl a => H1[ad n]? = some (vp_cell a.1 a.2)
    | .inr ob => ∃ r : vw_C, vwCl[ob.1]? = some r ∧ t_OB (ad n) (D.1 ob.1) r.2.2 (D.2 ob.1) H1 (vp_V ob.2)
  rw [hE]
  show H1[ad n]? = some (vp_cell cA' a0)
  rw [ha]
  exact e1
theorem k_newaI (C : fC p s m args meth c cc nL own ret D cA (fun q => h0 ≤ q)) {len : Nat} (hd : decode cc pc = .ok (.newarray .int, 2)) (hs : shA n = some (0, len)) (hz : I n = fun _ => 0) (hl0 : len < 2 ^ 31) (hb : len * componentBytes .int ≤ 536870912) (hst : ad (n + 1) = ad n + 1) (hc : cells + 1 = cells') (hs2 : slots + len = slots') (hr : cells' ≤ R.cells ∧ slots' ≤ R.slots) (k : VC p l e R s m args below meth c Q D nL cells' slots' h0 ad (n + 1) (pE cA ad t I J) (pc + 2) lo (.ref (ad n) :: st)) : VC p l e R s m args below meth c Q D nL cells slots h0 ad n (pE cA ad t I J) pc lo (.int (nI len) :: st) := by
  obtain ⟨b, sp, hsh⟩ := shA_spec hs
  have hK := C.K.2 0 _ rfl
  refine k_newa C (ca := cA 0) (a0 := (len, .inl (I n))) hd rfl hK.1 hK.2 (by unfold pE; rw [hsh]; rfl) (by rw [hz]; rfl) hl0 hb hst hc hs2 hr k
theorem k_newaJ (C : fC p s m args meth c cc nL own ret D cA (fun q => h0 ≤ q)) {len : Nat} (hd : decode cc pc = .ok (.newarray .long, 2)) (hs : shA n = some (1, len)) (hz : J n = fun _ => 0) (hl0 : len < 2 ^ 31) (hb : len * componentBytes .long ≤ 536870912) (hst : ad (n + 1) = ad n + 1) (hc : cells + 1 = cells') (hs2 : slots + len = slots') (hr : cells' ≤ R.cells ∧ slots' ≤ R.slots) (k : VC p l e R s m args below meth c Q D nL cells' slots' h0 ad (n + 1) (pE cA ad t I J) (pc + 2) lo (.ref (ad n) :: st)) : VC p l e R s m args below meth c Q D nL cells slots h0 ad n (pE cA ad t I J) pc lo (.int (nI len) :: st) := by
  obtain ⟨b, sp, hsh⟩ := shA_spec hs
  have hK := C.K.2 1 _ rfl
  refine k_newa C (ca := cA 1) (a0 := (len, .inr (.inl (J n)))) hd rfl hK.1 hK.2 (by unfold pE; rw [hsh]; rfl) (by rw [hz]; rfl) hl0 hb hst hc hs2 hr k
theorem k_newaZ (C : fC p s m args meth c cc nL own ret D cA (fun q => h0 ≤ q)) {len : Nat} (hd : decode cc pc = .ok (.newarray .boolean, 2)) (hs : shA n = some (2, len)) (hz : I n = fun _ => 0) (hl0 : len < 2 ^ 31) (hb : len * componentBytes .boolean ≤ 536870912) (hst : ad (n + 1) = ad n + 1) (hc : cells + 1 = cells') (hs2 : slots + len = slots') (hr : cells' ≤ R.cells ∧ slots' ≤ R.slots) (k : VC p l e R s m args below meth c Q D nL cells' slots' h0 ad (n + 1) (pE cA ad t I J) (pc + 2) lo (.ref (ad n) :: st)) : VC p l e R s m args below meth c Q D nL cells slots h0 ad n (pE cA ad t I J) pc lo (.int (nI len) :: st) := by
  obtain ⟨b, sp, hsh⟩ := shA_spec hs
  have hK := C.K.2 2 _ rfl
  refine k_newa C (ca := cA 2) (a0 := (len, .inl (I n))) hd rfl hK.1 hK.2 (by unfold pE; rw [hsh]; rfl) (by rw [hz]; rfl) hl0 hb hst hc hs2 hr k
theorem k_skip (hd : liv n = false) (hst : ad (n + 1) = ad n) (k : VC p l e R s m args below meth c Q D nL cells slots h0 ad (n + 1) E pc lo st) : VC p l e R s m args below meth c Q D nL cells slots h0 ad n E pc lo st := fun H locs ls hz hP hS hl => k H locs ls (hz.trans hst.symm) (by rw [wsN_dead hd]; exact hP) hS hl
theorem k_new (C : fC p s m args meth c cc nL own ret D cA (fun q => h0 ≤ q)) {idx ci N : Nat} {Cn : String} {T : u_T} {fs : List Value} (hd : decode cc pc = .ok (.new idx, 3)) (hcl : tin (.classLink own idx Cn)) (hini : tin (.instantiable Cn N) ∧ tin (.initialized Cn)) (hc : vwCl[ci]? = some (Cn, T, N)) (hin : ∀ w ∈ u_ws Cn T N, tin w) (ty : Nat → FieldType) (hty : ∀ k, k < N → parseFieldDescriptor (T k).2.2.1 = some (ty k)) (hE : E n = .inr (ci, fs)) (hfs : ∀ j, j < N → defaultValue (ty j) = vp_V fs j) (hst : ad (n + 1) = ad n + 1) (hcs : cells + 1 = cells') (hss : slots + N = slots') (hr : cells' ≤ R.cells ∧ slots' ≤ R.slots) (k : VC p l e R s m args below meth c Q D nL cells' slots' h0 ad (n + 1) E (pc + 3) lo (.ref (ad n) :: st)) : VC p l e R s m args below meth c Q D nL cells slots h0 ad n E pc lo st := by
  intro H locs ls hz hP hS hl
  subst hcs
  subst hss
  have hKn := C.K.1 ci _ hc
  have hts : ∀ w ∈ u_ws Cn T N, w.before args s = true := fun w h => C.keep.use (hin w h) args
  refine W.newcK C.x C.b C.ow (C.keep.use hcl args) (C.keep.use hini.1 args) (C.keep.use hini.2 args) (g := F0 m pc ls st) rfl hd hr.1 hr.2 hKn.2.1 hz fun H1 kC hkC e1 z1 o1 => ?_
  have o2 : ∀ q : Nat, q < H.size → H1[q]? = H[q]? := fun q hq => o1 q (by omega)
  refine k H1 locs ls (by rw [z1, hst]) (wsN_new hP o2 ?_) (S_new hS (by omega) o2) hl
  show match E n with
    | .inl a => H1[ad n]? = some (vp_cell a.1 a.2)
    | .inr ob => ∃ r : vw_C, vwCl[ob.1]? = some r ∧ t_OB (ad n) (D.1 ob.1) r.2.2 (D.2 ob.1) H1 (vp_V ob.2)
  rw [hE]
  exact ⟨_, hc, (u_born ty hts (fun w h => h) hKn hkC e1 hty).to hfs⟩
/-- a field that holds a reference for good, and its link -/
def FP (own : String) (idx ci i : Nat) : Prop := ∃ (Cn : String) (T : u_T) (N : Nat) (ty : FieldType), vwCl[ci]? = some (Cn, T, N) ∧ i < N ∧ (∀ w ∈ u_ws Cn T N, tin w) ∧ (∃ ty0 : Nat → FieldType, (∀ k, k < N → parseFieldDescriptor (T k).2.2.1 = some (ty0 k)) ∧ ∀ a, a < N → ∀ b, b < N → a ≠ b → (T a).2.1 ≠ (T b).2.1) ∧ tin (.fieldLink own idx (T i).1 (T i).2.1 (T i).2.2.1) ∧ (T i).2.2.2 = true ∧ (T i).1 = own ∧ parseFieldDescriptor (T i).2.2.1 = some ty ∧ ∀ v, narrow ty (.ref v) = .ref v ∧ fits ty (.ref v) = true
theorem k_putR (hAD : AD h0 ad) (C : fC p s m args meth c cc nL own ret D cA (fun q => h0 ≤ q)) {idx k i j ci : Nat} (hd : decode cc pc = .ok (.putfield idx, 3)) (hf : FP own idx ci i) (hs : shF k i = some (ci, some j)) (hc : ctAll[t]? = some (k, i)) (hk : k < n) (hm : meth.name = "<init>") (kk : VC p l e R s m args below meth c Q D nL cells slots h0 ad n (pE cA ad (t + 1) I J) (pc + 3) lo st) : VC p l e R s m args below meth c Q D nL cells slots h0 ad n (pE cA ad t I J) pc lo (.ref (ad j) :: .ref (ad k) :: st) := by
  intro H locs ls hz hP hS hl
  obtain ⟨Cn, T, N, ty, h1, h2, h3, ⟨ty0, hty, hnm⟩, h4, h5, h6, h7, h8⟩ := hf
  obtain ⟨fl, e1, e2⟩ := shF_spec hs
  have he := wsN_get (n := n) (ad := ad) (E := pE cA ad t I J) hk (liv_F hs)
  rw [pE_obj e1] at he
  have hts : ∀ w ∈ u_ws Cn T N, w.before args s = true := fun w h => C.keep.use (h3 w h) args
  have hlen : i < (fl.mapIdx (fun i x => match x with
    | none => Value.int (I k i)
    | some j => if ctM t k i = true then .ref (ad j) else .null)).length := by
    rw [List.length_mapIdx]; exact (List.getElem?_eq_some_iff.mp e2).1
  obtain ⟨fs, hfs⟩ : ∃ fs : List Value, fs = fl.mapIdx (fun i x => match x with
    | none => Value.int (I k i)
    | some j => if ctM t k i = true then .ref (ad j) else .null) := ⟨_, rfl⟩
  rw [← hfs] at he hlen
  have hap := va_apart (own := own) hts (fun w h => h) ty0 hty hnm C.K h1
  obtain ⟨r, g1, cell, q1, q2, q3, q4⟩ := hP _ _ he
  have hr : r = (Cn, T, N) := Option.some.inj (g1.symm.trans h1)
  subst hr
  obtain ⟨hSs, hfc, kC, hkC, hkind⟩ := C.K.1 ci _ h1
  obtain ⟨cf, kf, fi, f, hi, hsl⟩ := hSs i h2
  have hlay := hts _ (u_in_lay h2)
  unfold u_lay at hlay
  rw [if_pos h5] at hlay
  have hstt := (u_facts hfc hkC (u_lays hts (fun w h => h) h2) hi).1
  have hcf : m.cls = cf := by
    obtain ⟨_, _, c', _, _, _, -, -, hf', -, -, -, hown2, -⟩ := Cond.laysFinal_spec hlay
    have e1 : c' = cf := by have := hi.symm.trans hf'; simp at this; exact this.1.symm
    rw [h6] at hown2
    rw [← e1]; exact Option.some.inj (C.ow.symm.trans hown2)
  have h9 := u_fits hfc hkC hkind (Or.inr hlay) hi h7 (h8 (ad j)).1 (h8 (ad j)).2
  refine W.putFinK C.x C.b C.ow (C.keep.use h4 args) hi hstt hcf hm (by rw [q2]; exact h9) q1 q3 (by rw [hsl]; exact k2_hasslot (q4 i h2)) rfl rfl hd fun H1 e3 e4 e5 => ?_
  rw [hsl] at e3
  have hP1 := hP.set (H1 := H1) (e := .inr (ci, fs.set i (.ref (ad j)))) hAD.D he ⟨_, h1, t_OB.to (V := updV (vp_V fs) i (.ref (ad j))) ⟨_, e3, q2, q3, t_set q4 hap h2 (.ref (ad j))⟩ (fun y _ => vp_updV_set hlen (.ref (ad j)) y)⟩ e5
  rw [wsN_set (liv_F hs), hfs, pE_ref e1 e2 hc] at hP1
  exact kk H1 _ ls (e4.trans hz) hP1 (hS.put e4 e5 (hAD.2 k)) hl
/-- an int field that may be written, and its link -/
def FI (own : String) (idx ci i : Nat) : Prop := ∃ (Cn : String) (T : u_T) (N : Nat), vwCl[ci]? = some (Cn, T, N) ∧ i < N ∧ (∀ w ∈ u_ws Cn T N, tin w) ∧ (∃ ty0 : Nat → FieldType, (∀ k, k < N → parseFieldDescriptor (T k).2.2.1 = some (ty0 k)) ∧ ∀ a, a < N → ∀ b, b < N → a ≠ b → (T a).2.1 ≠ (T b).2.1) ∧ tin (.fieldLink own idx (T i).1 (T i).2.1 (T i).2.2.1) ∧ (T i).2.2.2 = false ∧ parseFieldDescriptor (T i).2.2.1 = some .int
theorem k_putI (hAD : AD h0 ad) (C : fC p s m args meth c cc nL own ret D cA (fun q => h0 ≤ q)) {idx k i ci : Nat} {v : Int32} (hd : decode cc pc = .ok (.putfield idx, 3)) (hf : FI own idx ci i) (hs : shF k i = some (ci, none)) (hk : k < n) (kk : VC p l e R s m args below meth c Q D nL cells slots h0 ad n (pE cA ad t (up2 I k i v) J) (pc + 3) lo st) : VC p l e R s m args below meth c Q D nL cells slots h0 ad n (pE cA ad t I J) pc lo (.int v :: .ref (ad k) :: st) := by
  intro H locs ls hz hP hS hl
  obtain ⟨Cn, T, N, h1, h2, h3, ⟨ty0, hty, hnm⟩, h4, h5, h7⟩ := hf
  obtain ⟨fl, e1, e2⟩ := shF_spec hs
  have he := wsN_get (n := n) (ad := ad) (E := pE cA ad t I J) hk (liv_F hs)
  rw [pE_obj e1] at he
  have hts : ∀ w ∈ u_ws Cn T N, w.before args s = true := fun w h => C.keep.use (h3 w h) args
  have hlen : i < (fl.mapIdx (fun i x => match x with
    | none => Value.int (I k i)
    | some j => if ctM t k i = true then .ref (ad j) else .null)).length := by
    rw [List.length_mapIdx]; exact (List.getElem?_eq_some_iff.mp e2).1
  obtain ⟨fs, hfs⟩ : ∃ fs : List Value, fs = fl.mapIdx (fun i x => match x with
    | none => Value.int (I k i)
    | some j => if ctM t k i = true then .ref (ad j) else .null) := ⟨_, rfl⟩
  rw [← hfs] at he hlen
  have hap := va_apart (own := own) hts (fun w h => h) ty0 hty hnm C.K h1
  obtain ⟨r, g1, cell, q1, q2, q3, q4⟩ := hP _ _ he
  have hr : r = (Cn, T, N) := Option.some.inj (g1.symm.trans h1)
  subst hr
  obtain ⟨hSs, hfc, kC, hkC, hkind⟩ := C.K.1 ci _ h1
  obtain ⟨cf, kf, fi, f, hi, hsl⟩ := hSs i h2
  have hlay := hts _ (u_in_lay h2)
  unfold u_lay at hlay
  rw [if_neg (by rw [h5]; decide)] at hlay
  have hstt := (u_facts hfc hkC (u_lays hts (fun w h => h) h2) hi).1
  have h9 := u_store hfc hkC hkind hlay hi h7 (show narrow .int (.int v) = .int v from rfl) (show fits .int (.int v) = true from rfl)
  refine W.putK C.x C.b (f := f) ⟨C.ow, C.keep.use h4 args, ⟨_, _, _, hi⟩, hstt⟩ (by rw [q2]; exact h9) q1 q3 (by rw [hsl]; exact k2_hasslot (q4 i h2)) rfl rfl hd fun H1 e3 e4 e5 => ?_
  rw [hsl] at e3 ⊢
  have hP1 := hP.set (H1 := H1) (e := .inr (ci, fs.set i (.int v))) hAD.D he ⟨_, h1, t_OB.to (V := updV (vp_V fs) i (.int v)) ⟨_, e3, q2, q3, t_set q4 hap h2 (.int v)⟩ (fun y _ => vp_updV_set hlen (.int v) y)⟩ e5
  rw [wsN_set (liv_F hs), hfs, pE_put e1 e2] at hP1
  exact kk H1 _ ls (e4.trans hz) hP1 (hS.put e4 e5 (hAD.2 k)) hl
theorem k_newq (O : Ov s) (C : fC p s m args meth c cc nL own ret D cA (fun q => h0 ≤ q)) {idx len b sp : Nat} (hd : decode cc pc = .ok (.anewarray idx, 3)) (hcl : tin (.classLink own idx RX7)) (hs : shT n = .inr (3, len, b, sp)) (hm : (ctAll.take t).all (fun q => !(q.1 == n)) = true) (hl0 : len < 2 ^ 20) (hst : ad (n + 1) = ad n + 1) (hc : cells + 1 = cells') (hs2 : slots + len = slots') (hr : cells' ≤ R.cells ∧ slots' ≤ R.slots) (k : VC p l e R s m args below meth c Q D nL cells' slots' h0 ad (n + 1) (pE cA ad t I J) (pc + 3) lo (.ref (ad n) :: st)) : VC p l e R s m args below meth c Q D nL cells slots h0 ad n (pE cA ad t I J) pc lo (.int (nI len) :: st) := by
  intro H locs ls hz hP hS hl
  subst hc
  subst hs2
  have hN : (nI len).toNatClampNeg = len := nI_clamp (by omega)
  obtain ⟨-, -, -, -, -, -, hK2⟩ := C.K.2 3 (cA 3, .object RX7) rfl
  refine W.anew C.x C.b C.ow (C.keep.use hcl args) (va_AO.use O.1) (g := F0 m pc ls (.int (nI len) :: st)) rfl hd rfl (nI_lt0 (by omega)) (by rw [hN]; omega) hr.1 (by rw [hN]; exact hr.2) fun cA' kA comp f1 f2 f3 f4 => ?_
  have hca : cA' = cA 3 := Option.some.inj (f1.symm.trans hK2)
  subst hca
  rw [hN]
  have z1 : (H.push ({ cls := cA 3, slots := Array.replicate len .null, vm := .none } : Cell)).size = H.size + 1 := Array.size_push _
  have o2 : ∀ q : Nat, q < H.size → (H.push ({ cls := cA 3, slots := Array.replicate len .null, vm := .none } : Cell))[q]? = H[q]? := fun q hq => by rw [Array.getElem?_push, if_neg (Nat.ne_of_lt hq)]
  have e1 : (H.push ({ cls := cA 3, slots := Array.replicate len .null, vm := .none } : Cell))[H.size]? = some (arrV (cA 3) len (fun _ => .null)) := by rw [Array.getElem?_push_size, ← arrV_new]
  rw [hz] at e1
  show W p l e R s m args below meth c _ locs (cells + 1) (slots + len) Q (F0 m (pc + 3) ls (.ref H.size :: st))
  rw [hz]
  refine k _ locs ls (by rw [z1, hz, hst]) (wsN_new hP o2 ?_) (S_new hS (by omega) o2) hl
  unfold pE
  rw [hs]
  show (H.push _)[ad n]? = some (vp_cell _ _)
  rw [vp_cell_q, e1]
  refine congrArg some (arrV_cong (fun j _ => ?_))
  rw [if_pos ⟨rfl, ctM_no hm j⟩]
  rfl
theorem k_aast (hAD : AD h0 ad) (C : fC p s m args meth c cc nL own ret D cA (fun q => h0 ≤ q)) {k i j ci len b sp : Nat} (hd : decode cc pc = .ok (.aastore, 1)) (hs : shT k = .inr (3, len, b, sp)) (hj : j = b + sp * i) (hsj : shO j = some 7) (hc : ctAll[t]? = some (k, i)) (hi : i < len) (hl0 : len < 2 ^ 31) (hk : k < n) (hjn : j < n) (kk : VC p l e R s m args below meth c Q D nL cells slots h0 ad n (pE cA ad (t + 1) I J) (pc + 1) lo st) : VC p l e R s m args below meth c Q D nL cells slots h0 ad n (pE cA ad t I J) pc lo (.ref (ad j) :: .int (nI i) :: .ref (ad k) :: st) := by
  intro H locs ls hz hP hS hl
  subst hj
  have hN : (nI i).toNatClampNeg = i := nI_clamp (by omega)
  have he := wsN_get (n := n) (ad := ad) (E := pE cA ad t I J) hk (liv_r hs)
  have hEk : pE cA ad t I J k = .inl (cA 3, len, .inr (.inr (.inr (.inr (fun i => if (3 : Nat) = 3 ∧ ctM t k i = false then none else some (ad (b + sp * i))))))) := by
    unfold pE; rw [hs]; rfl
  have hj2 := wsN_get (n := n) (ad := ad) (E := pE cA ad t I J) hjn (liv_O hsj)
  obtain ⟨fl, e1⟩ := shO_spec hsj
  rw [pE_obj e1] at hj2
  obtain ⟨r', hr', cellV, g1, g2, g3, -⟩ := hP _ _ hj2
  have hr : r' = (RX7, TX7, 5) := Option.some.inj (hr'.symm.trans rfl)
  subst hr
  have hcls := (C.K.1 7 (RX7, TX7, 5) rfl).2
  obtain ⟨hAr, kA, comp, k1, k2, k3, -⟩ := C.K.2 3 (cA 3, .object RX7) rfl
  have hcomp : comp = D.1 7 := Option.some.inj (k3.symm.trans hcls.1)
  subst hcomp
  obtain ⟨kC, hkC, -⟩ := hcls.2
  rw [hEk] at he
  refine W.aast C.x C.b (g := F0 m pc ls (.ref (ad (b + sp * i)) :: .int (nI i) :: .ref (ad k) :: st)) (hP _ _ he) (fun q h => by cases h) (fun h => by cases h) k1 k2 rfl hkC ⟨nI_lt0 (by omega), by show _ < (arrV _ _ _).slots.size; rw [arrV_size, hN]; exact hi⟩ g1 (fun q h => by rw [g3] at h; cases h) (by rw [g2]; exact hkC) (by rw [g2]; exact va_assign hcls) rfl rfl hd fun H1 e3 z1 oq => ?_
  rw [hN] at e3 ⊢
  have hP1 := hP.set (e := .inl (cA 3, len, .inr (.inr (.inr (.inr (va_up (fun i => if (3 : Nat) = 3 ∧ ctM t k i = false then none else some (ad (b + sp * i))) i (some (ad (b + sp * i))))))))) hAD.D he (by
    show H1[ad k]? = some (vp_cell _ _)
    rw [e3]
    rw [vp_cell_q, vp_cell_q, arrV_store]
    congr 2
    funext q
    by_cases hq : q = i
    · subst hq
      simp [updV, va_up, va_rf]
    · simp [updV, va_up, hq]) oq
  rw [wsN_set (liv_r hs), pE_arr hs hc] at hP1
  exact kk H1 _ ls (z1.trans hz) hP1 (hS.put z1 oq (hAD.2 k)) hl
theorem k_mna (O : Ov s) (C : fC p s m args meth c cc nL own ret D cA (fun q => h0 ≤ q)) {ty : FieldType} {cy : ClassId} {a0 : vp_A} {idx len tt K : Nat} (hty : tt = 4 ∧ ty = .int ∨ tt = 5 ∧ ty = .long) (hd : decode cc pc = .ok (.multianewarray idx 2, 4)) (hcl : tin (.classLink own idx ("[" ++ (FieldType.array ty).toString))) (hcy : ArrOfT s cy ty ∧ s.vm.findClass ("[" ++ ty.toString) = some cy) (hK3 : s.vm.findClass ("[" ++ (FieldType.array ty).toString) = some (cA tt)) (hs : shT n = .inr (tt, len, n + 1, 1)) (hrow : ∀ i, i < len → E (n + 1 + i) = .inl (cy, a0)) (hn : E n = .inl (cA tt, len, .inr (.inr (.inr (.inr (fun i => some (ad (n + 1 + 1 * i)))))))) (ha : ∀ c : ClassId, Jvm.Free.Multi.innerC c K (defaultValue ty) = vp_cell c a0) (hl0 : len < 2 ^ 20 ∧ K < 2 ^ 20) (hst : ∀ i, i ≤ len → ad (n + 1 + i) = ad n + 1 + i) (hc : cells + 1 + len = cells') (hs2 : slots + len + len * K = slots') (hr : cells' ≤ R.cells ∧ slots' ≤ R.slots) (k : VC p l e R s m args below meth c Q D nL cells' slots' h0 ad (n + 1 + len) E (pc + 4) lo (.ref (ad n) :: st)) : VC p l e R s m args below meth c Q D nL cells slots h0 ad n E pc lo (.int (nI K) :: .int (nI len) :: st) := by
  intro H locs ls hz hP hS hl
  subst hc
  subst hs2
  have hN : (nI len).toNatClampNeg = len := nI_clamp (by omega)
  have hM : (nI K).toNatClampNeg = K := nI_clamp (by omega)
  have hov : va_AOA ty s := by
    rcases hty with ⟨-, rfl⟩ | ⟨-, rfl⟩
    · exact O.2.1
    · exact O.2.2
  have hb : componentBytes ty ≤ 8 := by
    rcases hty with ⟨-, rfl⟩ | ⟨-, rfl⟩ <;> decide
  have hdf : fits ty (defaultValue ty) = true ∧ (defaultValue ty).isDefault = true := by
    rcases hty with ⟨-, rfl⟩ | ⟨-, rfl⟩ <;> exact ⟨rfl, rfl⟩
  have hbb : K * componentBytes ty ≤ K * 8 := Nat.mul_le_mul_left _ hb
  intro T hT Xs
  obtain ⟨vm₁, cA', comp, -, fA, fC, hO, -, X', step⟩ := Xs.multianewarray2F C.x C.ow (C.keep.use hcl args) (va_AOA.use hov) (ac_of hcy.1 hcy.2) (g := F0 m pc ls (.int (nI K) :: .int (nI len) :: st)) rfl (by rw [C.b]; exact hd) rfl (nI_lt0 (by omega)) (nI_lt0 (by omega)) (by rw [hN]; omega) (by rw [hM]; omega) (by rw [hM]; omega) hdf.1 hdf.2 (by rw [hN]; omega) (by rw [hN, hM]; omega)
  rw [hN, hM] at X' step
  have ec : comp = cy := by
    have h2 : s.vm.findClass (FieldType.array ty).toString = some cy := hcy.2
    exact Option.some.inj (fC.symm.trans h2)
  subst ec
  have ea : cA' = cA tt := Option.some.inj (fA.symm.trans hK3)
  subst ea
  generalize hF : Jvm.Free.Multi.fill (T.setVm vm₁) (cA tt) comp len K (defaultValue ty) len = F at X' step
  have hTh : (T.setVm vm₁).heap = H := hT
  obtain ⟨f1, f2, -, -⟩ := Jvm.Free.Multi.fill_facts (T.setVm vm₁) (cA tt) comp len K (defaultValue ty) len
  rw [hF, hTh] at f1 f2
  have hold : ∀ x : Nat, x < H.size → F.heap[x]? = H[x]? := fun x hx => by
    have := Jvm.Free.Multi.fill_old (T.setVm vm₁) (cA tt) comp len K (defaultValue ty) (a := x) (by rw [hTh]; exact hx) len
    rw [hF, hTh] at this
    exact this
  have hrw : ∀ j : Nat, j < len → F.heap[H.size + 1 + j]? = some (vp_cell comp a0) := fun j hj => by
    have := Jvm.Free.Multi.fill_inner (T.setVm vm₁) (cA tt) comp len K (defaultValue ty) len j hj
    rw [hF, hTh, ha] at this
    exact this
  rw [vr_outer] at f2
  rw [hz] at f1 f2 hrw
  have hP1 : va_P D vwCl (wsN (n + 1 + len) ad E) F.heap := by
    rw [wsN_P] at hP ⊢
    intro q hq hl
    by_cases h : q < n
    · exact (hP q h hl).kept (hold _ (hP q h hl).lt)
    · by_cases h2 : q = n
      · subst h2
        rw [hn]
        show F.heap[ad q]? = some (vp_cell _ _)
        rw [vp_cell_q, f2]
        refine congrArg some (arrV_cong (fun j hj => ?_))
        rw [if_pos hj, Nat.one_mul, hst j (by omega)]
      · have h3 := hrow (q - (n + 1)) (by omega)
        rw [show n + 1 + (q - (n + 1)) = q by omega] at h3
        rw [h3]
        show F.heap[ad q]? = some (vp_cell _ _)
        have h4 := hst (q - (n + 1)) (by omega)
        rw [show n + 1 + (q - (n + 1)) = q by omega] at h4
        rw [h4]
        exact hrw _ (by omega)
  have hz1 : F.heap.size = ad (n + 1 + len) := by rw [f1, hst len (Nat.le_refl _)]
  obtain ⟨t2, a1, b1⟩ := k F.heap locs ls hz1 hP1 (S_new hS (by rw [f1]; omega) hold) hl F rfl X'
  refine ⟨t2, step t2 ?_, b1⟩
  have hz0 : T.heap.size = ad n := by rw [hT]; exact hz
  rw [hz0]
  exact a1
theorem k_mnaI (O : Ov s) (C : fC p s m args meth c cc nL own ret D cA (fun q => h0 ≤ q)) {idx len K : Nat} (hd : decode cc pc = .ok (.multianewarray idx 2, 4)) (hcl : tin (.classLink own idx "[[I")) (hs : shT n = .inr (4, len, n + 1, 1)) (hrow : ∀ i, i < len → shA (n + 1 + i) = some (0, K) ∧ I (n + 1 + i) = fun _ => 0) (hl0 : len < 2 ^ 20 ∧ K < 2 ^ 20) (hst : ∀ i, i ≤ len → ad (n + 1 + i) = ad n + 1 + i) (hc : cells + 1 + len = cells') (hs2 : slots + len + len * K = slots') (hr : cells' ≤ R.cells ∧ slots' ≤ R.slots) (k : VC p l e R s m args below meth c Q D nL cells' slots' h0 ad (n + 1 + len) (pE cA ad t I J) (pc + 4) lo (.ref (ad n) :: st)) : VC p l e R s m args below meth c Q D nL cells slots h0 ad n (pE cA ad t I J) pc lo (.int (nI K) :: .int (nI len) :: st) := by
  have hK := C.K.2 0 _ rfl
  have hK3 := (C.K.2 4 _ rfl).2
  refine k_mna (tt := 4) (a0 := (K, .inl (fun _ => 0))) O C (ty := .int) (by simp) hd hcl ⟨hK.1, hK.2⟩ hK3 hs (fun i hi => ?_) (by unfold pE; rw [hs]; rfl) (fun c => ?_) hl0 hst hc hs2 hr k
  · obtain ⟨b, sp, hsh⟩ := shA_spec (hrow i hi).1
    unfold pE
    rw [hsh, (hrow i hi).2]
    rfl
  · exact arrV_new c K _
theorem k_mnaJ (O : Ov s) (C : fC p s m args meth c cc nL own ret D cA (fun q => h0 ≤ q)) {idx len K : Nat} (hd : decode cc pc = .ok (.multianewarray idx 2, 4)) (hcl : tin (.classLink own idx "[[J")) (hs : shT n = .inr (5, len, n + 1, 1)) (hrow : ∀ i, i < len → shA (n + 1 + i) = some (1, K) ∧ J (n + 1 + i) = fun _ => 0) (hl0 : len < 2 ^ 20 ∧ K < 2 ^ 20) (hst : ∀ i, i ≤ len → ad (n + 1 + i) = ad n + 1 + i) (hc : cells + 1 + len = cells') (hs2 : slots + len + len * K = slots') (hr : cells' ≤ R.cells ∧ slots' ≤ R.slots) (k : VC p l e R s m args below meth c Q D nL cells' slots' h0 ad (n + 1 + len) (pE cA ad t I J) (pc + 4) lo (.ref (ad n) :: st)) : VC p l e R s m args below meth c Q D nL cells slots h0 ad n (pE cA ad t I J) pc lo (.int (nI K) :: .int (nI len) :: st) := by
  have hK := C.K.2 1 _ rfl
  have hK3 := (C.K.2 5 _ rfl).2
  refine k_mna (tt := 5) (a0 := (K, .inr (.inl (fun _ => 0)))) O C (ty := .long) (by simp) hd hcl ⟨hK.1, hK.2⟩ hK3 hs (fun i hi => ?_) (by unfold pE; rw [hs]; rfl) (fun c => ?_) hl0 hst hc hs2 hr k
  · obtain ⟨b, sp, hsh⟩ := shA_spec (hrow i hi).1
    unfold pE
    rw [hsh, (hrow i hi).2]
    rfl
  · exact arrV_new c K _
def rmC (h mc ms : Nat) : Room := { frames := h, cells := mc, slots := ms, locals := 100 * h }
def CcP (cA : Nat → ClassId) (D : va_G) (z : Zw) (h0 : Nat) (ad : Nat → Nat) (k0 n0 : Nat) (E0 : Nat → va_E) : Array Value → State → Prop := va_Pc [.ref (ad k0)] (fun U => U.heap.size = ad n0 ∧ va_P D vwCl (wsN n0 ad E0) U.heap ∧ va_K D vwCl (tysW cA) U ∧ Keep U ∧ Str z (fun q => h0 ≤ q) U U.heap ∧ Ov U)
/-- a constructor: it makes the cells n0 .. n1 -/
def Cc (l : Launch) (cA : Nat → ClassId) (D : va_G) (z : Zw) (h0 : Nat) (ad : Nat → Nat) (h : Nat) (y : MethodName) (cc : ByteArray) (k0 n0 : Nat) (E0 : Nat → va_E) (mc ms : Nat) (B : State → Prop) : Prop := Met l y [.code y cc 1 none] (rmC h mc ms) (CcP cA D z h0 ad k0 n0 E0) (va_Qv (S := Unit) (fun _ => True) (fun _ U => B U) (fun q => h0 ≤ q)) mc ms (fun q => h0 ≤ q)
def CcB (D : va_G) (ad : Nat → Nat) (n1 : Nat) (E1 : Nat → va_E) (U : State) : Prop := U.heap.size = ad n1 ∧ va_P D vwCl (wsN n1 ad E1) U.heap
theorem Cc.of (hAD : AD h0 ad) {h k0 mc ms : Nat} {y : MethodName} {B : State → Prop} (hy : plainName y.cls = true) (hi : y.name = "<init>") (body : ∀ (p : Program) (e : Env) (s : State) (m : MethodId) (args : Array Value) (below : List Frame) (meth : Method) (c : Code), fC p s m args meth c cc 1 y.cls none D cA (fun q => h0 ≤ q) → meth.name = "<init>" → Str z (fun q => h0 ≤ q) s s.heap → Ov s → ∀ Q : State → Prop, (∀ {pc : Nat} {ls : Array Slot} {H : Heap} {locs : List Loc}, decode cc pc = .ok (.return_, 1) → va_S (fun q => h0 ≤ q) s.heap H locs → (∀ U : State, U.heap = H → B U) → W p l e (rmC h mc ms) s m args below meth c H locs mc ms Q (F0 m pc ls [])) → VC p l e (rmC h mc ms) s m args below meth c Q D 1 0 0 h0 ad n E 0 [(0, .ref (ad k0))] []) : Cc l cA D z h0 ad h y cc k0 n E mc ms B := by
  unfold Cc
  refine Met.ofW (cc := cc) (maxL := 1) (ret := none) hy rfl ?_
  intro p e s m args below meth c s₁ B0 hml hv
  obtain ⟨rfl, hsz, hP, hK, hkeep, hZ, hO⟩ := hv
  have hl := lv_entry [Value.ref (ad k0)] (n := 1) (by exact Nat.le_refl _)
  rw [lg_entry_eq]
  generalize (lg_sl [Value.ref (ad k0)] ++ List.replicate (1 - (lg_sl [Value.ref (ad k0)]).length) Slot.unset).toArray = ls at hl ⊢
  have C : fC p s m #[Value.ref (ad k0)] meth c cc 1 y.cls none D cA (fun q => h0 ≤ q) := ⟨B0.exec, B0.bytes, hml, findClass_of_methodNamed B0.named, B0.notSynchronized, B0.returns, hkeep, hK, fun q h => Nat.le_trans (hAD.2 n) (by rw [← hsz]; exact h)⟩
  refine body p e s m #[Value.ref (ad k0)] below meth c C (((name_of_methodNamed B0.named B0.method).1).trans hi) hZ hO _ (fun hd hS hB => ?_) s.heap [] ls hsz hP va_S.rf hl
  exact W.vret C.x C.b C.rt (fun t ht hW => ⟨⟨(), rfl, trivial, hB t ht⟩, hS.F ht⟩) hS.2.2 hd C.lk
theorem k_ret {mc ms : Nat} {h : Nat} {n1 : Nat} {E1 : Nat → va_E} (hret : ∀ {pc : Nat} {ls : Array Slot} {H : Heap} {locs : List Loc}, decode cc pc = .ok (.return_, 1) → va_S (fun q => h0 ≤ q) s.heap H locs → (∀ U : State, U.heap = H → CcB D ad n1 E1 U) → W p l e (rmC h mc ms) s m args below meth c H locs mc ms Q (F0 m pc ls [])) (hd : decode cc pc = .ok (.return_, 1)) : VC p l e (rmC h mc ms) s m args below meth c Q D nL mc ms h0 ad n1 E1 pc lo [] :=
  fun H locs ls hz hP hS hl => hret hd hS (fun U hU => ⟨by rw [hU]; exact hz, by rw [hU]; exact hP⟩)
theorem k_run (hAD : AD h0 ad) (C : fC p s m args meth c cc nL own ret D cA (fun q => h0 ≤ q)) (Z : Str z (fun q => h0 ≤ q) s s.heap) (O : Ov s) {idx h k0 mc ms : Nat} {y : MethodName} {bytes : ByteArray} {B : State → Prop} (hd : decode cc pc = .ok (.invokespecial idx, 3)) (hcl : CL own idx y bytes 1 none 0) (hin : tin (.instanceMethod y)) (hi : y.name = "<init>") (hM : Cc l cA D z h0 ad h y bytes k0 n E mc ms B) (hR : h + 1 ≤ R.frames ∧ 8 + (1 + 11) + 100 * h ≤ R.locals) (hw : (st.map fun v => v.category).sum ≤ 8) (hcs : cells + mc = cells') (hss : slots + ms = slots') (hr : cells' ≤ R.cells ∧ slots' ≤ R.slots) (k : ∀ (H H1 : Heap) (locs1 : List Loc) (ls : Array Slot) (U : State), U.heap = H1 → B U → H.size ≤ H1.size → va_S (fun q => h0 ≤ q) s.heap H1 locs1 → lv_has ls nL lo → W p l e R s m args below meth c H1 locs1 cells' slots' Q (F0 m (pc + 3) ls st)) : VC p l e R s m args below meth c Q D nL cells slots h0 ad n E pc lo (.ref (ad k0) :: st) := by
  intro H locs ls hz hP hS hl
  subst hcs
  subst hss
  obtain ⟨hlk, hini, hcode, hy1, hy2, hy3⟩ := hcl
  have hlen : ∀ sig, parseMethodDescriptor y.desc = some sig → 0 = sig.parameters.length := fun sig hq => by
    rw [hq] at hy3
    exact (Option.some.inj hy3).symm
  have hbl : FrameBlind (CcP cA D z h0 ad k0 n E) := by
    rintro a U g mk ⟨q0, q1, q2, q3, q4, q5, q6⟩
    exact ⟨q0, q1, q2, va_K.moved (u := U) (U := U.calling g mk a) (Vm.Alike.refl U.vm) q3, Keep.same (s := U) rfl q4, Str.same (u := U) rfl q5, Ov.moved (u := U) (U := U.calling g mk a) (Vm.Alike.refl U.vm) q6⟩
  have hpre : ∀ U : State, U.heap = H → s.WarmedH U.vm → CcP cA D z h0 ad k0 n E (Value.ref (ad k0) :: []).toArray U := fun U hU hW => ⟨rfl, by rw [hU]; exact hz, by rw [hU]; exact hP, va_K.moved hW.alike C.K, C.keep.warm hW, by rw [hU]; exact Z.to hS hW (fun _ q => q), O.moved hW.alike⟩
  have CF : CallFix p m c cc nL s args [] own := ⟨C.x, C.b, C.ml, C.ow, fun w h => by cases h⟩
  have hrun : va_Run p l e R s m args below meth c H locs cells slots mc ms (F0 m pc ls (.ref (ad k0) :: st)) st (va_Qv (S := Unit) (fun _ => True) (fun _ U => B U) (fun q => h0 ≤ q) (Value.ref (ad k0) :: []).toArray) (fun q => h0 ≤ q) := by
    have hws : ∀ w ∈ [Cond.code y bytes 1 none], ∀ (a' : Array Value) (U : State), s.WarmedH U.vm → w.before a' U = true := fun w hw a' U hW => by
      rw [List.mem_singleton.mp hw]
      exact (C.keep.warm hW).use hcode a'
    rcases hlk with hlk | ⟨host, hlk⟩
    · exact va_runI (As := []) (rest := st) CF hM ⟨⟨rfl, rfl, hR.1, hR.2, hws, List.mem_cons_self, C.keep.use hcode args, C.keep.use hini args, ⟨hy1, hy2⟩, hlen, C.keep.use hlk args⟩, hi, C.keep.use hin args⟩ ⟨hbl, hpre⟩ rfl rfl hl.1 rfl (lv_room hw) hd ⟨hr.1, hr.2⟩
    · exact va_runIN (As := []) (rest := st) CF hM ⟨⟨⟨rfl, rfl, hR.1, hR.2, hws, List.mem_cons_self⟩, C.keep.use hcode args, C.keep.use hini args, ⟨hy1, hy2⟩, hlen, C.keep.use hlk args⟩, hi, C.keep.use hin args⟩ ⟨hbl, hpre⟩ rfl rfl hl.1 rfl (lv_room hw) hd ⟨hr.1, hr.2⟩
  exact va_callv hrun hS (fun q _ h => h) (fun q h => h) (fun u U H1 locs1 hU hvm hp hB hz1 hk1 hS1 => k H H1 locs1 ls U hU hB hz1 hS1 hl)
theorem k_call (hAD : AD h0 ad) (C : fC p s m args meth c cc nL own ret D cA (fun q => h0 ≤ q)) (Z : Str z (fun q => h0 ≤ q) s s.heap) (O : Ov s) {idx h k0 mc ms n1 : Nat} {y : MethodName} {bytes : ByteArray} (hd : decode cc pc = .ok (.invokespecial idx, 3)) (hcl : CL own idx y bytes 1 none 0) (hin : tin (.instanceMethod y)) (hi : y.name = "<init>") (hM : Cc l cA D z h0 ad h y bytes k0 n E mc ms (CcB D ad n1 E1)) (hR : h + 1 ≤ R.frames ∧ 8 + (1 + 11) + 100 * h ≤ R.locals) (hw : (st.map fun v => v.category).sum ≤ 8) (hcs : cells + mc = cells') (hss : slots + ms = slots') (hr : cells' ≤ R.cells ∧ slots' ≤ R.slots) (k : VC p l e R s m args below meth c Q D nL cells' slots' h0 ad n1 E1 (pc + 3) lo st) : VC p l e R s m args below meth c Q D nL cells slots h0 ad n E pc lo (.ref (ad k0) :: st) :=
  k_run hAD C Z O hd hcl hin hi hM hR hw hcs hss hr (fun H H1 locs1 ls U hU hB hz1 hS1 hl => k H1 locs1 ls (by rw [← hU]; exact hB.1) (by rw [← hU]; exact hB.2) hS1 hl)
theorem k_V (C : fC p s m args meth c cc nL own ret D cA (fun q => h0 ≤ q)) (hAD : AD h0 ad) (k : V p l e R s m args below meth c Q D (fun q => h0 ≤ q) nL cells slots n ad E pc lo st) : VC p l e R s m args below meth c Q D nL cells slots h0 ad n E pc lo st := fun H locs ls hz hP hS hl => k H locs ls hP hAD.D hS hl
end CT
