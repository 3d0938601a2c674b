section STRS
variable {l : Launch} {n : Nat} {ad : Nat → Nat} {cA : Nat → ClassId} {D : va_G} {z : Zw}
theorem kf_J0_9 : tin (.fieldLink RJ0 9 "java/lang/String" "value" "[B") := tin.of 1303 (by decide +kernel) rfl
theorem kf_J0_15 : tin (.fieldLink RJ0 15 "java/lang/String" "coder" "B") := tin.of 1304 (by decide +kernel) rfl
theorem kf_J0_38 : tin (.fieldLink RJ0 38 "java/lang/String" "COMPACT_STRINGS" "Z") := tin.of 396 (by decide +kernel) rfl
theorem kf_J0_1053 : tin (.fieldLink RJ0 1053 "jdk/internal/util/Preconditions" "SIOOBE_FORMATTER" "Ljava/util/function/BiFunction;") := tin.of 412 (by decide +kernel) rfl
theorem kf_X0_105 : tin (.fieldLink RX0 105 "PleaPapers$ClaimReader" "LOW_FACTS" "[J") := tin.of 500 (by decide +kernel) rfl
def sWd (i : Nat) : List Nat := ([[111, 119, 101], [112, 97, 121], [105, 102], [110, 111, 116], [97, 110, 100], [111, 114], [115, 97, 121], [97, 100, 109, 105, 116], [100, 101, 110, 121], [100, 111, 117, 98, 116], [116, 97, 107, 101], [110, 111, 116]] : List (List Nat)).getD i []
theorem sWd_len : ∀ i, i < 12 → (sWd i).length = sLen.getD i 0 ∧ sLen.getD i 0 < 8 := by decide
theorem sWd_ch : ∀ i, i < 12 → ∀ k, k < sLen.getD i 0 → (((((sByt.getD i []).getD k 0) &&& nI 255).toUInt32 % 65536).toInt32 = nI ((sWd i).getD k 0) ∧ (sWd i).getD k 0 < 256) := by decide +kernel
section STRR
variable {p : Program} {l : Launch} {e : Env} {R : Room} {s : State} {m : MethodId} {args : Array Value} {below : List Frame} {meth : Method} {c : Code} {Q : State → Prop} {D : va_G} {A : Nat → Prop} {nL : Nat} {cc : ByteArray} {own : String} {ret : Option FieldType} {cA : Nat → ClassId} {cells slots : Nat} {n : Nat} {ad : Nat → Nat} {E : Nat → va_E} {I I' : MI} {J J' : MJ} {pc : Nat} {lo : List (Nat × Value)} {st : List Value} {z : Zw}
theorem r_getO (C : fC p s m args meth c cc nL own ret D cA A) {idx t : Nat} {cl nm d : String} {v : Value} (hd : decode cc pc = .ok (.getfield idx, 3)) (hw : tin (.fieldLink own idx cl nm d)) (hO : va_OF cl nm d v t A s s.heap) (k : V p l e R s m args below meth c Q D A nL cells slots n ad E (pc + 3) lo (v :: st)) : V p l e R s m args below meth c Q D A nL cells slots n ad E pc lo (.ref t :: st) := fun H locs ls hP hD hS hl =>
  va_getX (N := 1) (v := fun _ => v) (ad := fun _ => t) (i := 0) C.x C.b (fun _ _ => hO) (by decide) hS C.ow (C.keep.use hw args) (fun _ h => h) hd (k H locs ls hP hD hS hl)
theorem r_gets (C : fC p s m args meth c cc nL own ret D cA A) {idx : Nat} {cl nm d : String} {v : Value} (hd : decode cc pc = .ok (.getstatic idx, 3)) (hw : tin (.fieldLink own idx cl nm d)) (hZ : va_Z cl nm d v A s s.heap) (k : V p l e R s m args below meth c Q D A nL cells slots n ad E (pc + 3) lo (v :: st)) : V p l e R s m args below meth c Q D A nL cells slots n ad E pc lo st := fun H locs ls hP hD hS hl =>
  va_gets C.x C.b hZ hS C.ow (C.keep.use hw args) (fun _ h => h) hd (k H locs ls hP hD hS hl)
theorem r_tlen (C : fC p s m args meth c cc nL own ret D cA A) {t N : Nat} {ty : FieldType} {f : Nat → Value} (hd : decode cc pc = .ok (.arraylength, 1)) (hT : va_T ty t N f A s s.heap) (k : V p l e R s m args below meth c Q D A nL cells slots n ad E (pc + 1) lo (.int (nI N) :: st)) : V p l e R s m args below meth c Q D A nL cells slots n ad E pc lo (.ref t :: st) := fun H locs ls hP hD hS hl =>
  va_tlen C.x C.b hT hS rfl hd (k H locs ls hP hD hS hl)
theorem r_tb (C : fC p s m args meth c cc nL own ret D cA A) {t N j : Nat} {f : Nat → Value} (hd : decode cc pc = .ok (.baload, 1)) (hT : va_T .byte t N f A s s.heap) (hj : j < N) (hN : N < 2 ^ 31) (k : V p l e R s m args below meth c Q D A nL cells slots n ad E (pc + 1) lo (f j :: st)) : V p l e R s m args below meth c Q D A nL cells slots n ad E pc lo (.int (nI j) :: .ref t :: st) := fun H locs ls hP hD hS hl =>
  va_tb C.x C.b hT hS (vp_in_nI hj hN) (by rw [nI_clamp (by omega)]) hd (k H locs ls hP hD hS hl)
theorem r_tl (C : fC p s m args meth c cc nL own ret D cA A) {t N j : Nat} {f : Nat → Value} (hd : decode cc pc = .ok (.laload, 1)) (hT : va_T .long t N f A s s.heap) (hj : j < N) (hN : N < 2 ^ 31) (k : V p l e R s m args below meth c Q D A nL cells slots n ad E (pc + 1) lo (f j :: st)) : V p l e R s m args below meth c Q D A nL cells slots n ad E pc lo (.int (nI j) :: .ref t :: st) := fun H locs ls hP hD hS hl =>
  va_tl C.x C.b hT hS (vp_in_nI hj hN) (by rw [nI_clamp (by omega)]) hd (k H locs ls hP hD hS hl)
theorem r_ldcS (C : fC p s m args meth c cc nL own ret D cA A) {idx t : Nat} {tx : String} (hd : decode cc pc = .ok (.ldc idx, 2)) (hZ : vk_R own idx tx t s) (k : V p l e R s m args below meth c Q D A nL cells slots n ad E (pc + 2) lo (.ref t :: st)) : V p l e R s m args below meth c Q D A nL cells slots n ad E pc lo st := fun H locs ls hP hD hS hl =>
  va_ldcS C.x C.b C.ow hZ hd (k H locs ls hP hD hS hl)
theorem r_ivStr (C : fC p s m args meth c cc nL own ret D cA A) (Z : Str z A s s.heap) {idx h maxL np t : Nat} {y : MethodName} {bytes : ByteArray} {ty : FieldType} {As rest : List Value} {post : Int32 → MI → MJ → Prop} (hd : decode cc pc = .ok (.invokevirtual idx, 3)) (hcl : CL own idx y bytes maxL (some ty) np) (hci : tin (.instanceMethod y) ∧ tin (.selects y.cls y y)) (hO : va_O y.cls t A s s.heap) (hc : Ci l n ad cA D z h y bytes maxL ty I J (.ref t :: As) post) (hn : As.length = np) (hst : st = As.reverse ++ .ref t :: rest) (hw : (rest.map fun v => v.category).sum ≤ 8) (hR : h + 1 ≤ R.frames ∧ 8 + (maxL + 11) + 100 * h ≤ R.locals) (hcs : cells ≤ R.cells ∧ slots ≤ R.slots) (kk : ∀ (r : Int32) (I' : MI) (J' : MJ), post r I' J' → V p l e R s m args below meth c Q D A nL cells slots n ad (mE cA ad I' J') (pc + 3) lo (.int r :: rest)) : V p l e R s m args below meth c Q D A nL cells slots n ad (mE cA ad I J) pc lo st := by
  intro H locs ls hP hD hS hl
  have hF := Ar.le hD hS C.hA
  obtain ⟨hlk, hcl⟩ := hcl
  obtain ⟨hbl, hpre⟩ := fm_pre C Z hP hD hS (.ref t :: As)
  have hO2 := hO.kept (H1 := H) hS.2.1
  obtain ⟨cellB, b1, b2, b3, -⟩ := hO2
  have CF : CallFix p m c cc nL s args [] own := ⟨C.x, C.b, C.ml, C.ow, fun w h => by cases h⟩
  rcases hlk with hlk | ⟨host, hlk⟩
  · refine va_calli (va_runV (As := As) (rest := rest) CF (hc H.size) ⟨fm_cb C hcl hlk hR, C.keep.use hci.1 args, C.keep.use hci.2 args⟩ ⟨hbl, ⟨cellB, b1, b2, b3⟩, hpre⟩ rfl hn hl.1 hst (lv_room hw) hd ⟨hcs.1, hcs.2⟩) hS (fun q _ h => hF q h) hF (fun r u t H1 locs1 ht hvm hw hB hz1 hk1 hS1 => ?_)
    obtain ⟨hP1, -, -, -⟩ := hB
    rw [ht] at hP1
    exact kk r u.1 u.2 hw H1 locs1 ls hP1 (wsN_D hD) hS1 hl
  · refine va_calli (va_runVN (As := As) (rest := rest) CF (hc H.size) ⟨fm_cn C hcl hlk hR, C.keep.use hci.1 args, C.keep.use hci.2 args⟩ ⟨hbl, ⟨cellB, b1, b2, b3⟩, hpre⟩ rfl hn hl.1 hst (lv_room hw) hd ⟨hcs.1, hcs.2⟩) hS (fun q _ h => hF q h) hF (fun r u t H1 locs1 ht hvm hw hB hz1 hk1 hS1 => ?_)
    obtain ⟨hP1, -, -, -⟩ := hB
    rw [ht] at hP1
    exact kk r u.1 u.2 hw H1 locs1 ls hP1 (wsN_D hD) hS1 hl
end STRR
set_option maxHeartbeats 1000000 in
set_option maxRecDepth 100000 in
theorem c_J0_coder_7d493 (I : MI) (J : MJ) (i : Nat) (hi : i < 12) : Ci l n ad cA D z 0 yJ0_coder_7d493 cJ0_coder_7d493 1 .byte I J [.ref (z.1 i)] (fun r I' J' => r = nI 0 ∧ I' = I ∧ J' = J) := by
  refine Ci.of (by decide) (Nat.le_of_ble_eq_true rfl) ?_
  intro p e s m args below meth c A C hin Z Q hret
  refine r_gets C (dk oJ0_coder_7d493 0 rfl) kf_J0_38 Z.2.2.2.2.1 ?_
  refine r_if_eq (tgt := 13) C (dk oJ0_coder_7d493 1 rfl) (by decide) (fun hb3 => absurd hb3 (by decide)) (fun hb3 => ?_)
  refine r_aload_n C 0 (dk oJ0_coder_7d493 2 rfl) rfl ?_
  refine r_getO C (dk oJ0_coder_7d493 3 rfl) kf_J0_15 (Z.1 i hi).2.1 ?_
  refine r_goto (tgt := 14) C (dk oJ0_coder_7d493 4 rfl) (by decide) ?_
  refine hret (dk oJ0_coder_7d493 6 rfl) rfl ?_
  exact ⟨rfl, rfl, rfl⟩

set_option maxHeartbeats 1000000 in
set_option maxRecDepth 100000 in
theorem c_J0_isLatin1_aae02 (I : MI) (J : MJ) (i : Nat) (hi : i < 12) : Ci l n ad cA D z 0 yJ0_isLatin1_aae02 cJ0_isLatin1_aae02 1 .boolean I J [.ref (z.1 i)] (fun r I' J' => r = b32 true ∧ I' = I ∧ J' = J) := by
  refine Ci.of (by decide) (Nat.le_of_ble_eq_true rfl) ?_
  intro p e s m args below meth c A C hin Z Q hret
  refine r_gets C (dk oJ0_isLatin1_aae02 0 rfl) kf_J0_38 Z.2.2.2.2.1 ?_
  refine r_if_eq (tgt := 17) C (dk oJ0_isLatin1_aae02 1 rfl) (by decide) (fun hb3 => absurd hb3 (by decide)) (fun hb3 => ?_)
  refine r_aload_n C 0 (dk oJ0_isLatin1_aae02 2 rfl) rfl ?_
  refine r_getO C (dk oJ0_isLatin1_aae02 3 rfl) kf_J0_15 (Z.1 i hi).2.1 ?_
  refine r_if_ne (tgt := 17) C (dk oJ0_isLatin1_aae02 4 rfl) (by decide) (fun hb10 => absurd rfl hb10) (fun hb10 => ?_)
  refine r_iconst C (dk oJ0_isLatin1_aae02 5 rfl) (v := nI 1) (by decide) ?_
  refine r_goto (tgt := 18) C (dk oJ0_isLatin1_aae02 6 rfl) (by decide) ?_
  refine hret (dk oJ0_isLatin1_aae02 8 rfl) rfl ?_
  exact ⟨rfl, rfl, rfl⟩

set_option maxHeartbeats 1000000 in
set_option maxRecDepth 100000 in
theorem c_J0_length_8abf5 (I : MI) (J : MJ) (i : Nat) (hi : i < 12) : Ci l n ad cA D z 1 yJ0_length_8abf5 cJ0_length_8abf5 1 .int I J [.ref (z.1 i)] (fun r I' J' => r = nI (sLen.getD i 0) ∧ I' = I ∧ J' = J) := by
  refine Ci.of (by decide) (Nat.le_of_ble_eq_true rfl) ?_
  intro p e s m args below meth c A C hin Z Q hret
  refine r_aload_n C 0 (dk oJ0_length_8abf5 0 rfl) rfl ?_
  refine r_getO C (dk oJ0_length_8abf5 1 rfl) kf_J0_9 (Z.1 i hi).2.2.1 ?_
  refine r_tlen C (dk oJ0_length_8abf5 2 rfl) (Z.1 i hi).2.2.2 ?_
  refine r_aload_n C 0 (dk oJ0_length_8abf5 3 rfl) rfl ?_
  refine r_ivStr C Z (dk oJ0_length_8abf5 4 rfl) cl_J0_335 ji_J0_coder_7d493 (Z.1 i hi).1 (c_J0_coder_7d493 I J i hi) rfl rfl (Nat.le_of_ble_eq_true rfl) ⟨Nat.le_of_ble_eq_true rfl, Nat.le_of_ble_eq_true rfl⟩ ⟨Nat.zero_le _, Nat.zero_le _⟩ (fun r6 I6 J6 h6 => ?_)
  obtain ⟨h6, e1_, e2_⟩ := h6
  have e1_ := e1_.symm
  have e2_ := e2_.symm
  subst e1_
  subst e2_
  subst h6
  refine r_ishr C (dk oJ0_length_8abf5 5 rfl) ?_
  rw [pk_shrN (by have := (sWd_len i hi).2; omega) (nI 0 &&& 31) 0 (by decide)]
  refine hret (dk oJ0_length_8abf5 6 rfl) rfl ?_
  exact ⟨by rw [Nat.pow_zero, Nat.div_one], rfl, rfl⟩

set_option maxHeartbeats 1000000 in
set_option maxRecDepth 100000 in
theorem c_J3_checkIndex_8e157 (I : MI) (J : MJ) (a b : Nat) (f : Option Nat) (h : a < b) (hb : b < 2 ^ 31) : Ci l n ad cA D z 0 yJ3_checkIndex_8e157 cJ3_checkIndex_8e157 3 .int I J [.int (nI a), .int (nI b), va_rf f] (fun r I' J' => r = nI a ∧ I' = I ∧ J' = J) := by
  refine Ci.of (by decide) (by cases f <;> exact Nat.le_of_ble_eq_true rfl) ?_
  intro p e s m args below meth c A C hin Z Q hret
  refine r_iload_n C 0 (dk oJ3_checkIndex_8e157 0 rfl) rfl ?_
  refine r_if_lt (tgt := 9) C (dk oJ3_checkIndex_8e157 1 rfl) (by decide) (fun hb1 => absurd hb1 (nI_lt0 (by omega))) (fun hb1 => ?_)
  refine r_iload_n C 0 (dk oJ3_checkIndex_8e157 2 rfl) rfl ?_
  refine r_iload_n C 1 (dk oJ3_checkIndex_8e157 3 rfl) rfl ?_
  refine r_icmp_lt (tgt := 16) C (dk oJ3_checkIndex_8e157 4 rfl) (by decide) (fun hb6 => ?_) (fun hb6 => absurd (nI_lt h hb) hb6)
  refine r_iload_n C 0 (dk oJ3_checkIndex_8e157 10 rfl) rfl ?_
  refine hret (dk oJ3_checkIndex_8e157 11 rfl) rfl ?_
  exact ⟨rfl, rfl, rfl⟩

set_option maxHeartbeats 1000000 in
set_option maxRecDepth 100000 in
theorem c_J0_checkIndex_df160 (I : MI) (J : MJ) (a b : Nat) (h : a < b) (hb : b < 2 ^ 31) : Cv l n ad cA D z 1 yJ0_checkIndex_df160 cJ0_checkIndex_df160 2 I J [.int (nI a), .int (nI b)] (fun I' J' => I' = I ∧ J' = J) := by
  refine Cv.of (by decide) (Nat.le_of_ble_eq_true rfl) ?_
  intro p e s m args below meth c A C hin Z Q hret
  obtain ⟨f, hf⟩ := Z.2.2.2.2.2
  refine r_iload_n C 0 (dk oJ0_checkIndex_df160 0 rfl) rfl ?_
  refine r_iload_n C 1 (dk oJ0_checkIndex_df160 1 rfl) rfl ?_
  refine r_gets C (dk oJ0_checkIndex_df160 2 rfl) kf_J0_1053 hf ?_
  refine r_isi C Z (dk oJ0_checkIndex_df160 3 rfl) cl_J0_1059 st_J3_checkIndex_8e157 (c_J3_checkIndex_8e157 I J a b f h hb) rfl rfl (Nat.le_of_ble_eq_true rfl) ⟨Nat.le_of_ble_eq_true rfl, Nat.le_of_ble_eq_true rfl⟩ ⟨Nat.zero_le _, Nat.zero_le _⟩ (fun r5 I5 J5 h5 => ?_)
  obtain ⟨h5, e1_, e2_⟩ := h5
  have e1_ := e1_.symm
  have e2_ := e2_.symm
  subst e1_
  subst e2_
  subst h5
  refine r_pop C (dk oJ0_checkIndex_df160 4 rfl) rfl ?_
  refine hret (dk oJ0_checkIndex_df160 5 rfl) ?_
  exact ⟨rfl, rfl⟩

set_option maxHeartbeats 1000000 in
set_option maxRecDepth 100000 in
theorem c_J1_charAt_3b067 (I : MI) (J : MJ) (i k : Nat) (hi : i < 12) (hk : k < sLen.getD i 0) : Ci l n ad cA D z 2 yJ1_charAt_3b067 cJ1_charAt_3b067 2 .char I J [.ref (z.2.1 i), .int (nI k)] (fun r I' J' => r = nI ((sWd i).getD k 0) ∧ I' = I ∧ J' = J) := by
  refine Ci.of (by decide) (Nat.le_of_ble_eq_true rfl) ?_
  intro p e s m args below meth c A C hin Z Q hret
  have hL := (sWd_len i hi).2
  refine r_iload_n C 1 (dk oJ1_charAt_3b067 0 rfl) rfl ?_
  refine r_aload_n C 0 (dk oJ1_charAt_3b067 1 rfl) rfl ?_
  refine r_tlen C (dk oJ1_charAt_3b067 2 rfl) (Z.1 i hi).2.2.2 ?_
  refine r_isv C Z (dk oJ1_charAt_3b067 3 rfl) cl_J1_9 st_J0_checkIndex_df160 (c_J0_checkIndex_df160 I J k (sLen.getD i 0) hk (by omega)) rfl rfl (Nat.le_of_ble_eq_true rfl) ⟨Nat.le_of_ble_eq_true rfl, Nat.le_of_ble_eq_true rfl⟩ ⟨Nat.zero_le _, Nat.zero_le _⟩ (fun I3 J3 h3 => ?_)
  obtain ⟨e1_, e2_⟩ := h3
  have e1_ := e1_.symm
  have e2_ := e2_.symm
  subst e1_
  subst e2_
  refine r_aload_n C 0 (dk oJ1_charAt_3b067 4 rfl) rfl ?_
  refine r_iload_n C 1 (dk oJ1_charAt_3b067 5 rfl) rfl ?_
  refine r_tb C (dk oJ1_charAt_3b067 6 rfl) (Z.1 i hi).2.2.2 hk (by omega) ?_
  refine r_sipush C (dk oJ1_charAt_3b067 7 rfl) (v := nI 255) (by decide) ?_
  refine r_iand C (dk oJ1_charAt_3b067 8 rfl) ?_
  refine r_i2c C (dk oJ1_charAt_3b067 9 rfl) ?_
  rw [(sWd_ch i hi k hk).1]
  refine hret (dk oJ1_charAt_3b067 10 rfl) (pk_charN (by have := (sWd_ch i hi k hk).2; omega)).1 ?_
  exact ⟨rfl, rfl, rfl⟩

set_option maxHeartbeats 1000000 in
set_option maxRecDepth 100000 in
theorem c_J0_charAt_5068e (I : MI) (J : MJ) (i k : Nat) (hi : i < 12) (hk : k < sLen.getD i 0) : Ci l n ad cA D z 3 yJ0_charAt_5068e cJ0_charAt_5068e 2 .char I J [.ref (z.1 i), .int (nI k)] (fun r I' J' => r = nI ((sWd i).getD k 0) ∧ I' = I ∧ J' = J) := by
  refine Ci.of (by decide) (Nat.le_of_ble_eq_true rfl) ?_
  intro p e s m args below meth c A C hin Z Q hret
  refine r_aload_n C 0 (dk oJ0_charAt_5068e 0 rfl) rfl ?_
  refine r_ivStr C Z (dk oJ0_charAt_5068e 1 rfl) cl_J0_492 ji_J0_isLatin1_aae02 (Z.1 i hi).1 (c_J0_isLatin1_aae02 I J i hi) rfl rfl (Nat.le_of_ble_eq_true rfl) ⟨Nat.le_of_ble_eq_true rfl, Nat.le_of_ble_eq_true rfl⟩ ⟨Nat.zero_le _, Nat.zero_le _⟩ (fun r1 I1 J1 h1 => ?_)
  obtain ⟨h1, e1_, e2_⟩ := h1
  have e1_ := e1_.symm
  have e2_ := e2_.symm
  subst e1_
  subst e2_
  subst h1
  refine r_if_eq (tgt := 16) C (dk oJ0_charAt_5068e 2 rfl) (by decide) (fun hb4 => absurd hb4 (by decide)) (fun hb4 => ?_)
  refine r_aload_n C 0 (dk oJ0_charAt_5068e 3 rfl) rfl ?_
  refine r_getO C (dk oJ0_charAt_5068e 4 rfl) kf_J0_9 (Z.1 i hi).2.2.1 ?_
  refine r_iload_n C 1 (dk oJ0_charAt_5068e 5 rfl) rfl ?_
  refine r_isi C Z (dk oJ0_charAt_5068e 6 rfl) cl_J0_495 st_J1_charAt_3b067 (c_J1_charAt_3b067 I J i k hi hk) rfl rfl (Nat.le_of_ble_eq_true rfl) ⟨Nat.le_of_ble_eq_true rfl, Nat.le_of_ble_eq_true rfl⟩ ⟨Nat.zero_le _, Nat.zero_le _⟩ (fun r12 I12 J12 h12 => ?_)
  obtain ⟨h12, e1_, e2_⟩ := h12
  have e1_ := e1_.symm
  have e2_ := e2_.symm
  subst e1_
  subst e2_
  subst h12
  refine hret (dk oJ0_charAt_5068e 7 rfl) (pk_charN (by have := (sWd_ch i hi k hk).2; omega)).1 ?_
  exact ⟨rfl, rfl, rfl⟩

set_option maxHeartbeats 1000000 in
set_option maxRecDepth 100000 in
theorem c_X8_isWord (hn : 117 ≤ n) (I : MI) (J : MJ) (t : Nat → Nat) (L : Nat) (hT : Tx I t L) (s_ i : Nat) (hi : i < 12) (hk : Tk I t L s_) : Ci l n ad cA D z 4 yX8_isWord cX8_isWord 3 .boolean I J [.ref (ad 1), .ref (z.1 i)] (fun r I' J' => r = b32 (isW t L s_ (sWd i)) ∧ I' = I ∧ J' = J) := by
  refine Ci.of (by decide) (Nat.le_of_ble_eq_true rfl) ?_
  intro p e s m args below meth c A C hin Z Q hret
  have hK := @tkK_lt t L s_
  have hL := hT.1
  have hsl := hk.1
  have hw := (sWd_len i hi).1
  have hw8 := (sWd_len i hi).2
  have hw0 : 0 < sLen.getD i 0 := (by decide : ∀ i, i < 12 → 0 < sLen.getD i 0) i hi
  have hE1 := wE_le (t := t) hsl
  have hE2 := @wE_ge t L s_
  have eK : tkK t L s_ = 1 ↔ s_ < L ∧ isLt (t s_) = true := by
    constructor
    · intro h
      rcases Nat.lt_or_ge s_ L with q | q
      · by_cases h1 : isLt (t s_) = true
        · exact ⟨q, h1⟩
        · by_cases h2 : isDg (t s_) = true
          · rw [(tkK_2 q (by simpa using h1) h2).1] at h; cases h
          · rw [(tkK_3 q (by simpa using h1) (by simpa using h2)).1] at h; cases h
      · rw [(tkK_0 q).1] at h; cases h
    · intro h
      exact (tkK_1 h.1 h.2).1
  have eW : isW t L s_ (sWd i) = true → tkK t L s_ = 1 := by
    intro h
    have h1 := (of_decide_eq_true h).1
    exact eK.mpr (runTo_all (q := fun i => isLt (t i)) 0 s_ s_ (by omega) (by omega) (show s_ < wE t L s_ by omega))
  refine r_aload_n C 0 (dk oX8_isWord 0 rfl) rfl ?_
  refine r_getI C (dk oX8_isWord 1 rfl) fl_X8_34 rfl (kn hn rfl) ?_
  rw [hk.2.1]
  refine r_iconst C (dk oX8_isWord 2 rfl) (v := nI 1) (by decide) ?_
  refine r_icmp_ne (tgt := 24) C (dk oX8_isWord 3 rfl) (by decide) (fun hb5 => ?_) (fun hb5 => ?_)
  · simp (disch := omega) only [nI_leI, nI_ltI, nI_eq, nI_eq0] at hb5
    refine r_iconst C (dk oX8_isWord 12 rfl) (v := nI 0) (by decide) ?_
    refine hret (dk oX8_isWord 13 rfl) rfl ?_
    refine ⟨?_, rfl, rfl⟩
    first
      | (rw [show isW t L s_ (sWd i) = false from decide_eq_false (fun q => hb21 (by have := q.1; omega))]; rfl)
      | (rw [show isW t L s_ (sWd i) = false from by cases hq : isW t L s_ (sWd i) with | true => exact absurd (eW hq) hb5 | false => rfl]; rfl)
  · simp (disch := omega) only [nI_leI, nI_ltI, nI_eq, nI_eq0] at hb5
    have hD := eK.mp hb5
    have eE : tkE t L s_ = wE t L s_ := (tkK_1 hD.1 hD.2).2
    refine r_aload_n C 0 (dk oX8_isWord 4 rfl) rfl ?_
    refine r_getI C (dk oX8_isWord 5 rfl) fl_X8_25 rfl (kn hn rfl) ?_
    rw [hk.2.2.2, eE]
    refine r_aload_n C 0 (dk oX8_isWord 6 rfl) rfl ?_
    refine r_getI C (dk oX8_isWord 7 rfl) fl_X8_31 rfl (kn hn rfl) ?_
    rw [hk.2.2.1]
    refine r_isub C (dk oX8_isWord 8 rfl) ?_
    rw [pk_sub (by omega)]
    refine r_aload_n C 1 (dk oX8_isWord 9 rfl) rfl ?_
    refine r_ivStr C Z (dk oX8_isWord 10 rfl) cl_X8_44 ji_J0_length_8abf5 (Z.1 i hi).1 (c_J0_length_8abf5 I J i hi) rfl rfl (Nat.le_of_ble_eq_true rfl) ⟨Nat.le_of_ble_eq_true rfl, Nat.le_of_ble_eq_true rfl⟩ ⟨Nat.zero_le _, Nat.zero_le _⟩ (fun r18 I18 J18 h18 => ?_)
    obtain ⟨h18, e1_, e2_⟩ := h18
    have e1_ := e1_.symm
    have e2_ := e2_.symm
    subst e1_
    subst e2_
    subst h18
    refine r_icmp_eq (tgt := 26) C (dk oX8_isWord 11 rfl) (by decide) (fun hb21 => ?_) (fun hb21 => ?_)
    · simp (disch := omega) only [nI_leI, nI_ltI, nI_eq, nI_eq0] at hb21
      have hlen : wE t L s_ = s_ + sLen.getD i 0 := by omega
      refine r_iconst C (dk oX8_isWord 14 rfl) (v := nI 0) (by decide) ?_
      refine r_istore_n (lo' := [(2, _), (0, _), (1, _)]) C (dk oX8_isWord 15 rfl) rfl (by decide) rfl ?_
      have L28 : ∀ (d_ : Nat) (k : Nat), sLen.getD i 0 - k < d_ → k ≤ sLen.getD i 0 → (∀ j, j < k → t (s_ + j) = (sWd i).getD j 0) → V p l e (rmL 4) s m args below meth c Q D A 3 0 0 n ad (mE cA ad I J) 28 [(0, .ref (ad 1)), (1, .ref (z.1 i)), (2, .int (nI k))] [] := by
        intro d_
        induction d_ with
        | zero => intros; exact absurd (by assumption) (Nat.not_lt_zero _)
        | succ d_ ih => 
          intro k hd_ hk2 hall
          refine r_iload_n C 2 (dk oX8_isWord 16 rfl) rfl ?_
          refine r_aload_n C 1 (dk oX8_isWord 17 rfl) rfl ?_
          refine r_ivStr C Z (dk oX8_isWord 18 rfl) cl_X8_44 ji_J0_length_8abf5 (Z.1 i hi).1 (c_J0_length_8abf5 I J i hi) rfl rfl (Nat.le_of_ble_eq_true rfl) ⟨Nat.le_of_ble_eq_true rfl, Nat.le_of_ble_eq_true rfl⟩ ⟨Nat.zero_le _, Nat.zero_le _⟩ (fun r30 I30 J30 h30 => ?_)
          obtain ⟨h30, e1_, e2_⟩ := h30
          have e1_ := e1_.symm
          have e2_ := e2_.symm
          subst e1_
          subst e2_
          subst h30
          refine r_icmp_ge (tgt := 63) C (dk oX8_isWord 19 rfl) (by decide) (fun hb33 => ?_) (fun hb33 => ?_)
          · simp (disch := omega) only [nI_leI, nI_ltI, nI_eq, nI_eq0] at hb33
            refine r_iconst C (dk oX8_isWord 35 rfl) (v := nI 1) (by decide) ?_
            refine hret (dk oX8_isWord 36 rfl) rfl ?_
            refine ⟨?_, rfl, rfl⟩
            rw [show isW t L s_ (sWd i) = true from decide_eq_true ⟨by omega, fun j hj => hall j (by omega)⟩]; rfl
          · simp (disch := omega) only [nI_leI, nI_ltI, nI_eq, nI_eq0] at hb33
            refine r_aload_n C 0 (dk oX8_isWord 20 rfl) rfl ?_
            refine r_getR C (dk oX8_isWord 21 rfl) fl_X8_9 rfl (kn hn rfl) ?_
            refine r_aload_n C 0 (dk oX8_isWord 22 rfl) rfl ?_
            refine r_getI C (dk oX8_isWord 23 rfl) fl_X8_31 rfl (kn hn rfl) ?_
            rw [hk.2.2.1]
            refine r_iload_n C 2 (dk oX8_isWord 24 rfl) rfl ?_
            refine r_iadd C (dk oX8_isWord 25 rfl) ?_
            rw [nI_add]
            refine r_iald C _ (dk oX8_isWord 26 rfl) rfl (kn hn rfl) rfl (by omega) (by decide) ?_
            have hbb := hT.2.2 (s_ + k) (by omega)
            have hb1 := hbb.1
            rw [hbb.2]
            refine r_aload_n C 1 (dk oX8_isWord 27 rfl) rfl ?_
            refine r_iload_n C 2 (dk oX8_isWord 28 rfl) rfl ?_
            refine r_ivStr C Z (dk oX8_isWord 29 rfl) cl_X8_49 ji_J0_charAt_5068e (Z.1 i hi).1 (c_J0_charAt_5068e I J i k hi (by omega)) rfl rfl (Nat.le_of_ble_eq_true rfl) ⟨Nat.le_of_ble_eq_true rfl, Nat.le_of_ble_eq_true rfl⟩ ⟨Nat.zero_le _, Nat.zero_le _⟩ (fun r49 I49 J49 h49 => ?_)
            obtain ⟨h49, e1_, e2_⟩ := h49
            have e1_ := e1_.symm
            have e2_ := e2_.symm
            subst e1_
            subst e2_
            subst h49
            refine r_icmp_eq (tgt := 57) C (dk oX8_isWord 30 rfl) (by decide) (fun hb52 => ?_) (fun hb52 => ?_)
            · have hc8 := (sWd_ch i hi k (by omega)).2
              simp (disch := omega) only [nI_leI, nI_ltI, nI_eq, nI_eq0] at hb52
              refine r_iinc (lo' := [(2, _), (0, _), (1, _)]) C 2 (dk oX8_isWord 33 rfl) rfl (by first | exact nI_inc _ | rfl) (by decide) rfl ?_
              refine r_goto (tgt := 28) C (dk oX8_isWord 34 rfl) (by decide) ?_
              refine V.sub [1, 2, 0] rfl ?_
              exact ih (k + 1) (by omega) (by omega) (fun j hj => by
                rcases Nat.lt_or_ge j k with q | q
                · exact hall j q
                · rw [show j = k by omega]; exact hb52)
            · have hc8 := (sWd_ch i hi k (by omega)).2
              simp (disch := omega) only [nI_leI, nI_ltI, nI_eq, nI_eq0] at hb52
              refine r_iconst C (dk oX8_isWord 31 rfl) (v := nI 0) (by decide) ?_
              refine hret (dk oX8_isWord 32 rfl) rfl ?_
              refine ⟨?_, rfl, rfl⟩
              rw [show isW t L s_ (sWd i) = false from decide_eq_false (fun q => hb52 (q.2 k (by omega)))]; rfl
      refine V.sub [1, 2, 0] rfl ?_
      exact L28 9 0 (by omega) (by omega) (fun j hj => absurd hj (Nat.not_lt_zero _))
    · simp (disch := omega) only [nI_leI, nI_ltI, nI_eq, nI_eq0] at hb21
      refine r_iconst C (dk oX8_isWord 12 rfl) (v := nI 0) (by decide) ?_
      refine hret (dk oX8_isWord 13 rfl) rfl ?_
      refine ⟨?_, rfl, rfl⟩
      first
        | (rw [show isW t L s_ (sWd i) = false from decide_eq_false (fun q => hb21 (by have := q.1; omega))]; rfl)
        | (rw [show isW t L s_ (sWd i) = false from by cases hq : isW t L s_ (sWd i) with | true => exact absurd (eW hq) hb5 | false => rfl]; rfl)

set_option maxHeartbeats 1000000 in
set_option maxRecDepth 100000 in
theorem c_X8_takesWord (hn : 117 ≤ n) (I : MI) (J : MJ) (t : Nat → Nat) (L : Nat) (hT : Tx I t L) (s_ i fn : Nat) (hi : i < 12) (hf : fn < 8) (h5 : I 1 5 = nI fn) (hk0 : fn = 0 → Tk I t L s_) : Ci l n ad cA D z 5 yX8_takesWord cX8_takesWord 3 .boolean I J [.ref (ad 1), .ref (z.1 i)] (fun r I' J' => (fn = 0 ∧ isW t L s_ (sWd i) = true ∧ r = b32 true ∧ txF I I' ∧ Tk I' t L (sk t L (s_ + (sWd i).length)) ∧ J' = J) ∨ (¬ (fn = 0 ∧ isW t L s_ (sWd i) = true) ∧ r = b32 false ∧ I' = I ∧ J' = J)) := by
  refine Ci.of (by decide) (Nat.le_of_ble_eq_true rfl) ?_
  intro p e s m args below meth c A C hin Z Q hret
  refine r_aload_n C 0 (dk oX8_takesWord 0 rfl) rfl ?_
  refine r_ivi C Z (dk oX8_takesWord 1 rfl) cl_X8_53 ci_X8_isSound rfl (kn hn rfl) (c_X8_isSound hn I J fn hf h5) rfl rfl (Nat.le_of_ble_eq_true rfl) ⟨Nat.le_of_ble_eq_true rfl, Nat.le_of_ble_eq_true rfl⟩ ⟨Nat.zero_le _, Nat.zero_le _⟩ (fun r1 I1 J1 h1 => ?_)
  obtain ⟨h1, e1_, e2_⟩ := h1
  have e1_ := e1_.symm
  have e2_ := e2_.symm
  subst e1_
  subst e2_
  subst h1
  refine r_if_eq (tgt := 19) C (dk oX8_takesWord 2 rfl) (by decide) (fun hb4 => ?_) (fun hb4 => ?_)
  · rw [b32_0, decide_eq_false_iff_not] at hb4
    refine r_iconst C (dk oX8_takesWord 9 rfl) (v := nI 0) (by decide) ?_
    refine r_istore_n (lo' := [(2, _), (0, _), (1, _)]) C (dk oX8_takesWord 10 rfl) rfl (by decide) rfl ?_
    refine r_iload_n C 0 (dk oX8_takesWord 11 rfl) rfl ?_
    refine r_if_eq (tgt := 29) C (dk oX8_takesWord 12 rfl) (by decide) (fun hb22 => ?_) (fun hb22 => ?_)
    · first
        | exact absurd hb22 (by decide)
        | refine r_iload_n C 0 (dk oX8_takesWord 15 rfl) rfl ?_
          refine hret (dk oX8_takesWord 16 rfl) (by first | exact b32_nar | rfl) ?_
          first
            | exact Or.inl ⟨hb4, hb12, rfl, h26.1, h26.2.1, h26.2.2⟩
            | exact Or.inr ⟨fun q => hb4 q.1, rfl, rfl, rfl⟩
            | exact Or.inr ⟨fun q => by rw [hb12] at q; exact absurd q.2 (by decide), rfl, rfl, rfl⟩
    · first
        | exact absurd rfl hb22
        | refine r_aload_n C 1 (dk oX8_takesWord 13 rfl) rfl ?_
          refine r_ivv C Z (dk oX8_takesWord 14 rfl) cl_X8_28 ci_X8_next rfl (kn hn rfl) (c_X8_next hn I J t L hT (s_ + (sWd i).length) (by rw [← hwe]; exact wE_le hk.1) (by rw [hk.2.2.2, (tkK_1 hD.1 hD.2).2, hwe])) rfl rfl (Nat.le_of_ble_eq_true rfl) ⟨Nat.le_of_ble_eq_true rfl, Nat.le_of_ble_eq_true rfl⟩ ⟨Nat.zero_le _, Nat.zero_le _⟩ (fun I26 J26 h26 => ?_)
          refine r_iload_n C 0 (dk oX8_takesWord 15 rfl) rfl ?_
          refine hret (dk oX8_takesWord 16 rfl) (by first | exact b32_nar | rfl) ?_
          first
            | exact Or.inl ⟨hb4, hb12, rfl, h26.1, h26.2.1, h26.2.2⟩
            | exact Or.inr ⟨fun q => hb4 q.1, rfl, rfl, rfl⟩
            | exact Or.inr ⟨fun q => by rw [hb12] at q; exact absurd q.2 (by decide), rfl, rfl, rfl⟩
  · rw [b32_n, decide_eq_true_eq] at hb4
    have hk := hk0 hb4
    refine r_aload_n C 0 (dk oX8_takesWord 3 rfl) rfl ?_
    refine r_aload_n C 1 (dk oX8_takesWord 4 rfl) rfl ?_
    refine r_ivi C Z (dk oX8_takesWord 5 rfl) cl_X8_57 ci_X8_isWord rfl (kn hn rfl) (c_X8_isWord hn I J t L hT s_ i hi hk) rfl rfl (Nat.le_of_ble_eq_true rfl) ⟨Nat.le_of_ble_eq_true rfl, Nat.le_of_ble_eq_true rfl⟩ ⟨Nat.zero_le _, Nat.zero_le _⟩ (fun r9 I9 J9 h9 => ?_)
    obtain ⟨h9, e1_, e2_⟩ := h9
    have e1_ := e1_.symm
    have e2_ := e2_.symm
    subst e1_
    subst e2_
    subst h9
    refine r_if_eq (tgt := 19) C (dk oX8_takesWord 6 rfl) (by decide) (fun hb12 => ?_) (fun hb12 => ?_)
    · rw [b32_0] at hb12
      refine r_iconst C (dk oX8_takesWord 9 rfl) (v := nI 0) (by decide) ?_
      refine r_istore_n (lo' := [(2, _), (0, _), (1, _)]) C (dk oX8_takesWord 10 rfl) rfl (by decide) rfl ?_
      refine r_iload_n C 0 (dk oX8_takesWord 11 rfl) rfl ?_
      refine r_if_eq (tgt := 29) C (dk oX8_takesWord 12 rfl) (by decide) (fun hb22 => ?_) (fun hb22 => ?_)
      · first
          | exact absurd hb22 (by decide)
          | refine r_iload_n C 0 (dk oX8_takesWord 15 rfl) rfl ?_
            refine hret (dk oX8_takesWord 16 rfl) (by first | exact b32_nar | rfl) ?_
            first
              | exact Or.inl ⟨hb4, hb12, rfl, h26.1, h26.2.1, h26.2.2⟩
              | exact Or.inr ⟨fun q => hb4 q.1, rfl, rfl, rfl⟩
              | exact Or.inr ⟨fun q => by rw [hb12] at q; exact absurd q.2 (by decide), rfl, rfl, rfl⟩
      · first
          | exact absurd rfl hb22
          | refine r_aload_n C 1 (dk oX8_takesWord 13 rfl) rfl ?_
            refine r_ivv C Z (dk oX8_takesWord 14 rfl) cl_X8_28 ci_X8_next rfl (kn hn rfl) (c_X8_next hn I J t L hT (s_ + (sWd i).length) (by rw [← hwe]; exact wE_le hk.1) (by rw [hk.2.2.2, (tkK_1 hD.1 hD.2).2, hwe])) rfl rfl (Nat.le_of_ble_eq_true rfl) ⟨Nat.le_of_ble_eq_true rfl, Nat.le_of_ble_eq_true rfl⟩ ⟨Nat.zero_le _, Nat.zero_le _⟩ (fun I26 J26 h26 => ?_)
            refine r_iload_n C 0 (dk oX8_takesWord 15 rfl) rfl ?_
            refine hret (dk oX8_takesWord 16 rfl) (by first | exact b32_nar | rfl) ?_
            first
              | exact Or.inl ⟨hb4, hb12, rfl, h26.1, h26.2.1, h26.2.2⟩
              | exact Or.inr ⟨fun q => hb4 q.1, rfl, rfl, rfl⟩
              | exact Or.inr ⟨fun q => by rw [hb12] at q; exact absurd q.2 (by decide), rfl, rfl, rfl⟩
    · rw [b32_n] at hb12
      have hwe : wE t L s_ = s_ + (sWd i).length := (of_decide_eq_true hb12).1
      have hw0 : 0 < (sWd i).length := (by decide : ∀ i, i < 12 → 0 < (sWd i).length) i hi
      have hD : s_ < L ∧ isLt (t s_) = true := runTo_all (q := fun i => isLt (t i)) 0 s_ s_ (by omega) (by omega) (show s_ < wE t L s_ by omega)
      refine r_iconst C (dk oX8_takesWord 7 rfl) (v := nI 1) (by decide) ?_
      refine r_goto (tgt := 20) C (dk oX8_takesWord 8 rfl) (by decide) ?_
      refine r_istore_n (lo' := [(2, _), (0, _), (1, _)]) C (dk oX8_takesWord 10 rfl) rfl (by decide) rfl ?_
      refine r_iload_n C 0 (dk oX8_takesWord 11 rfl) rfl ?_
      refine r_if_eq (tgt := 29) C (dk oX8_takesWord 12 rfl) (by decide) (fun hb22 => ?_) (fun hb22 => ?_)
      · first
          | exact absurd hb22 (by decide)
          | refine r_iload_n C 0 (dk oX8_takesWord 15 rfl) rfl ?_
            refine hret (dk oX8_takesWord 16 rfl) (by first | exact b32_nar | rfl) ?_
            first
              | exact Or.inl ⟨hb4, hb12, rfl, h26.1, h26.2.1, h26.2.2⟩
              | exact Or.inr ⟨fun q => hb4 q.1, rfl, rfl, rfl⟩
              | exact Or.inr ⟨fun q => by rw [hb12] at q; exact absurd q.2 (by decide), rfl, rfl, rfl⟩
      · first
          | exact absurd rfl hb22
          | refine r_aload_n C 1 (dk oX8_takesWord 13 rfl) rfl ?_
            refine r_ivv C Z (dk oX8_takesWord 14 rfl) cl_X8_28 ci_X8_next rfl (kn hn rfl) (c_X8_next hn I J t L hT (s_ + (sWd i).length) (by rw [← hwe]; exact wE_le hk.1) (by rw [hk.2.2.2, (tkK_1 hD.1 hD.2).2, hwe])) rfl rfl (Nat.le_of_ble_eq_true rfl) ⟨Nat.le_of_ble_eq_true rfl, Nat.le_of_ble_eq_true rfl⟩ ⟨Nat.zero_le _, Nat.zero_le _⟩ (fun I26 J26 h26 => ?_)
            refine r_iload_n C 0 (dk oX8_takesWord 15 rfl) rfl ?_
            refine hret (dk oX8_takesWord 16 rfl) (by first | exact b32_nar | rfl) ?_
            first
              | exact Or.inl ⟨hb4, hb12, rfl, h26.1, h26.2.1, h26.2.2⟩
              | exact Or.inr ⟨fun q => hb4 q.1, rfl, rfl, rfl⟩
              | exact Or.inr ⟨fun q => by rw [hb12] at q; exact absurd q.2 (by decide), rfl, rfl, rfl⟩

end STRS
